section
-- ===== PART A: goes FIRST, ahead of the names: the tables' words, and 'selects' of the private methods out of them =====
/-- a private method of a class that the tables say can be made, by its rows of tables_1 -/
def lw_okq (q : MethodName × Nat) : Prop := (q.1.cls ≠ "java/lang/invoke/MethodHandle" ∧ q.1.cls ≠ "java/lang/invoke/VarHandle") ∧ Cond.instantiable q.1.cls q.2 ∈ tables_1 ∧ Cond.privateMethod q.1 ∈ tables_1 ∧ Cond.instanceMethod q.1 ∈ tables_1
theorem lw_p0 : lw_okq (⟨"MarinaBerths$TableText", "isAt", "(IC)Z"⟩, 4) := ⟨⟨by decide +kernel, by decide +kernel⟩, List.mem_of_getElem? (i := 189) (by decide +kernel), List.mem_of_getElem? (i := 290) (by decide +kernel), List.mem_of_getElem? (i := 291) (by decide +kernel)⟩
theorem lw_p1 : lw_okq (⟨"MarinaBerths$TableText", "endOfDigits", "(I)I"⟩, 4) := ⟨⟨by decide +kernel, by decide +kernel⟩, List.mem_of_getElem? (i := 189) (by decide +kernel), List.mem_of_getElem? (i := 294) (by decide +kernel), List.mem_of_getElem? (i := 295) (by decide +kernel)⟩
theorem lw_p2 : lw_okq (⟨"MarinaBerths$TableText", "valueOf", "(II)I"⟩, 4) := ⟨⟨by decide +kernel, by decide +kernel⟩, List.mem_of_getElem? (i := 189) (by decide +kernel), List.mem_of_getElem? (i := 298) (by decide +kernel), List.mem_of_getElem? (i := 299) (by decide +kernel)⟩
theorem lw_p3 : lw_okq (⟨"java/lang/Throwable", "fillInStackTrace", "(I)Ljava/lang/Throwable;"⟩, 6) := ⟨⟨by decide +kernel, by decide +kernel⟩, List.mem_of_getElem? (i := 370) (by decide +kernel), List.mem_of_getElem? (i := 368) (by decide +kernel), List.mem_of_getElem? (i := 369) (by decide +kernel)⟩
theorem lw_p4 : lw_okq (⟨"MarinaBerths", "withBerths", "(J)J"⟩, 6) := ⟨⟨by decide +kernel, by decide +kernel⟩, List.mem_of_getElem? (i := 16) (by decide +kernel), List.mem_of_getElem? (i := 401) (by decide +kernel), List.mem_of_getElem? (i := 402) (by decide +kernel)⟩
theorem lw_p5 : lw_okq (⟨"MarinaBerths", "checkBerth", "(I)V"⟩, 6) := ⟨⟨by decide +kernel, by decide +kernel⟩, List.mem_of_getElem? (i := 16) (by decide +kernel), List.mem_of_getElem? (i := 409) (by decide +kernel), List.mem_of_getElem? (i := 410) (by decide +kernel)⟩
theorem lw_p6 : lw_okq (⟨"MarinaBerths", "withBoats", "(J)J"⟩, 6) := ⟨⟨by decide +kernel, by decide +kernel⟩, List.mem_of_getElem? (i := 16) (by decide +kernel), List.mem_of_getElem? (i := 446) (by decide +kernel), List.mem_of_getElem? (i := 447) (by decide +kernel)⟩
theorem lw_p7 : lw_okq (⟨"MarinaBerths", "checkBoat", "(I)V"⟩, 6) := ⟨⟨by decide +kernel, by decide +kernel⟩, List.mem_of_getElem? (i := 16) (by decide +kernel), List.mem_of_getElem? (i := 454) (by decide +kernel), List.mem_of_getElem? (i := 455) (by decide +kernel)⟩
theorem lw_p8 : lw_okq (⟨"MarinaBerths", "remember", "()V"⟩, 6) := ⟨⟨by decide +kernel, by decide +kernel⟩, List.mem_of_getElem? (i := 16) (by decide +kernel), List.mem_of_getElem? (i := 492) (by decide +kernel), List.mem_of_getElem? (i := 493) (by decide +kernel)⟩
theorem lw_p9 : lw_okq (⟨"MarinaBerths", "dropOldestRecord", "()V"⟩, 6) := ⟨⟨by decide +kernel, by decide +kernel⟩, List.mem_of_getElem? (i := 16) (by decide +kernel), List.mem_of_getElem? (i := 496) (by decide +kernel), List.mem_of_getElem? (i := 497) (by decide +kernel)⟩
theorem lw_p10 : lw_okq (⟨"MarinaBerths", "maySet", "(II)Z"⟩, 6) := ⟨⟨by decide +kernel, by decide +kernel⟩, List.mem_of_getElem? (i := 16) (by decide +kernel), List.mem_of_getElem? (i := 589) (by decide +kernel), List.mem_of_getElem? (i := 590) (by decide +kernel)⟩
theorem lw_p11 : lw_okq (⟨"MarinaBerths$Marina", "chargeAll", "()Z"⟩, 15) := ⟨⟨by decide +kernel, by decide +kernel⟩, List.mem_of_getElem? (i := 24) (by decide +kernel), List.mem_of_getElem? (i := 705) (by decide +kernel), List.mem_of_getElem? (i := 706) (by decide +kernel)⟩
theorem lw_p12 : lw_okq (⟨"MarinaBerths$Marina", "feeOfDay", "(LMarinaBerths$Boat;)J"⟩, 15) := ⟨⟨by decide +kernel, by decide +kernel⟩, List.mem_of_getElem? (i := 24) (by decide +kernel), List.mem_of_getElem? (i := 709) (by decide +kernel), List.mem_of_getElem? (i := 710) (by decide +kernel)⟩
theorem lw_p13 : lw_okq (⟨"MarinaBerths$Marina", "shelterFor", "(LMarinaBerths$Boat;)I"⟩, 15) := ⟨⟨by decide +kernel, by decide +kernel⟩, List.mem_of_getElem? (i := 24) (by decide +kernel), List.mem_of_getElem? (i := 729) (by decide +kernel), List.mem_of_getElem? (i := 730) (by decide +kernel)⟩
theorem lw_p14 : lw_okq (⟨"MarinaBerths$WinterPlan", "mostFrom", "(I)I"⟩, 4) := ⟨⟨by decide +kernel, by decide +kernel⟩, List.mem_of_getElem? (i := 170) (by decide +kernel), List.mem_of_getElem? (i := 741) (by decide +kernel), List.mem_of_getElem? (i := 742) (by decide +kernel)⟩
theorem lw_p15 : lw_okq (⟨"MarinaBerths$Marina", "beginSpring", "()V"⟩, 15) := ⟨⟨by decide +kernel, by decide +kernel⟩, List.mem_of_getElem? (i := 24) (by decide +kernel), List.mem_of_getElem? (i := 748) (by decide +kernel), List.mem_of_getElem? (i := 749) (by decide +kernel)⟩
def lw_privs_1 : List (MethodName × Nat) := [(⟨"MarinaBerths$TableText", "isAt", "(IC)Z"⟩, 4), (⟨"MarinaBerths$TableText", "endOfDigits", "(I)I"⟩, 4), (⟨"MarinaBerths$TableText", "valueOf", "(II)I"⟩, 4), (⟨"java/lang/Throwable", "fillInStackTrace", "(I)Ljava/lang/Throwable;"⟩, 6), (⟨"MarinaBerths", "withBerths", "(J)J"⟩, 6), (⟨"MarinaBerths", "checkBerth", "(I)V"⟩, 6), (⟨"MarinaBerths", "withBoats", "(J)J"⟩, 6), (⟨"MarinaBerths", "checkBoat", "(I)V"⟩, 6), (⟨"MarinaBerths", "remember", "()V"⟩, 6), (⟨"MarinaBerths", "dropOldestRecord", "()V"⟩, 6), (⟨"MarinaBerths", "maySet", "(II)Z"⟩, 6), (⟨"MarinaBerths$Marina", "chargeAll", "()Z"⟩, 15), (⟨"MarinaBerths$Marina", "feeOfDay", "(LMarinaBerths$Boat;)J"⟩, 15), (⟨"MarinaBerths$Marina", "shelterFor", "(LMarinaBerths$Boat;)I"⟩, 15), (⟨"MarinaBerths$WinterPlan", "mostFrom", "(I)I"⟩, 4), (⟨"MarinaBerths$Marina", "beginSpring", "()V"⟩, 15)]
theorem lw_r1 : ∀ q ∈ lw_privs_1, lw_okq q := List.forall_mem_cons.mpr ⟨lw_p0, List.forall_mem_cons.mpr ⟨lw_p1, List.forall_mem_cons.mpr ⟨lw_p2, List.forall_mem_cons.mpr ⟨lw_p3, List.forall_mem_cons.mpr ⟨lw_p4, List.forall_mem_cons.mpr ⟨lw_p5, List.forall_mem_cons.mpr ⟨lw_p6, List.forall_mem_cons.mpr ⟨lw_p7, List.forall_mem_cons.mpr ⟨lw_p8, List.forall_mem_cons.mpr ⟨lw_p9, List.forall_mem_cons.mpr ⟨lw_p10, List.forall_mem_cons.mpr ⟨lw_p11, List.forall_mem_cons.mpr ⟨lw_p12, List.forall_mem_cons.mpr ⟨lw_p13, List.forall_mem_cons.mpr ⟨lw_p14, List.forall_mem_cons.mpr ⟨lw_p15, fun _ h => absurd h List.not_mem_nil⟩⟩⟩⟩⟩⟩⟩⟩⟩⟩⟩⟩⟩⟩⟩⟩
theorem lw_p16 : lw_okq (⟨"MarinaBerths", "thinkOfWinter", "()V"⟩, 6) := ⟨⟨by decide +kernel, by decide +kernel⟩, List.mem_of_getElem? (i := 16) (by decide +kernel), List.mem_of_getElem? (i := 793) (by decide +kernel), List.mem_of_getElem? (i := 794) (by decide +kernel)⟩
theorem lw_p17 : lw_okq (⟨"MarinaBerthsModel", "refused", "(I)Z"⟩, 16) := ⟨⟨by decide +kernel, by decide +kernel⟩, List.mem_of_getElem? (i := 838) (by decide +kernel), List.mem_of_getElem? (i := 902) (by decide +kernel), List.mem_of_getElem? (i := 903) (by decide +kernel)⟩
theorem lw_p18 : lw_okq (⟨"MarinaBerthsModel", "reads", "()I"⟩, 16) := ⟨⟨by decide +kernel, by decide +kernel⟩, List.mem_of_getElem? (i := 838) (by decide +kernel), List.mem_of_getElem? (i := 910) (by decide +kernel), List.mem_of_getElem? (i := 911) (by decide +kernel)⟩
theorem lw_p19 : lw_okq (⟨"MarinaBerthsModel", "readsNumber", "()V"⟩, 16) := ⟨⟨by decide +kernel, by decide +kernel⟩, List.mem_of_getElem? (i := 838) (by decide +kernel), List.mem_of_getElem? (i := 914) (by decide +kernel), List.mem_of_getElem? (i := 915) (by decide +kernel)⟩
theorem lw_p20 : lw_okq (⟨"MarinaBerthsModel", "next", "()I"⟩, 16) := ⟨⟨by decide +kernel, by decide +kernel⟩, List.mem_of_getElem? (i := 838) (by decide +kernel), List.mem_of_getElem? (i := 918) (by decide +kernel), List.mem_of_getElem? (i := 919) (by decide +kernel)⟩
theorem lw_p21 : lw_okq (⟨"MarinaBerthsModel", "takes", "(II)I"⟩, 16) := ⟨⟨by decide +kernel, by decide +kernel⟩, List.mem_of_getElem? (i := 838) (by decide +kernel), List.mem_of_getElem? (i := 922) (by decide +kernel), List.mem_of_getElem? (i := 923) (by decide +kernel)⟩
theorem lw_p22 : lw_okq (⟨"MarinaBerthsModel", "saves", "()V"⟩, 16) := ⟨⟨by decide +kernel, by decide +kernel⟩, List.mem_of_getElem? (i := 838) (by decide +kernel), List.mem_of_getElem? (i := 929) (by decide +kernel), List.mem_of_getElem? (i := 930) (by decide +kernel)⟩
theorem lw_p23 : lw_okq (⟨"MarinaBerthsModel", "lowOn", "(I)I"⟩, 16) := ⟨⟨by decide +kernel, by decide +kernel⟩, List.mem_of_getElem? (i := 838) (by decide +kernel), List.mem_of_getElem? (i := 937) (by decide +kernel), List.mem_of_getElem? (i := 938) (by decide +kernel)⟩
theorem lw_p24 : lw_okq (⟨"MarinaBerthsModel", "sets", "(III)V"⟩, 16) := ⟨⟨by decide +kernel, by decide +kernel⟩, List.mem_of_getElem? (i := 838) (by decide +kernel), List.mem_of_getElem? (i := 953) (by decide +kernel), List.mem_of_getElem? (i := 954) (by decide +kernel)⟩
theorem lw_p25 : lw_okq (⟨"MarinaBerthsModel", "canSet", "(II)Z"⟩, 16) := ⟨⟨by decide +kernel, by decide +kernel⟩, List.mem_of_getElem? (i := 838) (by decide +kernel), List.mem_of_getElem? (i := 961) (by decide +kernel), List.mem_of_getElem? (i := 962) (by decide +kernel)⟩
theorem lw_p26 : lw_okq (⟨"MarinaBerthsModel", "isBerth", "(I)Z"⟩, 16) := ⟨⟨by decide +kernel, by decide +kernel⟩, List.mem_of_getElem? (i := 838) (by decide +kernel), List.mem_of_getElem? (i := 969) (by decide +kernel), List.mem_of_getElem? (i := 970) (by decide +kernel)⟩
theorem lw_p27 : lw_okq (⟨"MarinaBerthsModel", "ofBerth", "(II)I"⟩, 16) := ⟨⟨by decide +kernel, by decide +kernel⟩, List.mem_of_getElem? (i := 838) (by decide +kernel), List.mem_of_getElem? (i := 973) (by decide +kernel), List.mem_of_getElem? (i := 974) (by decide +kernel)⟩
theorem lw_p28 : lw_okq (⟨"MarinaBerthsModel", "berthTold", "(II)I"⟩, 16) := ⟨⟨by decide +kernel, by decide +kernel⟩, List.mem_of_getElem? (i := 838) (by decide +kernel), List.mem_of_getElem? (i := 981) (by decide +kernel), List.mem_of_getElem? (i := 982) (by decide +kernel)⟩
theorem lw_p29 : lw_okq (⟨"MarinaBerthsModel", "boatIn", "(I)I"⟩, 16) := ⟨⟨by decide +kernel, by decide +kernel⟩, List.mem_of_getElem? (i := 838) (by decide +kernel), List.mem_of_getElem? (i := 985) (by decide +kernel), List.mem_of_getElem? (i := 986) (by decide +kernel)⟩
theorem lw_p30 : lw_okq (⟨"MarinaBerthsModel", "ofBoat", "(II)I"⟩, 16) := ⟨⟨by decide +kernel, by decide +kernel⟩, List.mem_of_getElem? (i := 838) (by decide +kernel), List.mem_of_getElem? (i := 989) (by decide +kernel), List.mem_of_getElem? (i := 990) (by decide +kernel)⟩
theorem lw_p31 : lw_okq (⟨"MarinaBerthsModel", "lowest", "()I"⟩, 16) := ⟨⟨by decide +kernel, by decide +kernel⟩, List.mem_of_getElem? (i := 838) (by decide +kernel), List.mem_of_getElem? (i := 993) (by decide +kernel), List.mem_of_getElem? (i := 994) (by decide +kernel)⟩
def lw_privs_2 : List (MethodName × Nat) := [(⟨"MarinaBerths", "thinkOfWinter", "()V"⟩, 6), (⟨"MarinaBerthsModel", "refused", "(I)Z"⟩, 16), (⟨"MarinaBerthsModel", "reads", "()I"⟩, 16), (⟨"MarinaBerthsModel", "readsNumber", "()V"⟩, 16), (⟨"MarinaBerthsModel", "next", "()I"⟩, 16), (⟨"MarinaBerthsModel", "takes", "(II)I"⟩, 16), (⟨"MarinaBerthsModel", "saves", "()V"⟩, 16), (⟨"MarinaBerthsModel", "lowOn", "(I)I"⟩, 16), (⟨"MarinaBerthsModel", "sets", "(III)V"⟩, 16), (⟨"MarinaBerthsModel", "canSet", "(II)Z"⟩, 16), (⟨"MarinaBerthsModel", "isBerth", "(I)Z"⟩, 16), (⟨"MarinaBerthsModel", "ofBerth", "(II)I"⟩, 16), (⟨"MarinaBerthsModel", "berthTold", "(II)I"⟩, 16), (⟨"MarinaBerthsModel", "boatIn", "(I)I"⟩, 16), (⟨"MarinaBerthsModel", "ofBoat", "(II)I"⟩, 16), (⟨"MarinaBerthsModel", "lowest", "()I"⟩, 16)]
theorem lw_r2 : ∀ q ∈ lw_privs_2, lw_okq q := List.forall_mem_cons.mpr ⟨lw_p16, List.forall_mem_cons.mpr ⟨lw_p17, List.forall_mem_cons.mpr ⟨lw_p18, List.forall_mem_cons.mpr ⟨lw_p19, List.forall_mem_cons.mpr ⟨lw_p20, List.forall_mem_cons.mpr ⟨lw_p21, List.forall_mem_cons.mpr ⟨lw_p22, List.forall_mem_cons.mpr ⟨lw_p23, List.forall_mem_cons.mpr ⟨lw_p24, List.forall_mem_cons.mpr ⟨lw_p25, List.forall_mem_cons.mpr ⟨lw_p26, List.forall_mem_cons.mpr ⟨lw_p27, List.forall_mem_cons.mpr ⟨lw_p28, List.forall_mem_cons.mpr ⟨lw_p29, List.forall_mem_cons.mpr ⟨lw_p30, List.forall_mem_cons.mpr ⟨lw_p31, fun _ h => absurd h List.not_mem_nil⟩⟩⟩⟩⟩⟩⟩⟩⟩⟩⟩⟩⟩⟩⟩⟩
theorem lw_p32 : lw_okq (⟨"MarinaBerthsModel", "isFit", "(II)Z"⟩, 16) := ⟨⟨by decide +kernel, by decide +kernel⟩, List.mem_of_getElem? (i := 838) (by decide +kernel), List.mem_of_getElem? (i := 997) (by decide +kernel), List.mem_of_getElem? (i := 998) (by decide +kernel)⟩
theorem lw_p33 : lw_okq (⟨"MarinaBerthsModel", "isLongEnough", "(II)Z"⟩, 16) := ⟨⟨by decide +kernel, by decide +kernel⟩, List.mem_of_getElem? (i := 838) (by decide +kernel), List.mem_of_getElem? (i := 1001) (by decide +kernel), List.mem_of_getElem? (i := 1002) (by decide +kernel)⟩
theorem lw_p34 : lw_okq (⟨"MarinaBerthsModel", "missing", "(II)I"⟩, 16) := ⟨⟨by decide +kernel, by decide +kernel⟩, List.mem_of_getElem? (i := 838) (by decide +kernel), List.mem_of_getElem? (i := 1005) (by decide +kernel), List.mem_of_getElem? (i := 1006) (by decide +kernel)⟩
theorem lw_p35 : lw_okq (⟨"MarinaBerthsModel", "isBoat", "(I)Z"⟩, 16) := ⟨⟨by decide +kernel, by decide +kernel⟩, List.mem_of_getElem? (i := 838) (by decide +kernel), List.mem_of_getElem? (i := 1013) (by decide +kernel), List.mem_of_getElem? (i := 1014) (by decide +kernel)⟩
theorem lw_p36 : lw_okq (⟨"MarinaBerthsModel", "boatTold", "(II)I"⟩, 16) := ⟨⟨by decide +kernel, by decide +kernel⟩, List.mem_of_getElem? (i := 838) (by decide +kernel), List.mem_of_getElem? (i := 1017) (by decide +kernel), List.mem_of_getElem? (i := 1018) (by decide +kernel)⟩
theorem lw_p37 : lw_okq (⟨"MarinaBerthsModel", "points", "(I)I"⟩, 16) := ⟨⟨by decide +kernel, by decide +kernel⟩, List.mem_of_getElem? (i := 838) (by decide +kernel), List.mem_of_getElem? (i := 1021) (by decide +kernel), List.mem_of_getElem? (i := 1022) (by decide +kernel)⟩
theorem lw_p38 : lw_okq (⟨"MarinaBerthsModel", "isAground", "(II)Z"⟩, 16) := ⟨⟨by decide +kernel, by decide +kernel⟩, List.mem_of_getElem? (i := 838) (by decide +kernel), List.mem_of_getElem? (i := 1025) (by decide +kernel), List.mem_of_getElem? (i := 1026) (by decide +kernel)⟩
theorem lw_p39 : lw_okq (⟨"MarinaBerthsModel", "areBoth", "(II)Z"⟩, 16) := ⟨⟨by decide +kernel, by decide +kernel⟩, List.mem_of_getElem? (i := 838) (by decide +kernel), List.mem_of_getElem? (i := 1033) (by decide +kernel), List.mem_of_getElem? (i := 1034) (by decide +kernel)⟩
theorem lw_p40 : lw_okq (⟨"MarinaBerthsModel", "infoTold", "(I)I"⟩, 16) := ⟨⟨by decide +kernel, by decide +kernel⟩, List.mem_of_getElem? (i := 838) (by decide +kernel), List.mem_of_getElem? (i := 1041) (by decide +kernel), List.mem_of_getElem? (i := 1042) (by decide +kernel)⟩
theorem lw_p41 : lw_okq (⟨"MarinaBerthsModel", "free", "()I"⟩, 16) := ⟨⟨by decide +kernel, by decide +kernel⟩, List.mem_of_getElem? (i := 838) (by decide +kernel), List.mem_of_getElem? (i := 1045) (by decide +kernel), List.mem_of_getElem? (i := 1046) (by decide +kernel)⟩
theorem lw_p42 : lw_okq (⟨"MarinaBerthsModel", "countIn", "(I)I"⟩, 16) := ⟨⟨by decide +kernel, by decide +kernel⟩, List.mem_of_getElem? (i := 838) (by decide +kernel), List.mem_of_getElem? (i := 1049) (by decide +kernel), List.mem_of_getElem? (i := 1050) (by decide +kernel)⟩
theorem lw_p43 : lw_okq (⟨"MarinaBerthsModel", "aground", "()I"⟩, 16) := ⟨⟨by decide +kernel, by decide +kernel⟩, List.mem_of_getElem? (i := 838) (by decide +kernel), List.mem_of_getElem? (i := 1053) (by decide +kernel), List.mem_of_getElem? (i := 1054) (by decide +kernel)⟩
theorem lw_p44 : lw_okq (⟨"MarinaBerthsModel", "isOpen", "(I)Z"⟩, 16) := ⟨⟨by decide +kernel, by decide +kernel⟩, List.mem_of_getElem? (i := 838) (by decide +kernel), List.mem_of_getElem? (i := 1061) (by decide +kernel), List.mem_of_getElem? (i := 1062) (by decide +kernel)⟩
theorem lw_p45 : lw_okq (⟨"MarinaBerthsModel", "puts", "(III)V"⟩, 16) := ⟨⟨by decide +kernel, by decide +kernel⟩, List.mem_of_getElem? (i := 838) (by decide +kernel), List.mem_of_getElem? (i := 1065) (by decide +kernel), List.mem_of_getElem? (i := 1066) (by decide +kernel)⟩
theorem lw_p46 : lw_okq (⟨"MarinaBerthsModel", "canChange", "(II)Z"⟩, 16) := ⟨⟨by decide +kernel, by decide +kernel⟩, List.mem_of_getElem? (i := 838) (by decide +kernel), List.mem_of_getElem? (i := 1077) (by decide +kernel), List.mem_of_getElem? (i := 1078) (by decide +kernel)⟩
theorem lw_p47 : lw_okq (⟨"MarinaBerthsModel", "waits", "(I)V"⟩, 16) := ⟨⟨by decide +kernel, by decide +kernel⟩, List.mem_of_getElem? (i := 838) (by decide +kernel), List.mem_of_getElem? (i := 1085) (by decide +kernel), List.mem_of_getElem? (i := 1086) (by decide +kernel)⟩
def lw_privs_3 : List (MethodName × Nat) := [(⟨"MarinaBerthsModel", "isFit", "(II)Z"⟩, 16), (⟨"MarinaBerthsModel", "isLongEnough", "(II)Z"⟩, 16), (⟨"MarinaBerthsModel", "missing", "(II)I"⟩, 16), (⟨"MarinaBerthsModel", "isBoat", "(I)Z"⟩, 16), (⟨"MarinaBerthsModel", "boatTold", "(II)I"⟩, 16), (⟨"MarinaBerthsModel", "points", "(I)I"⟩, 16), (⟨"MarinaBerthsModel", "isAground", "(II)Z"⟩, 16), (⟨"MarinaBerthsModel", "areBoth", "(II)Z"⟩, 16), (⟨"MarinaBerthsModel", "infoTold", "(I)I"⟩, 16), (⟨"MarinaBerthsModel", "free", "()I"⟩, 16), (⟨"MarinaBerthsModel", "countIn", "(I)I"⟩, 16), (⟨"MarinaBerthsModel", "aground", "()I"⟩, 16), (⟨"MarinaBerthsModel", "isOpen", "(I)Z"⟩, 16), (⟨"MarinaBerthsModel", "puts", "(III)V"⟩, 16), (⟨"MarinaBerthsModel", "canChange", "(II)Z"⟩, 16), (⟨"MarinaBerthsModel", "waits", "(I)V"⟩, 16)]
theorem lw_r3 : ∀ q ∈ lw_privs_3, lw_okq q := List.forall_mem_cons.mpr ⟨lw_p32, List.forall_mem_cons.mpr ⟨lw_p33, List.forall_mem_cons.mpr ⟨lw_p34, List.forall_mem_cons.mpr ⟨lw_p35, List.forall_mem_cons.mpr ⟨lw_p36, List.forall_mem_cons.mpr ⟨lw_p37, List.forall_mem_cons.mpr ⟨lw_p38, List.forall_mem_cons.mpr ⟨lw_p39, List.forall_mem_cons.mpr ⟨lw_p40, List.forall_mem_cons.mpr ⟨lw_p41, List.forall_mem_cons.mpr ⟨lw_p42, List.forall_mem_cons.mpr ⟨lw_p43, List.forall_mem_cons.mpr ⟨lw_p44, List.forall_mem_cons.mpr ⟨lw_p45, List.forall_mem_cons.mpr ⟨lw_p46, List.forall_mem_cons.mpr ⟨lw_p47, fun _ h => absurd h List.not_mem_nil⟩⟩⟩⟩⟩⟩⟩⟩⟩⟩⟩⟩⟩⟩⟩⟩
theorem lw_p48 : lw_okq (⟨"MarinaBerthsModel", "ahead", "(I)I"⟩, 16) := ⟨⟨by decide +kernel, by decide +kernel⟩, List.mem_of_getElem? (i := 838) (by decide +kernel), List.mem_of_getElem? (i := 1089) (by decide +kernel), List.mem_of_getElem? (i := 1090) (by decide +kernel)⟩
theorem lw_p49 : lw_okq (⟨"MarinaBerthsModel", "waitingAt", "(I)I"⟩, 16) := ⟨⟨by decide +kernel, by decide +kernel⟩, List.mem_of_getElem? (i := 838) (by decide +kernel), List.mem_of_getElem? (i := 1097) (by decide +kernel), List.mem_of_getElem? (i := 1098) (by decide +kernel)⟩
theorem lw_p50 : lw_okq (⟨"MarinaBerthsModel", "bestOf", "(I)I"⟩, 16) := ⟨⟨by decide +kernel, by decide +kernel⟩, List.mem_of_getElem? (i := 838) (by decide +kernel), List.mem_of_getElem? (i := 1109) (by decide +kernel), List.mem_of_getElem? (i := 1110) (by decide +kernel)⟩
theorem lw_p51 : lw_okq (⟨"MarinaBerthsModel", "keeps", "()V"⟩, 16) := ⟨⟨by decide +kernel, by decide +kernel⟩, List.mem_of_getElem? (i := 838) (by decide +kernel), List.mem_of_getElem? (i := 1117) (by decide +kernel), List.mem_of_getElem? (i := 1118) (by decide +kernel)⟩
theorem lw_p52 : lw_okq (⟨"MarinaBerthsModel", "passes", "()I"⟩, 16) := ⟨⟨by decide +kernel, by decide +kernel⟩, List.mem_of_getElem? (i := 838) (by decide +kernel), List.mem_of_getElem? (i := 1121) (by decide +kernel), List.mem_of_getElem? (i := 1122) (by decide +kernel)⟩
theorem lw_p53 : lw_okq (⟨"MarinaBerthsModel", "fee", "(I)I"⟩, 16) := ⟨⟨by decide +kernel, by decide +kernel⟩, List.mem_of_getElem? (i := 838) (by decide +kernel), List.mem_of_getElem? (i := 1125) (by decide +kernel), List.mem_of_getElem? (i := 1126) (by decide +kernel)⟩
theorem lw_p54 : lw_okq (⟨"MarinaBerthsModel", "begins", "()V"⟩, 16) := ⟨⟨by decide +kernel, by decide +kernel⟩, List.mem_of_getElem? (i := 838) (by decide +kernel), List.mem_of_getElem? (i := 1131) (by decide +kernel), List.mem_of_getElem? (i := 1132) (by decide +kernel)⟩
theorem lw_p55 : lw_okq (⟨"MarinaBerthsModel", "lays", "(II)V"⟩, 16) := ⟨⟨by decide +kernel, by decide +kernel⟩, List.mem_of_getElem? (i := 838) (by decide +kernel), List.mem_of_getElem? (i := 1135) (by decide +kernel), List.mem_of_getElem? (i := 1136) (by decide +kernel)⟩
theorem lw_p56 : lw_okq (⟨"MarinaBerthsModel", "withShelter", "(IIII)I"⟩, 16) := ⟨⟨by decide +kernel, by decide +kernel⟩, List.mem_of_getElem? (i := 838) (by decide +kernel), List.mem_of_getElem? (i := 1139) (by decide +kernel), List.mem_of_getElem? (i := 1140) (by decide +kernel)⟩
theorem lw_p57 : lw_okq (⟨"MarinaBerthsModel", "ends", "()V"⟩, 16) := ⟨⟨by decide +kernel, by decide +kernel⟩, List.mem_of_getElem? (i := 838) (by decide +kernel), List.mem_of_getElem? (i := 1143) (by decide +kernel), List.mem_of_getElem? (i := 1144) (by decide +kernel)⟩
theorem lw_p58 : lw_okq (⟨"MarinaBerthsModel", "returns", "()V"⟩, 16) := ⟨⟨by decide +kernel, by decide +kernel⟩, List.mem_of_getElem? (i := 838) (by decide +kernel), List.mem_of_getElem? (i := 1147) (by decide +kernel), List.mem_of_getElem? (i := 1148) (by decide +kernel)⟩
theorem lw_p59 : lw_okq (⟨"MarinaBerthsModel", "paidNow", "()J"⟩, 16) := ⟨⟨by decide +kernel, by decide +kernel⟩, List.mem_of_getElem? (i := 838) (by decide +kernel), List.mem_of_getElem? (i := 1155) (by decide +kernel), List.mem_of_getElem? (i := 1156) (by decide +kernel)⟩
theorem lw_p60 : lw_okq (⟨"MarinaBerthsModel", "owedNow", "()J"⟩, 16) := ⟨⟨by decide +kernel, by decide +kernel⟩, List.mem_of_getElem? (i := 838) (by decide +kernel), List.mem_of_getElem? (i := 1168) (by decide +kernel), List.mem_of_getElem? (i := 1169) (by decide +kernel)⟩
theorem lw_p61 : lw_okq (⟨"MarinaBerthsModel", "grounds", "(I)I"⟩, 16) := ⟨⟨by decide +kernel, by decide +kernel⟩, List.mem_of_getElem? (i := 838) (by decide +kernel), List.mem_of_getElem? (i := 1184) (by decide +kernel), List.mem_of_getElem? (i := 1185) (by decide +kernel)⟩
theorem lw_p62 : lw_okq (⟨"MarinaBerthsModel", "mix", "(J)V"⟩, 16) := ⟨⟨by decide +kernel, by decide +kernel⟩, List.mem_of_getElem? (i := 838) (by decide +kernel), List.mem_of_getElem? (i := 1221) (by decide +kernel), List.mem_of_getElem? (i := 1222) (by decide +kernel)⟩
def lw_privs_4 : List (MethodName × Nat) := [(⟨"MarinaBerthsModel", "ahead", "(I)I"⟩, 16), (⟨"MarinaBerthsModel", "waitingAt", "(I)I"⟩, 16), (⟨"MarinaBerthsModel", "bestOf", "(I)I"⟩, 16), (⟨"MarinaBerthsModel", "keeps", "()V"⟩, 16), (⟨"MarinaBerthsModel", "passes", "()I"⟩, 16), (⟨"MarinaBerthsModel", "fee", "(I)I"⟩, 16), (⟨"MarinaBerthsModel", "begins", "()V"⟩, 16), (⟨"MarinaBerthsModel", "lays", "(II)V"⟩, 16), (⟨"MarinaBerthsModel", "withShelter", "(IIII)I"⟩, 16), (⟨"MarinaBerthsModel", "ends", "()V"⟩, 16), (⟨"MarinaBerthsModel", "returns", "()V"⟩, 16), (⟨"MarinaBerthsModel", "paidNow", "()J"⟩, 16), (⟨"MarinaBerthsModel", "owedNow", "()J"⟩, 16), (⟨"MarinaBerthsModel", "grounds", "(I)I"⟩, 16), (⟨"MarinaBerthsModel", "mix", "(J)V"⟩, 16)]
theorem lw_r4 : ∀ q ∈ lw_privs_4, lw_okq q := List.forall_mem_cons.mpr ⟨lw_p48, List.forall_mem_cons.mpr ⟨lw_p49, List.forall_mem_cons.mpr ⟨lw_p50, List.forall_mem_cons.mpr ⟨lw_p51, List.forall_mem_cons.mpr ⟨lw_p52, List.forall_mem_cons.mpr ⟨lw_p53, List.forall_mem_cons.mpr ⟨lw_p54, List.forall_mem_cons.mpr ⟨lw_p55, List.forall_mem_cons.mpr ⟨lw_p56, List.forall_mem_cons.mpr ⟨lw_p57, List.forall_mem_cons.mpr ⟨lw_p58, List.forall_mem_cons.mpr ⟨lw_p59, List.forall_mem_cons.mpr ⟨lw_p60, List.forall_mem_cons.mpr ⟨lw_p61, List.forall_mem_cons.mpr ⟨lw_p62, fun _ h => absurd h List.not_mem_nil⟩⟩⟩⟩⟩⟩⟩⟩⟩⟩⟩⟩⟩⟩⟩
def lw_privs : List (MethodName × Nat) := lw_privs_1 ++ (lw_privs_2 ++ (lw_privs_3 ++ (lw_privs_4)))
def lw_tbl : List Cond := k2_sels lw_privs ++ tables_1
theorem lw_privs_ok : ∀ q ∈ lw_privs, lw_okq q := by
  show ∀ q ∈ lw_privs_1 ++ (lw_privs_2 ++ (lw_privs_3 ++ (lw_privs_4))), lw_okq q
  exact List.forall_mem_append.mpr ⟨lw_r1, List.forall_mem_append.mpr ⟨lw_r2, List.forall_mem_append.mpr ⟨lw_r3, lw_r4⟩⟩⟩
end
section
/-! ===== BEGIN words of one list among another's, by their places ===== -/
theorem goodIn_r {big : List Cond} (ws : List Cond) (ps : List Nat) (hp : ws = ps.filterMap (fun i => big[i]?)) (h : ws.all goodWord = true) : GoodIn big ws := by
  intro w hw
  have h1 := List.all_eq_true.mp h w hw
  rw [hp] at hw
  obtain ⟨i, -, hi⟩ := List.mem_filterMap.mp hw
  have hm : w ∈ big := by first | exact List.mem_of_getElem? hi | exact List.getElem?_mem hi
  exact ⟨hm, good_of_word h1⟩
theorem goodIn_app {big a b : List Cond} (ha : GoodIn big a) (hb : GoodIn big b) : GoodIn big (a ++ b) := fun w h => (List.mem_append.mp h).elim (ha w) (hb w)
theorem goodIn_ca {big a b : List Cond} {c : Cond} (ha : GoodIn big (c :: a)) (hb : GoodIn big b) : GoodIn big (c :: (a ++ b)) := fun w h => (List.mem_cons.mp h).elim (fun e => ha w (List.mem_cons.mpr (Or.inl e))) (fun h => (List.mem_append.mp h).elim (fun h => ha w (List.mem_cons.mpr (Or.inr h))) (hb w))
theorem goodIn_sub {big ws : List Cond} (hm : ∀ w ∈ ws, w ∈ big) (h : ws.all goodWord = true) : GoodIn big ws := fun w hw => ⟨hm w hw, good_of_word (List.all_eq_true.mp h w hw)⟩
/-! ===== END ===== -/

/-! ===== BEGIN exceptions that leave a method, and their catching by the caller (launches without stack traces) ===== -/
section VXA
/-! The laws vx_back, vx_callV, vx_callS, vx_callSW, vx_throw0, vx_throwS follow proofs of the library, with one case more: JvmDerived/Free/Laws.lean (Back.of_free), Shelf42/LK1.lean (callV, callS), Shelf/KitTraced.lean (throwNew0V, throwNewS). -/
/-- where a method has thrown q: the class by its name, the cell, what was written, the world -/
def vx_T (XC : String → State → State → Prop) (st : State) (q : Addr) (t : State) (mc ms : Nat) (free : Addr → Prop) : Prop :=
  ∃ (E : String) (ce : Cell) (L : List Loc), XC E st t ∧ t.heap[q]? = some ce ∧ ce.vm = .none ∧ st.vm.findClass E = some ce.cls ∧ st.WarmedH t.vm ∧ st.sameButNew ({ t with vm := st.vm } : State) L mc ms ∧ ∀ z ∈ L, free z.base
def vx_Q (Qc : Array Value → State → Outcome → State → Prop) (XC : String → State → State → Prop) (mc ms : Nat) (free : Addr → Prop) : Array Value → State → Outcome → State → Prop := fun a st o t =>
  (Qc a st o t ∧ ∃ L, FrameEnd st o t L mc ms ∧ ∀ q ∈ L, free q.base) ∨ ∃ q, o = .threw q ∧ vx_T XC st q t mc ms free
/-- a callee that returns or throws -/
def vx_Met (l : Launch) (y : MethodName) (ws : List Cond) (rm : Room) (Pc : Array Value → State → Prop) (Qc : Array Value → State → Outcome → State → Prop) (XC : String → State → State → Prop) (mc ms : Nat) (free : Addr → Prop) : Prop :=
  MetFree l y (headSpec ws rm) Pc (fun _ _ _ _ _ => True) (vx_Q Qc XC mc ms free)
def vx_Post (XC : String → State → State → Prop) (mc ms : Nat) (free : Addr → Prop) : Pt → Array Value → Addr → Pt → Prop := fun A a q B =>
  ∃ (g : JFrame) (mk : MethodId) (t : State) (L : List Loc) (E : String) (ce : Cell), B.U.heap = t.heap ∧ B.U.vm = t.vm ∧ XC E (A.U.calling g mk a) t ∧ t.heap[q]? = some ce ∧ ce.vm = .none ∧ A.U.vm.findClass E = some ce.cls ∧ B.locs = A.locs ++ L ∧ (∀ z ∈ L, free z.base) ∧ B.cells = A.cells + mc ∧ B.slots = A.slots + ms
def vx_Back (l : Launch) (R : Room) (p : Program) (e : Env) (below : List Frame) (s : State) (sargs : Array Value) (y : MethodName) (len W9 : Nat)
    (Pre : Pt → Array Value → Prop) (Post : Pt → Array Value → Option Value → Pt → Prop) (PostX : Pt → Array Value → Addr → Pt → Prop) : Prop :=
  ∀ (m : MethodId) (meth : Method) (c : Code) (A : Pt) (g : JFrame) (ig : Instr) (mk : MethodId) (a : Array Value),
    Stand p l e R s m sargs below meth c A.U A.locs A.cells A.slots → g.method = m → g.locals.size = c.maxLocals → decode c.code g.pc = .ok (ig, len) →
    2 * g.monitorRoom + (g.stack.map fun v => v.category).sum ≤ W9 → A.U.methodNamed? y = some mk → Pre A a →
    (∃ (v : Option Value) (B : Pt), Stand p l e R s m sargs below meth c B.U B.locs B.cells B.slots ∧ Post A a v B ∧
      Steps p.tables e below (doInvoke e (A.U.setTop g) [] mk a).1 (B.U.setTop { g with pc := g.pc + len, stack := v.toList ++ g.stack })) ∨
    (∃ (q : Addr) (B : Pt), Stand p l e R s m sargs below meth c B.U B.locs B.cells B.slots ∧ PostX A a q B ∧
      Steps p.tables e below (doInvoke e (A.U.setTop g) [] mk a).1 ((B.U.setTop g).pushFrame (.throwing q)))
section Payer
variable {l : Launch} {R : Room} {p : Program} {e : Env} {below : List Frame} {s : State} {sargs : Array Value} {y : MethodName} {len W9 : Nat}
theorem vx_back {ws : List Cond} {rm : Room} {Pc : Array Value → State → Prop} {Qc : Array Value → State → Outcome → State → Prop} {XC : String → State → State → Prop} {mc ms : Nat} {free : Addr → Prop} {bytes : ByteArray} {maxL : Nat} {ret : Option FieldType}
    (hM : vx_Met l y ws rm Pc Qc XC mc ms free) (hblind : FrameBlind Pc) (hrc : rm.cells = mc) (hrs : rm.slots = ms)
    (hframes : rm.frames + 1 ≤ R.frames) (hlocals : W9 + (maxL + 11) + rm.locals ≤ R.locals)
    (hws : ∀ w ∈ ws, ∀ a' U, s.WarmedH U.vm → w.before a' U = true) (hcode : Cond.code y bytes maxL ret ∈ ws) (hinit : ∀ a' U, s.WarmedH U.vm → (Cond.initialized y.cls).before a' U = true) :
    vx_Back l R p e below s sargs y len W9 (PreOf R mc ms Pc) (PostOf Qc mc ms free) (vx_Post XC mc ms free) := by
  intro m meth c A g ig mk a X hg hsize hdg hW hn hp
  have h1 : (headSpec ws rm).pre.before a A.U = true := atoms_intro fun w hw => hws w hw _ _ X.warmed
  have h2 : (Cond.code y bytes maxL ret).before a A.U = true := hws _ hcode _ _ X.warmed
  have h3 : (Cond.initialized y.cls).before a A.U = true := hinit _ _ X.warmed
  have h4 : A.cells + (headSpec ws rm).room.cells ≤ R.cells := by rw [show (headSpec ws rm).room.cells = mc from hrc]; exact hp.1
  have h5 : A.slots + (headSpec ws rm).room.slots ≤ R.slots := by rw [show (headSpec ws rm).room.slots = ms from hrs]; exact hp.2.1
  have hPc : Pc a (A.U.calling g mk a) := hblind _ _ _ _ hp.2.2
  obtain ⟨U, Ls, c0, s0⟩ := A
  dsimp only [Pt.U, Pt.locs, Pt.cells, Pt.slots] at h1 h2 h3 h4 h5 X hn hPc ⊢
  obtain ⟨methY, cY, hmY, hcY, -, hlY, -, -, -, -⟩ := Cond.code_spec hn h2
  obtain ⟨kY, hkY, -⟩ := className_of_methodNamed hn
  have hinitY : kY.init = .initialized := Cond.initialized_spec (findClass_of_methodNamed hn) hkY h3
  have h : At U g.method c below := by rw [hg]; exact X.here
  have hlocals9 : W9 + (maxL + 11) + (headSpec ws rm).room.locals ≤ R.locals := hlocals
  have happ : (headSpec ws rm).appliesLoose y e.platform (U.calling g mk a) = true :=
    Spec.appliesLoose_calling (g := g) h hdg hn hkY hinitY
      (X.room_calling (g := g) (R' := (headSpec ws rm).room) hsize hmY hcY hframes (by rw [hlY]; omega) h4 h5) h1
  obtain ⟨mid, hmid⟩ := h.above
  have hfr : (U.setTop g).frames = (.java g :: mid) ++ below := by rw [State.frames_setTop' g h.top, hmid]; rfl
  obtain ⟨o, s₂, hsteps, -, hend, hq⟩ := Steps.callFree hM p X.admits X.cas X.clock (acts := []) hfr happ hPc trivial
  have hq' : vx_Q Qc XC mc ms free a (U.calling g mk a) o s₂ := hq
  rw [State.frames_setTop' g h.top] at hend
  obtain ⟨g₀, hg0⟩ := Option.isSome_iff_exists.mp h.top
  obtain ⟨r, hr⟩ := State.topJava?_eq_some.mp hg0
  have hr' : (({ U with heap := s₂.heap, slotsUsed := s₂.slotsUsed } : State).setVm s₂.vm).frames = .java g₀ :: r := hr
  rcases hq' with ⟨hqc, L, hfe, hL⟩ | ⟨q, rfl, E, ce, L, hx, hce, hcv, hcl, hW₂, hsm, hL⟩
  · obtain ⟨⟨v, rfl⟩, hW₂, e2, q2, q3, q4, q5, q6⟩ := id hfe
    have e3 : s₂ = ({ (U.calling g mk a).setFrames s₂.frames with heap := s₂.heap, slotsUsed := s₂.slotsUsed } : State).setVm s₂.vm := by
      have : s₂ = ({ s₂ with vm := (U.calling g mk a).vm } : State).setVm s₂.vm := rfl
      rw [e2] at this
      exact this
    obtain ⟨c₂, i₂, len₂, hc₂, hd₂, hf₂⟩ := hend
    have hW' : U.WarmedH s₂.vm := hW₂
    have hcc : c₂ = c := by
      have h1 : s₂.code? g.method = U.code? g.method := by
        rw [State.code?_eq, State.code?_eq, hW'.alike.method?]
      exact Option.some.inj (hc₂.symm.trans (h1.trans h.code))
    subst hcc
    have hlen : len₂ = len := by rw [hdg] at hd₂; cases hd₂; rfl
    subst hlen
    have hs₂ : s₂ = (({ U with heap := s₂.heap, slotsUsed := s₂.slotsUsed } : State).setVm s₂.vm).setTop { g with pc := g.pc + len₂, stack := v.toList ++ g.stack } := by
      refine e3.trans ?_
      rw [hf₂, State.calling_eq h.top, State.setFrames_setFrames, State.setTop_of_frames _ hr', hr]
      rfl
    have hsame : U.sameButNew ({ U with heap := s₂.heap, slotsUsed := s₂.slotsUsed } : State) L mc ms := by
      refine ⟨?_, q2, q3, q4, q5, q6⟩
      obtain ⟨t, ht, -⟩ := State.frames_cons hr
      show ({ U with heap := s₂.heap, slotsUsed := s₂.slotsUsed } : State) = { U.setFrames U.frames with heap := s₂.heap, slotsUsed := s₂.slotsUsed }
      rw [State.setFrames_self ht]
    subst hg
    refine Or.inl ⟨v, ⟨(({ U with heap := s₂.heap, slotsUsed := s₂.slotsUsed } : State).setVm s₂.vm), Ls ++ L, c0 + mc, s0 + ms⟩,
      ⟨X.admits, X.cas, X.clock, X.frames, X.room, X.hears, X.method, X.code, (X.here.setHeapUsed s₂.heap s₂.slotsUsed).setVm hW'.alike, X.tail, State.WarmedH.trans X.warmed hW', X.limits, X.bytes, X.same.trans (hsame.setVm s.vm)⟩,
      ⟨g, mk, s₂, L, rfl, rfl, hqc, rfl, hL, rfl, rfl⟩, ?_⟩
    show Steps p.tables e below _ ((({ U with heap := s₂.heap, slotsUsed := s₂.slotsUsed } : State).setVm s₂.vm).setTop { g with pc := g.pc + len₂, stack := v.toList ++ g.stack })
    rw [← hs₂]
    exact hsteps
  · obtain ⟨e2, q2, q3, q4, q5, q6⟩ := id hsm
    have e3 : s₂ = ({ (U.calling g mk a).setFrames s₂.frames with heap := s₂.heap, slotsUsed := s₂.slotsUsed } : State).setVm s₂.vm := by
      have : s₂ = ({ s₂ with vm := (U.calling g mk a).vm } : State).setVm s₂.vm := rfl
      rw [e2] at this
      exact this
    have hf₂ : s₂.frames = .throwing q :: .java g :: U.frames.tail := hend
    have hW' : U.WarmedH s₂.vm := hW₂
    have hs₂ : s₂ = ((({ U with heap := s₂.heap, slotsUsed := s₂.slotsUsed } : State).setVm s₂.vm).setTop g).pushFrame (.throwing q) := by
      refine e3.trans ?_
      rw [hf₂, State.calling_eq h.top, State.setFrames_setFrames, State.pushFrame, State.frames_setTop _ hr', State.setTop_of_frames _ hr', State.setFrames_setFrames, hr]
      rfl
    have hsame : U.sameButNew ({ U with heap := s₂.heap, slotsUsed := s₂.slotsUsed } : State) L mc ms := by
      refine ⟨?_, q2, q3, q4, q5, q6⟩
      obtain ⟨t, ht, -⟩ := State.frames_cons hr
      show ({ U with heap := s₂.heap, slotsUsed := s₂.slotsUsed } : State) = { U.setFrames U.frames with heap := s₂.heap, slotsUsed := s₂.slotsUsed }
      rw [State.setFrames_self ht]
    subst hg
    refine Or.inr ⟨q, ⟨(({ U with heap := s₂.heap, slotsUsed := s₂.slotsUsed } : State).setVm s₂.vm), Ls ++ L, c0 + mc, s0 + ms⟩,
      ⟨X.admits, X.cas, X.clock, X.frames, X.room, X.hears, X.method, X.code, (X.here.setHeapUsed s₂.heap s₂.slotsUsed).setVm hW'.alike, X.tail, State.WarmedH.trans X.warmed hW', X.limits, X.bytes, X.same.trans (hsame.setVm s.vm)⟩,
      ⟨g, mk, s₂, L, E, ce, rfl, rfl, hx, hce, hcv, hcl, rfl, hL, rfl, rfl⟩, ?_⟩
    show Steps p.tables e below _ (((({ U with heap := s₂.heap, slotsUsed := s₂.slotsUsed } : State).setVm s₂.vm).setTop g).pushFrame (.throwing q))
    rw [← hs₂]
    exact hsteps
end Payer
section Calls
variable {p : Program} {l : Launch} {e : Env} {R : Room} {s : State} {m : MethodId} {args : Array Value} {below : List Frame} {meth : Method} {c : Code} {T : State} {locs : List Loc} {cells slots : Nat}
theorem vx_callV (X : Stand p l e R s m args below meth c T locs cells slots) (hexec : p.tables.exec = Jvm.exec) {own C : String} {index : Nat} {y : MethodName} {bytes : ByteArray} {maxL : Nat} {ret : Option FieldType}
    (hown : s.vm.findClass own = some m.cls) (hlink : (Cond.methodLink own index y).before args s = true) (hinst : (Cond.instanceMethod y).before args s = true) (hsel : (Cond.selects C y y).before args s = true)
    (hcode : (Cond.code y bytes maxL ret).before args s = true) (hy : y.cls ≠ "java/lang/invoke/MethodHandle" ∧ y.cls ≠ "java/lang/invoke/VarHandle")
    {W9 : Nat} {Pre : Pt → Array Value → Prop} {Post : Pt → Array Value → Option Value → Pt → Prop} {PostX : Pt → Array Value → Addr → Pt → Prop} (hK : vx_Back l R p e below s args y 3 W9 Pre Post PostX)
    {b : Addr} {cellB : Cell} (hcell : T.heap[b]? = some cellB) (hobj : cellB.vm.isStatics = false) (hcls : s.vm.findClass C = some cellB.cls)
    {g : JFrame} (hg : g.method = m) (hsize : g.locals.size = c.maxLocals) {argsL rest : List Value} (hlen : ∀ sig, parseMethodDescriptor y.desc = some sig → argsL.length = sig.parameters.length)
    (hstack : g.stack = argsL.reverse ++ .ref b :: rest) (hW : 2 * g.monitorRoom + (rest.map fun v => v.category).sum ≤ W9) (hdg : decode c.code g.pc = .ok (.invokevirtual index, 3))
    (hpre : ∀ vm₁, s.WarmedH vm₁ → Pre ⟨T.setVm vm₁, locs, cells, slots⟩ (Value.ref b :: argsL).toArray) :
    (∃ (v : Option Value) (vm₁ : Vm) (B : Pt), s.WarmedH vm₁ ∧ Stand p l e R s m args below meth c B.U B.locs B.cells B.slots ∧ Post ⟨T.setVm vm₁, locs, cells, slots⟩ (Value.ref b :: argsL).toArray v B ∧
      ∀ target, Steps p.tables e below (B.U.setTop { g with pc := g.pc + 3, stack := v.toList ++ rest }) target → Steps p.tables e below (T.setTop g) target) ∨
    (∃ (q : Addr) (vm₁ : Vm) (B : Pt), s.WarmedH vm₁ ∧ Stand p l e R s m args below meth c B.U B.locs B.cells B.slots ∧ PostX ⟨T.setVm vm₁, locs, cells, slots⟩ (Value.ref b :: argsL).toArray q B ∧
      Steps p.tables e below (T.setTop g) ((B.U.setTop { g with stack := rest }).pushFrame (.throwing q))) := by
  obtain ⟨mk, methM, hnamed, hmethM, hstM, habM⟩ := Cond.instanceMethod_spec hinst
  obtain ⟨methM', cM, hmethM', -, -, -, -, -, -, hsigM⟩ := Cond.code_spec hnamed hcode
  cases hmethM.symm.trans hmethM'
  obtain ⟨c2, r2, m2, q1, q2, q3, q4, kP, hkP, hkPi⟩ := Cond.selects_spec hsel
  cases hcls.symm.trans q1
  cases (State.methodFound?_of_named hnamed hy).symm.trans q2
  cases hnamed.symm.trans q3
  have hselP : selectMethod e.platform s.vm cellB.cls mk = .method mk := by rw [Launch.admits_selectMethod X.admits]; exact q4
  obtain ⟨vm₁, X₁, hstep₁⟩ := X.invokevirtual hexec hown hlink hnamed hmethM hstM hkP hkPi hy (a := b) (cell := cellB) hcell
    (fun z h => by rw [h] at hobj; cases hobj) hselP hmethM habM hkP hkPi (g := g) hg (argsL := argsL) (rest := rest) (hlen _ hsigM) hstack hdg
  rcases hK m meth c ⟨T.setVm vm₁, locs, cells, slots⟩ { g with stack := rest } (.invokevirtual index) mk (Value.ref b :: argsL).toArray X₁ hg hsize hdg hW (X₁.named hnamed) (hpre vm₁ X₁.warmed) with ⟨v, B, X', hpost, hsteps⟩ | ⟨q, B, X', hpost, hsteps⟩
  · exact Or.inl ⟨v, vm₁, B, X₁.warmed, X', hpost, fun target h => hstep₁ _ fun acts => by rw [doInvoke_state]; exact hsteps.trans h⟩
  · exact Or.inr ⟨q, vm₁, B, X₁.warmed, X', hpost, hstep₁ _ fun acts => by rw [doInvoke_state]; exact hsteps⟩
theorem vx_callS (X : Stand p l e R s m args below meth c T locs cells slots) (hexec : p.tables.exec = Jvm.exec) {own : String} {index : Nat} {y : MethodName} {bytes : ByteArray} {maxL : Nat} {ret : Option FieldType}
    (hown : s.vm.findClass own = some m.cls) (hlink : (Cond.methodLink own index y).before args s = true) (hstat : (Cond.static y).before args s = true) (hinit : (Cond.initialized y.cls).before args s = true)
    (hcode : (Cond.code y bytes maxL ret).before args s = true) (hy : y.cls ≠ "java/lang/invoke/MethodHandle" ∧ y.cls ≠ "java/lang/invoke/VarHandle")
    {W9 : Nat} {Pre : Pt → Array Value → Prop} {Post : Pt → Array Value → Option Value → Pt → Prop} {PostX : Pt → Array Value → Addr → Pt → Prop} (hK : vx_Back l R p e below s args y 3 W9 Pre Post PostX)
    {g : JFrame} (hg : g.method = m) (hsize : g.locals.size = c.maxLocals) {argsL rest : List Value} (hlen : ∀ sig, parseMethodDescriptor y.desc = some sig → argsL.length = sig.parameters.length)
    (hstack : g.stack = argsL.reverse ++ rest) (hW : 2 * g.monitorRoom + (rest.map fun v => v.category).sum ≤ W9) (hdg : decode c.code g.pc = .ok (.invokestatic index, 3))
    (hpre : ∀ vm₁, s.WarmedH vm₁ → Pre ⟨T.setVm vm₁, locs, cells, slots⟩ argsL.toArray) :
    (∃ (v : Option Value) (vm₁ : Vm) (B : Pt), s.WarmedH vm₁ ∧ Stand p l e R s m args below meth c B.U B.locs B.cells B.slots ∧ Post ⟨T.setVm vm₁, locs, cells, slots⟩ argsL.toArray v B ∧
      ∀ target, Steps p.tables e below (B.U.setTop { g with pc := g.pc + 3, stack := v.toList ++ rest }) target → Steps p.tables e below (T.setTop g) target) ∨
    (∃ (q : Addr) (vm₁ : Vm) (B : Pt), s.WarmedH vm₁ ∧ Stand p l e R s m args below meth c B.U B.locs B.cells B.slots ∧ PostX ⟨T.setVm vm₁, locs, cells, slots⟩ argsL.toArray q B ∧
      Steps p.tables e below (T.setTop g) ((B.U.setTop { g with stack := rest }).pushFrame (.throwing q))) := by
  obtain ⟨mk, hnamed⟩ := Cond.code_named hcode
  obtain ⟨methM, cM, hmethM, -, -, -, -, -, -, hsigM⟩ := Cond.code_spec hnamed hcode
  have hstatic : methM.isStatic = true := Cond.static_spec hnamed hmethM hstat
  obtain ⟨kP, hkP, -⟩ := className_of_methodNamed hnamed
  have hinitP : kP.init = .initialized := Cond.initialized_spec (findClass_of_methodNamed hnamed) hkP hinit
  obtain ⟨vm₁, X₁, hstep₁⟩ := X.invokestatic hexec hown hlink hnamed hmethM hstatic hkP hinitP hy (g := g) hg (argsL := argsL) (rest := rest) (hlen _ hsigM) hstack hdg
  rcases hK m meth c ⟨T.setVm vm₁, locs, cells, slots⟩ { g with stack := rest } (.invokestatic index) mk argsL.toArray X₁ hg hsize hdg hW (X₁.named hnamed) (hpre vm₁ X₁.warmed) with ⟨v, B, X', hpost, hsteps⟩ | ⟨q, B, X', hpost, hsteps⟩
  · exact Or.inl ⟨v, vm₁, B, X₁.warmed, X', hpost, fun target h => hstep₁ _ fun acts => by rw [doInvoke_state]; exact hsteps.trans h⟩
  · exact Or.inr ⟨q, vm₁, B, X₁.warmed, X', hpost, hstep₁ _ fun acts => by rw [doInvoke_state]; exact hsteps⟩
end Calls
theorem vx_cls {s : State} {T : State} {vm₁ : Vm} {E : String} {k : ClassId} (hW : s.WarmedH vm₁) (h : (T.setVm vm₁).vm.findClass E = some k) : s.vm.findClass E = some k := by
  have h1 : vm₁.findClass E = some k := h
  rw [hW.alike.findClass] at h1
  exact h1
/-- the method's frame g, with q thrown over it -/
def vx_W (p : Program) (l : Launch) (e : Env) (R : Room) (s : State) (m : MethodId) (args : Array Value) (below : List Frame) (meth : Method) (c : Code) (H : Heap) (locs : List Loc) (cells slots : Nat) (Q : State → Prop) (g : JFrame) (q : Addr) : Prop :=
  ∀ T : State, T.heap = H → Stand p l e R s m args below meth c T locs cells slots → ∃ t, Steps p.tables e below ((T.setTop g).pushFrame (.throwing q)) t ∧ Q t
def vx_Run (p : Program) (l : Launch) (e : Env) (R : Room) (s : State) (m : MethodId) (args : Array Value) (below : List Frame) (meth : Method) (c : Code) (H : Heap) (locs : List Loc) (cells slots mc ms : Nat) (g : JFrame) (rest : List Value) (Qa : State → Outcome → State → Prop) (XC : String → State → State → Prop) (free : Addr → Prop) : Prop :=
  ∀ T : State, T.heap = H → Stand p l e R s m args below meth c T locs cells slots →
    (∃ (v : Option Value) (st₀ t T' : State) (L : List Loc), st₀.heap = H ∧ Stand p l e R s m args below meth c T' (locs ++ L) (cells + mc) (slots + ms) ∧ (∀ q ∈ L, free q.base) ∧ T'.heap = t.heap ∧ T'.vm = t.vm ∧ Qa st₀ (.returned v) t ∧
      Goes p e below T g T' { g with pc := g.pc + 3, stack := v.toList ++ rest }) ∨
    (∃ (q : Addr) (st₀ t T' : State) (L : List Loc) (E : String) (ce : Cell), st₀.heap = H ∧ Stand p l e R s m args below meth c T' (locs ++ L) (cells + mc) (slots + ms) ∧ (∀ z ∈ L, free z.base) ∧ T'.heap = t.heap ∧ T'.vm = t.vm ∧ XC E st₀ t ∧ t.heap[q]? = some ce ∧ ce.vm = .none ∧ s.vm.findClass E = some ce.cls ∧
      Steps p.tables e below (T.setTop g) ((T'.setTop { g with stack := rest }).pushFrame (.throwing q)))
def vx_X {S : Type} (px : S → Prop) (B : String → S → State → Prop) (A : Nat → Prop) : String → State → State → Prop := fun E st t => ∃ u : S, px u ∧ B E u t ∧ va_F A st t
section Runs
variable {p : Program} {l : Launch} {e : Env} {R : Room} {s : State} {m : MethodId} {args : Array Value} {below : List Frame} {meth : Method} {c : Code} {H : Heap} {locs : List Loc} {cells slots : Nat}
variable {y : MethodName} {bytes cc : ByteArray} {maxL nL mc ms n index : Nat} {ret : Option FieldType} {ws : List Cond} {rm : Room} {Pc : Array Value → State → Prop} {Qc : Array Value → State → Outcome → State → Prop} {XC : String → State → State → Prop} {free : Addr → Prop} {Ts : List Cond} {own C : String} {b : Addr} {As rest : List Value} {g : JFrame}
theorem vx_callBack (cb : CallB R s args own index y bytes maxL ret ws rm mc ms n) (hM : vx_Met l y ws rm Pc Qc XC mc ms free) (hbl : FrameBlind Pc) : vx_Back l R p e below s args y 3 8 (PreOf R mc ms Pc) (PostOf Qc mc ms free) (vx_Post XC mc ms free) := by
  obtain ⟨hrc, hrs, hfr, hlo, hws, hcw, -, hini, -⟩ := cb
  exact vx_back (bytes := bytes) (maxL := maxL) (ret := ret) hM hbl hrc hrs hfr hlo hws hcw (fun a' U hW => word_at hW (Or.inl (by first | rfl | simp [Cond.onTables, Cond.keeps, Cond.steady])) hini)
theorem vx_runV (S : CallFix p m c cc nL s args Ts own) (hM : vx_Met l y ws rm Pc Qc XC mc ms free) (cw : CallW R s args own C index y bytes maxL ret ws rm mc ms n) (hp : PreV s H C b Pc As)
    (hg : g.method = m) (hn : As.length = n) (hsize : g.locals.size = nL) (hstack : g.stack = As.reverse ++ .ref b :: rest) (hW : 2 * g.monitorRoom + (rest.map fun v => v.category).sum ≤ 8) (hdg : decode cc g.pc = .ok (.invokevirtual index, 3)) (hf : cells + mc ≤ R.cells ∧ slots + ms ≤ R.slots) :
    vx_Run p l e R s m args below meth c H locs cells slots mc ms g rest (Qc (Value.ref b :: As).toArray) XC free := by
  have hK : vx_Back l R p e below s args y 3 8 (PreOf R mc ms Pc) (PostOf Qc mc ms free) (vx_Post XC mc ms free) := vx_callBack cw.1 hM hp.1
  obtain ⟨⟨-, -, -, -, -, -, hcode, -, hy, hlen, hl⟩, hin, hse⟩ := cw
  obtain ⟨hx, hb, hml, ho, -⟩ := S
  obtain ⟨-, ⟨cellB, hcB, hoB, hclB⟩, hPc⟩ := hp
  intro T hT X
  rcases vx_callV X hx (C := C) (bytes := bytes) (maxL := maxL) (ret := ret) ho hl hin hse hcode hy hK (by rw [hT]; exact hcB) hoB hclB hg (hsize.trans hml.symm) (argsL := As) (rest := rest) (fun sig h => hn.trans (hlen sig h)) hstack hW (by rw [hb]; exact hdg)
    (fun vm₁ hW₁ => ⟨hf.1, hf.2, hPc (T.setVm vm₁) hT hW₁⟩) with ⟨v, vm₁, ⟨U', l2, c2, s2⟩, hW₁, X', ⟨g', mk, t, L, e1, e2, hq, h1, hL, h2, h3⟩, st⟩ | ⟨q, vm₁, ⟨U', l2, c2, s2⟩, hW₁, X', ⟨g', mk, t, L, E, ce, e1, e2, hq, hce, hcv, hcl, h1, hL, h2, h3⟩, st⟩
  · dsimp only [Pt.U, Pt.locs, Pt.cells, Pt.slots] at X' e1 e2 h1 h2 h3 st
    subst h1; subst h2; subst h3
    exact Or.inl ⟨v, (T.setVm vm₁).calling g' mk (Value.ref b :: As).toArray, t, U', L, hT, X', hL, e1, e2, hq, st⟩
  · dsimp only [Pt.U, Pt.locs, Pt.cells, Pt.slots] at X' e1 e2 h1 h2 h3 st hcl
    subst h1; subst h2; subst h3
    exact Or.inr ⟨q, (T.setVm vm₁).calling g' mk (Value.ref b :: As).toArray, t, U', L, E, ce, hT, X', hL, e1, e2, hq, hce, hcv, vx_cls hW₁ hcl, st⟩
theorem vx_runS (S : CallFix p m c cc nL s args Ts own) (hM : vx_Met l y ws rm Pc Qc XC mc ms free) (cw : CallB R s args own index y bytes maxL ret ws rm mc ms n ∧ (Cond.static y).before args s = true) (hp : PreS s H Pc As)
    (hg : g.method = m) (hn : As.length = n) (hsize : g.locals.size = nL) (hstack : g.stack = As.reverse ++ rest) (hW : 2 * g.monitorRoom + (rest.map fun v => v.category).sum ≤ 8) (hdg : decode cc g.pc = .ok (.invokestatic index, 3)) (hf : cells + mc ≤ R.cells ∧ slots + ms ≤ R.slots) :
    vx_Run p l e R s m args below meth c H locs cells slots mc ms g rest (Qc As.toArray) XC free := by
  have hK : vx_Back l R p e below s args y 3 8 (PreOf R mc ms Pc) (PostOf Qc mc ms free) (vx_Post XC mc ms free) := vx_callBack cw.1 hM hp.1
  obtain ⟨⟨-, -, -, -, -, -, hcode, hini, hy, hlen, hl⟩, hstt⟩ := cw
  obtain ⟨hx, hb, hml, ho, -⟩ := S
  intro T hT X
  rcases vx_callS X hx (bytes := bytes) (maxL := maxL) (ret := ret) ho hl hstt hini hcode hy hK hg (hsize.trans hml.symm) (argsL := As) (rest := rest) (fun sig h => hn.trans (hlen sig h)) hstack hW (by rw [hb]; exact hdg)
    (fun vm₁ hW₁ => ⟨hf.1, hf.2, hp.2 (T.setVm vm₁) hT hW₁⟩) with ⟨v, vm₁, ⟨U', l2, c2, s2⟩, hW₁, X', ⟨g', mk, t, L, e1, e2, hq, h1, hL, h2, h3⟩, st⟩ | ⟨q, vm₁, ⟨U', l2, c2, s2⟩, hW₁, X', ⟨g', mk, t, L, E, ce, e1, e2, hq, hce, hcv, hcl, h1, hL, h2, h3⟩, st⟩
  · dsimp only [Pt.U, Pt.locs, Pt.cells, Pt.slots] at X' e1 e2 h1 h2 h3 st
    subst h1; subst h2; subst h3
    exact Or.inl ⟨v, (T.setVm vm₁).calling g' mk As.toArray, t, U', L, hT, X', hL, e1, e2, hq, st⟩
  · dsimp only [Pt.U, Pt.locs, Pt.cells, Pt.slots] at X' e1 e2 h1 h2 h3 st hcl
    subst h1; subst h2; subst h3
    exact Or.inr ⟨q, (T.setVm vm₁).calling g' mk As.toArray, t, U', L, E, ce, hT, X', hL, e1, e2, hq, hce, hcv, vx_cls hW₁ hcl, st⟩
end Runs
section Rows
variable {p : Program} {l : Launch} {e : Env} {R : Room} {s : State} {m : MethodId} {args : Array Value} {below : List Frame} {meth : Method} {c : Code} {H : Heap} {locs : List Loc} {cells slots : Nat} {Q : State → Prop}
variable {mc ms : Nat} {free : Addr → Prop} {A0 A1 : Nat → Prop} {H0 : Heap} {a : Array Value} {pc : Nat} {ls : Array Slot} {st0 rest : List Value}
theorem vx_keep {st₀ t T' : State} {L : List Loc} (h0 : st₀.heap = H) (e1 : T'.heap = t.heap) (hS : va_S A0 H0 H locs) (hA : ∀ q, q < H.size → A1 q → A0 q) (hf : ∀ q, free q → A0 q) (hL : ∀ q ∈ L, free q.base) (hF : va_F A1 st₀ t) :
    H.size ≤ T'.heap.size ∧ (∀ q : Nat, q < H.size → ¬ A1 q → T'.heap[q]? = H[q]?) ∧ va_S A0 H0 T'.heap (locs ++ L) := by
  obtain ⟨hz, hk⟩ := hF
  rw [h0] at hz hk
  exact ⟨by rw [e1]; exact hz, fun q h1 h2 => by rw [e1]; exact hk q h1 h2,
    ⟨Nat.le_trans hS.1 (by rw [e1]; exact hz), fun q h1 h2 => by rw [e1, hk q (Nat.lt_of_lt_of_le h1 hS.1) (fun z => h2 (hA q (Nat.lt_of_lt_of_le h1 hS.1) z))]; exact hS.2.1 q h1 h2, fun q hq => by
      rcases List.mem_append.mp hq with h | h
      · exact hS.2.2 q h
      · exact hf _ (hL q h)⟩⟩
theorem vx_calli {S SX : Type} {post : Int32 → S → Prop} {px : SX → Prop} {B : S → State → Prop} {BX : String → SX → State → Prop} {AX : Nat → Prop} (hr : vx_Run p l e R s m args below meth c H locs cells slots mc ms (F0 m pc ls st0) rest (va_Qi post B A1 a) (vx_X px BX AX) free) (hS : va_S A0 H0 H locs) (hA : ∀ q, q < H.size → A1 q → A0 q) (hf : ∀ q, free q → A0 q) (hAX : ∀ q, q < H.size → AX q → A0 q)
    (kx : ∀ (E : String) (ce : Cell) (q9 : Addr) (u : SX) (t : State) (H1 : Heap) (locs1 : List Loc), t.heap = H1 → s.vm.Alike t.vm → px u → BX E u t → H.size ≤ H1.size → (∀ q : Nat, q < H.size → ¬ AX q → H1[q]? = H[q]?) → va_S A0 H0 H1 locs1 → H1[q9]? = some ce → ce.vm = .none → s.vm.findClass E = some ce.cls → vx_W p l e R s m args below meth c H1 locs1 (cells + mc) (slots + ms) Q (F0 m pc ls rest) q9)
    (kk : ∀ (r : Int32) (u : S) (t : State) (H1 : Heap) (locs1 : List Loc), t.heap = H1 → s.vm.Alike t.vm → post r u → B u t → H.size ≤ H1.size → (∀ q : Nat, q < H.size → ¬ A1 q → H1[q]? = H[q]?) → va_S A0 H0 H1 locs1 → W p l e R s m args below meth c H1 locs1 (cells + mc) (slots + ms) Q (F0 m (pc + 3) ls (.int r :: rest))) : W p l e R s m args below meth c H locs cells slots Q (F0 m pc ls st0) := by
  intro T hT X
  rcases hr T hT X with ⟨v, st₀, t, T', L, h0, X', hL, e1, e2, ⟨⟨r, u, hv, hp, hb⟩, hF⟩, st⟩ | ⟨q, st₀, t, T', L, E, ce, h0, X', hL, e1, e2, ⟨u, hp, hb, hF⟩, hce, hcv, hcl, st⟩
  · cases hv
    obtain ⟨k1, k2, k3⟩ := vx_keep h0 e1 hS hA hf hL hF
    obtain ⟨t2, a1, b1⟩ := kk r u t T'.heap (locs ++ L) e1.symm (by rw [← e2]; exact X'.warmed.alike) hp hb k1 k2 k3 T' rfl X'
    exact ⟨t2, st t2 a1, b1⟩
  · obtain ⟨k1, k2, k3⟩ := vx_keep h0 e1 hS hAX hf hL hF
    obtain ⟨t2, a1, b1⟩ := kx E ce q u t T'.heap (locs ++ L) e1.symm (by rw [← e2]; exact X'.warmed.alike) hp hb k1 k2 k3 (by rw [e1]; exact hce) hcv hcl T' rfl X'
    exact ⟨t2, st.trans a1, b1⟩
theorem vx_calll {S SX : Type} {post : Int64 → S → Prop} {px : SX → Prop} {B : S → State → Prop} {BX : String → SX → State → Prop} {AX : Nat → Prop} (hr : vx_Run p l e R s m args below meth c H locs cells slots mc ms (F0 m pc ls st0) rest (va_Ql post B A1 a) (vx_X px BX AX) free) (hS : va_S A0 H0 H locs) (hA : ∀ q, q < H.size → A1 q → A0 q) (hf : ∀ q, free q → A0 q) (hAX : ∀ q, q < H.size → AX q → A0 q)
    (kx : ∀ (E : String) (ce : Cell) (q9 : Addr) (u : SX) (t : State) (H1 : Heap) (locs1 : List Loc), t.heap = H1 → s.vm.Alike t.vm → px u → BX E u t → H.size ≤ H1.size → (∀ q : Nat, q < H.size → ¬ AX q → H1[q]? = H[q]?) → va_S A0 H0 H1 locs1 → H1[q9]? = some ce → ce.vm = .none → s.vm.findClass E = some ce.cls → vx_W p l e R s m args below meth c H1 locs1 (cells + mc) (slots + ms) Q (F0 m pc ls rest) q9)
    (kk : ∀ (r : Int64) (u : S) (t : State) (H1 : Heap) (locs1 : List Loc), t.heap = H1 → s.vm.Alike t.vm → post r u → B u t → H.size ≤ H1.size → (∀ q : Nat, q < H.size → ¬ A1 q → H1[q]? = H[q]?) → va_S A0 H0 H1 locs1 → W p l e R s m args below meth c H1 locs1 (cells + mc) (slots + ms) Q (F0 m (pc + 3) ls (.long r :: rest))) : W p l e R s m args below meth c H locs cells slots Q (F0 m pc ls st0) := by
  intro T hT X
  rcases hr T hT X with ⟨v, st₀, t, T', L, h0, X', hL, e1, e2, ⟨⟨r, u, hv, hp, hb⟩, hF⟩, st⟩ | ⟨q, st₀, t, T', L, E, ce, h0, X', hL, e1, e2, ⟨u, hp, hb, hF⟩, hce, hcv, hcl, st⟩
  · cases hv
    obtain ⟨k1, k2, k3⟩ := vx_keep h0 e1 hS hA hf hL hF
    obtain ⟨t2, a1, b1⟩ := kk r u t T'.heap (locs ++ L) e1.symm (by rw [← e2]; exact X'.warmed.alike) hp hb k1 k2 k3 T' rfl X'
    exact ⟨t2, st t2 a1, b1⟩
  · obtain ⟨k1, k2, k3⟩ := vx_keep h0 e1 hS hAX hf hL hF
    obtain ⟨t2, a1, b1⟩ := kx E ce q u t T'.heap (locs ++ L) e1.symm (by rw [← e2]; exact X'.warmed.alike) hp hb k1 k2 k3 (by rw [e1]; exact hce) hcv hcl T' rfl X'
    exact ⟨t2, st.trans a1, b1⟩
theorem vx_callf {S SX : Type} {post : UInt32 → S → Prop} {px : SX → Prop} {B : S → State → Prop} {BX : String → SX → State → Prop} {AX : Nat → Prop} (hr : vx_Run p l e R s m args below meth c H locs cells slots mc ms (F0 m pc ls st0) rest (va_Qf post B A1 a) (vx_X px BX AX) free) (hS : va_S A0 H0 H locs) (hA : ∀ q, q < H.size → A1 q → A0 q) (hf : ∀ q, free q → A0 q) (hAX : ∀ q, q < H.size → AX q → A0 q)
    (kx : ∀ (E : String) (ce : Cell) (q9 : Addr) (u : SX) (t : State) (H1 : Heap) (locs1 : List Loc), t.heap = H1 → s.vm.Alike t.vm → px u → BX E u t → H.size ≤ H1.size → (∀ q : Nat, q < H.size → ¬ AX q → H1[q]? = H[q]?) → va_S A0 H0 H1 locs1 → H1[q9]? = some ce → ce.vm = .none → s.vm.findClass E = some ce.cls → vx_W p l e R s m args below meth c H1 locs1 (cells + mc) (slots + ms) Q (F0 m pc ls rest) q9)
    (kk : ∀ (r : UInt32) (u : S) (t : State) (H1 : Heap) (locs1 : List Loc), t.heap = H1 → s.vm.Alike t.vm → post r u → B u t → H.size ≤ H1.size → (∀ q : Nat, q < H.size → ¬ A1 q → H1[q]? = H[q]?) → va_S A0 H0 H1 locs1 → W p l e R s m args below meth c H1 locs1 (cells + mc) (slots + ms) Q (F0 m (pc + 3) ls (.float r :: rest))) : W p l e R s m args below meth c H locs cells slots Q (F0 m pc ls st0) := by
  intro T hT X
  rcases hr T hT X with ⟨v, st₀, t, T', L, h0, X', hL, e1, e2, ⟨⟨r, u, hv, hp, hb⟩, hF⟩, st⟩ | ⟨q, st₀, t, T', L, E, ce, h0, X', hL, e1, e2, ⟨u, hp, hb, hF⟩, hce, hcv, hcl, st⟩
  · cases hv
    obtain ⟨k1, k2, k3⟩ := vx_keep h0 e1 hS hA hf hL hF
    obtain ⟨t2, a1, b1⟩ := kk r u t T'.heap (locs ++ L) e1.symm (by rw [← e2]; exact X'.warmed.alike) hp hb k1 k2 k3 T' rfl X'
    exact ⟨t2, st t2 a1, b1⟩
  · obtain ⟨k1, k2, k3⟩ := vx_keep h0 e1 hS hAX hf hL hF
    obtain ⟨t2, a1, b1⟩ := kx E ce q u t T'.heap (locs ++ L) e1.symm (by rw [← e2]; exact X'.warmed.alike) hp hb k1 k2 k3 (by rw [e1]; exact hce) hcv hcl T' rfl X'
    exact ⟨t2, st.trans a1, b1⟩
theorem vx_calld {S SX : Type} {post : UInt64 → S → Prop} {px : SX → Prop} {B : S → State → Prop} {BX : String → SX → State → Prop} {AX : Nat → Prop} (hr : vx_Run p l e R s m args below meth c H locs cells slots mc ms (F0 m pc ls st0) rest (va_Qd post B A1 a) (vx_X px BX AX) free) (hS : va_S A0 H0 H locs) (hA : ∀ q, q < H.size → A1 q → A0 q) (hf : ∀ q, free q → A0 q) (hAX : ∀ q, q < H.size → AX q → A0 q)
    (kx : ∀ (E : String) (ce : Cell) (q9 : Addr) (u : SX) (t : State) (H1 : Heap) (locs1 : List Loc), t.heap = H1 → s.vm.Alike t.vm → px u → BX E u t → H.size ≤ H1.size → (∀ q : Nat, q < H.size → ¬ AX q → H1[q]? = H[q]?) → va_S A0 H0 H1 locs1 → H1[q9]? = some ce → ce.vm = .none → s.vm.findClass E = some ce.cls → vx_W p l e R s m args below meth c H1 locs1 (cells + mc) (slots + ms) Q (F0 m pc ls rest) q9)
    (kk : ∀ (r : UInt64) (u : S) (t : State) (H1 : Heap) (locs1 : List Loc), t.heap = H1 → s.vm.Alike t.vm → post r u → B u t → H.size ≤ H1.size → (∀ q : Nat, q < H.size → ¬ A1 q → H1[q]? = H[q]?) → va_S A0 H0 H1 locs1 → W p l e R s m args below meth c H1 locs1 (cells + mc) (slots + ms) Q (F0 m (pc + 3) ls (.double r :: rest))) : W p l e R s m args below meth c H locs cells slots Q (F0 m pc ls st0) := by
  intro T hT X
  rcases hr T hT X with ⟨v, st₀, t, T', L, h0, X', hL, e1, e2, ⟨⟨r, u, hv, hp, hb⟩, hF⟩, st⟩ | ⟨q, st₀, t, T', L, E, ce, h0, X', hL, e1, e2, ⟨u, hp, hb, hF⟩, hce, hcv, hcl, st⟩
  · cases hv
    obtain ⟨k1, k2, k3⟩ := vx_keep h0 e1 hS hA hf hL hF
    obtain ⟨t2, a1, b1⟩ := kk r u t T'.heap (locs ++ L) e1.symm (by rw [← e2]; exact X'.warmed.alike) hp hb k1 k2 k3 T' rfl X'
    exact ⟨t2, st t2 a1, b1⟩
  · obtain ⟨k1, k2, k3⟩ := vx_keep h0 e1 hS hAX hf hL hF
    obtain ⟨t2, a1, b1⟩ := kx E ce q u t T'.heap (locs ++ L) e1.symm (by rw [← e2]; exact X'.warmed.alike) hp hb k1 k2 k3 (by rw [e1]; exact hce) hcv hcl T' rfl X'
    exact ⟨t2, st.trans a1, b1⟩
theorem vx_callv {S SX : Type} {post : S → Prop} {px : SX → Prop} {B : S → State → Prop} {BX : String → SX → State → Prop} {AX : Nat → Prop} (hr : vx_Run p l e R s m args below meth c H locs cells slots mc ms (F0 m pc ls st0) rest (va_Qv post B A1 a) (vx_X px BX AX) free) (hS : va_S A0 H0 H locs) (hA : ∀ q, q < H.size → A1 q → A0 q) (hf : ∀ q, free q → A0 q) (hAX : ∀ q, q < H.size → AX q → A0 q)
    (kx : ∀ (E : String) (ce : Cell) (q9 : Addr) (u : SX) (t : State) (H1 : Heap) (locs1 : List Loc), t.heap = H1 → s.vm.Alike t.vm → px u → BX E u t → H.size ≤ H1.size → (∀ q : Nat, q < H.size → ¬ AX q → H1[q]? = H[q]?) → va_S A0 H0 H1 locs1 → H1[q9]? = some ce → ce.vm = .none → s.vm.findClass E = some ce.cls → vx_W p l e R s m args below meth c H1 locs1 (cells + mc) (slots + ms) Q (F0 m pc ls rest) q9)
    (kk : ∀ (u : S) (t : State) (H1 : Heap) (locs1 : List Loc), t.heap = H1 → s.vm.Alike t.vm → post u → B u t → H.size ≤ H1.size → (∀ q : Nat, q < H.size → ¬ A1 q → H1[q]? = H[q]?) → va_S A0 H0 H1 locs1 → W p l e R s m args below meth c H1 locs1 (cells + mc) (slots + ms) Q (F0 m (pc + 3) ls (rest))) : W p l e R s m args below meth c H locs cells slots Q (F0 m pc ls st0) := by
  intro T hT X
  rcases hr T hT X with ⟨v, st₀, t, T', L, h0, X', hL, e1, e2, ⟨⟨u, hv, hp, hb⟩, hF⟩, st⟩ | ⟨q, st₀, t, T', L, E, ce, h0, X', hL, e1, e2, ⟨u, hp, hb, hF⟩, hce, hcv, hcl, st⟩
  · cases hv
    obtain ⟨k1, k2, k3⟩ := vx_keep h0 e1 hS hA hf hL hF
    obtain ⟨t2, a1, b1⟩ := kk u t T'.heap (locs ++ L) e1.symm (by rw [← e2]; exact X'.warmed.alike) hp hb k1 k2 k3 T' rfl X'
    exact ⟨t2, st t2 a1, b1⟩
  · obtain ⟨k1, k2, k3⟩ := vx_keep h0 e1 hS hAX hf hL hF
    obtain ⟨t2, a1, b1⟩ := kx E ce q u t T'.heap (locs ++ L) e1.symm (by rw [← e2]; exact X'.warmed.alike) hp hb k1 k2 k3 (by rw [e1]; exact hce) hcv hcl T' rfl X'
    exact ⟨t2, st.trans a1, b1⟩
/-- caught by the row x of this method's table; the rows ahead don't take it -/
theorem vx_catch {own name : String} {E : String} {ce : Cell} {q : Addr} (hown : s.vm.findClass own = some m.cls) (pre : List ExceptionTableEntry) (x : ExceptionTableEntry) (suf : List ExceptionTableEntry) (hsplit : c.exceptionTable.toList = pre ++ x :: suf)
    (hpass : ∀ z ∈ pre, covers z pc = false ∨ (z.catchType ≠ 0 ∧ ∃ nm : String, (Cond.classLink own z.catchType nm).before args s = true ∧ va_Nc E nm s)) (hx : covers x pc = true) (h0 : x.catchType ≠ 0)
    (hlink : (Cond.classLink own x.catchType name).before args s = true) (hcast : (Cond.castable E name).before args s = true) (hcell : H[q]? = some ce) (hv : ce.vm = .none) (hcl : s.vm.findClass E = some ce.cls)
    (kk : W p l e R s m args below meth c H locs cells slots Q (F0 m x.handlerPc ls [.ref q])) : vx_W p l e R s m args below meth c H locs cells slots Q (F0 m pc ls rest) q := by
  intro T hT X
  have hpl : e.platform.magicAccessors = ({} : Platform).magicAccessors := by rw [X.admits.platform]
  obtain ⟨c3, c4, hc3, hc4, hasg⟩ := Cond.castable_spec hcast
  cases Option.some.inj (hc3.symm.trans hcl)
  obtain ⟨c5, hc5, hcl5⟩ := Cond.classLink_spec hown hlink e.platform hpl
  cases Option.some.inj (hc4.symm.trans hc5)
  obtain ⟨vm', X', st⟩ := X.thenCaughtThrough q (g := F0 m pc ls rest) rfl (Steps.refl _) (by rw [hT]; exact hcell) (by rw [hv]; rfl) (by obtain ⟨k9, h9, -⟩ := Vm.findClass_spec hcl; exact ⟨k9, h9⟩) pre x suf hsplit
    (fun z hz => by
      rcases hpass z hz with h | ⟨hz0, nm, hl1, hn1⟩
      · exact Or.inl h
      · obtain ⟨c6, hc6, hcl6⟩ := Cond.classLink_spec hown hl1 e.platform hpl
        obtain ⟨a8, b8, h1, h2, h3⟩ := hn1
        cases Option.some.inj (h1.symm.trans hcl)
        cases Option.some.inj (h2.symm.trans hc6)
        exact Or.inr ⟨hz0, _, hcl6, h3⟩) hx (Or.inr ⟨h0, c4, hcl5, hasg⟩)
  obtain ⟨t, a1, b1⟩ := kk (T.setVm vm') hT X'
  exact ⟨t, st.trans a1, b1⟩
end Rows
section Ends
variable {p : Program} {l : Launch} {e : Env} {R : Room} {s : State} {m : MethodId} {args : Array Value} {below : List Frame} {meth : Method} {c : Code} {H : Heap} {locs : List Loc} {cells slots : Nat} {Q : State → Prop}
variable {mc ms : Nat} {free : Addr → Prop} {A0 A1 : Nat → Prop} {H0 : Heap} {a : Array Value} {ls : Array Slot} {st0 rest : List Value}
variable {Qc : Array Value → State → Outcome → State → Prop} {XC : String → State → State → Prop}
/-- what a body that may throw owes at its end -/
def vx_MQ (below : List Frame) (Qc : Array Value → State → Outcome → State → Prop) (XC : String → State → State → Prop) (a : Array Value) (s : State) (mc ms : Nat) (free : Addr → Prop) : State → Prop := fun t =>
  ∃ o, t.status = .running ∧ Ended t below o ∧ vx_Q Qc XC mc ms free a s o t
theorem vx_ret {g : JFrame} {mc ms : Nat} (k : W p l e R s m args below meth c H locs cells slots (MQ below Qc args s mc ms free) g) : W p l e R s m args below meth c H locs cells slots (vx_MQ below Qc XC args s mc ms free) g := by
  intro T hT X
  obtain ⟨t, a1, o, b1, b2, b3, b4⟩ := k T hT X
  exact ⟨t, a1, o, b1, b2, Or.inl ⟨b3, b4⟩⟩
/-- not caught here: it goes on to the caller -/
theorem vx_widen {g : JFrame} {q : Addr} {k n : Nat} (h1 : cells ≤ k) (h2 : slots ≤ n) (kk : vx_W p l e R s m args below meth c H locs k n Q g q) : vx_W p l e R s m args below meth c H locs cells slots Q g q := fun T hT X => kk T hT (stand_widen X h1 h2)
theorem vx_out {pc : Nat} {E : String} {ce : Cell} {q : Addr} {mc ms : Nat} (hout : ∀ x ∈ c.exceptionTable.toList, covers x pc = false) (hlocks : meth.locks = false) (hcell : H[q]? = some ce) (hv : ce.vm = .none) (hcl : s.vm.findClass E = some ce.cls)
    (hx : ∀ t : State, t.heap = H → s.vm.Alike t.vm → XC E s t) (hf : ∀ z ∈ locs, free z.base) (hc : cells ≤ mc) (hs : slots ≤ ms) :
    vx_W p l e R s m args below meth c H locs cells slots (vx_MQ below Qc XC args s mc ms free) (F0 m pc ls rest) q := by
  intro T hT X
  obtain ⟨st1, hrun, hend, hW, hsm⟩ := X.leaveThrown q (g := F0 m pc ls rest) rfl rfl rfl hout hlocks
  have hcell9 : (T.setFrames (.throwing q :: below)).heap[q]? = some ce := by
    show T.heap[q]? = some ce
    rw [hT]; exact hcell
  exact ⟨_, st1, .threw q, hrun, hend, Or.inr ⟨q, rfl, E, ce, locs, hx _ hT hW.alike, hcell9, hv, hcl, hW, hsm.mono hc hs, hf⟩⟩
theorem vx_frame {U : State} {k n : Nat} (h : s.sameButNew ({ U with vm := s.vm } : State) locs k n) : s.heap.size ≤ U.heap.size ∧ ∀ q : Nat, q < s.heap.size → (∀ z ∈ locs, z.base ≠ q) → U.heap[q]? = s.heap[q]? := by
  obtain ⟨-, h2, -, -, -, h6⟩ := h
  refine ⟨h2, fun q hq hz => ?_⟩
  obtain ⟨c9, e1, e2, e3, e4⟩ := h6 q _ (Array.getElem?_eq_getElem hq)
  have hs : c9.slots = (s.heap[q]).slots := Array.ext_getElem? fun i => e4 i fun hm => hz _ hm rfl
  have h9 : c9 = s.heap[q] := by
    rw [hs] at e2
    exact e2
  have e5 : U.heap[q]? = some c9 := e1
  rw [e5, h9, Array.getElem?_eq_getElem hq]
/-- the words of a throw but the four that speak of the heap -/
def vx_no (w : Cond) : Bool := decide (w ≠ .isRef (.static Bundle.tN "UNASSIGNED_STACK" Bundle.steD)) && decide (w ≠ .isRef (.static Bundle.tN "SUPPRESSED_SENTINEL" Bundle.listD)) && decide (w ≠ .laysStatic Bundle.tN "UNASSIGNED_STACK" Bundle.steD) && decide (w ≠ .laysStatic Bundle.tN "SUPPRESSED_SENTINEL" Bundle.listD)
def vx_at0 (own : String) (ic : Nat) (X : String) (names : List String) : List Cond := (Bundle.ownAtoms0 own ic X names).filter vx_no
def vx_atS (own : String) (ic : Nat) (X : String) (names : List String) : List Cond := (Bundle.ownAtoms own ic X names).filter vx_no
/-- a word that the tables alone decide, or a good one -/
def vx_ot (w : Cond) : Bool := w.onTables || goodWord w
theorem vx_ot_at {args a' : Array Value} {s U : State} {w : Cond} (hW : s.WarmedH U.vm) (hvm : s.vm = U.vm) (hg : vx_ot w = true) (h : w.before args s = true) : w.before a' U = true := by
  simp only [vx_ot, Bool.or_eq_true] at hg
  rcases hg with hg | hg
  · exact va_tabs hg hvm h
  · exact word_at hW (good_of_word hg) h
/-- a list's words: the good ones out of the method's own list, the others by premises of their own -/
theorem vx_hat {args : Array Value} {s : State} {L B : List Cond} (h1 : ∀ w ∈ L.filter goodWord, w.before args s = true) (h2 : ∀ w ∈ L.filter (fun w => !goodWord w), w ∈ B) (h3 : ∀ w ∈ B, w.before args s = true) : ∀ w ∈ L, w.before args s = true := by
  intro w hw
  by_cases g : goodWord w = true
  · exact h1 w (List.mem_filter.mpr ⟨hw, g⟩)
  · refine h3 w (h2 w (List.mem_filter.mpr ⟨hw, ?_⟩))
    show (!goodWord w) = true
    cases hgw : goodWord w
    · rfl
    · exact absurd hgw g
theorem vx_c {args : Array Value} {s : State} {w : Cond} {B : List Cond} (h : w.before args s = true) (t : ∀ w ∈ B, w.before args s = true) : ∀ w' ∈ w :: B, w'.before args s = true := fun w' h' => (List.mem_cons.mp h').elim (fun e => by rw [e]; exact h) (t w')
theorem vx_n {args : Array Value} {s : State} : ∀ w ∈ ([] : List Cond), w.before args s = true := fun _ h => nomatch h
theorem vx_own {args : Array Value} {s : State} {L : List Cond} (h1 : ∀ w ∈ L.filter vx_no, w.before args s = true)
    (hU : (Cond.isRef (.static Bundle.tN "UNASSIGNED_STACK" Bundle.steD)).before args s = true) (hN : (Cond.isRef (.static Bundle.tN "SUPPRESSED_SENTINEL" Bundle.listD)).before args s = true)
    (lU : (Cond.laysStatic Bundle.tN "UNASSIGNED_STACK" Bundle.steD).before args s = true) (lN : (Cond.laysStatic Bundle.tN "SUPPRESSED_SENTINEL" Bundle.listD).before args s = true) : ∀ w ∈ L, w.before args s = true := by
  intro w hw
  by_cases e1 : w = .isRef (.static Bundle.tN "UNASSIGNED_STACK" Bundle.steD)
  · rw [e1]; exact hU
  · by_cases e2 : w = .isRef (.static Bundle.tN "SUPPRESSED_SENTINEL" Bundle.listD)
    · rw [e2]; exact hN
    · by_cases e3 : w = .laysStatic Bundle.tN "UNASSIGNED_STACK" Bundle.steD
      · rw [e3]; exact lU
      · by_cases e4 : w = .laysStatic Bundle.tN "SUPPRESSED_SENTINEL" Bundle.listD
        · rw [e4]; exact lN
        · exact h1 w (List.mem_filter.mpr ⟨hw, by unfold vx_no; rw [decide_eq_true e1, decide_eq_true e2, decide_eq_true e3, decide_eq_true e4]; rfl⟩)
/-- where a static field lies, its class's statics cell in H -/
def vx_L (C n d : String) (A : Nat → Prop) (U : State) (H : Heap) : Prop := ∃ (c : ClassId) (k : Class) (i : Nat) (f : Field) (a : Nat) (cell : Cell), U.vm.findClass C = some c ∧ U.fieldFound? C n d = some (c, k, i, f) ∧ f.isStatic = true ∧ k.statics = some a ∧ H[a]? = some cell ∧ cell.vm.isStatics = true ∧ cell.cls = c ∧ f.slot < cell.slots.size ∧ k.staticTypes[f.slot]? = some f.type ∧ ¬ A a
theorem vx_L.moved {C n d : String} {A : Nat → Prop} {u U : State} {H : Heap} (hvm : u.vm.Alike U.vm) (h : vx_L C n d A u H) : vx_L C n d A U H := by
  obtain ⟨c, k, i, f, a, cell, h1, h2, h3, h4, h5, h6, h7, h8, h9, h10⟩ := h
  obtain ⟨k', hi', he⟩ := State.fieldFound?_setVm hvm h2
  exact ⟨c, k', i, f, a, cell, by rw [hvm.findClass]; exact h1, hi', h3, by rw [he]; exact h4, h5, h6, h7, h8, by rw [he]; exact h9, h10⟩
theorem vx_L.kept {C n d : String} {A : Nat → Prop} {U : State} {H H1 : Heap} (h : vx_L C n d A U H) (hq : ∀ a : Nat, a < H.size → ¬ A a → H1[a]? = H[a]?) : vx_L C n d A U H1 := by
  obtain ⟨c, k, i, f, a, cell, h1, h2, h3, h4, h5, h6, h7, h8, h9, h10⟩ := h
  exact ⟨c, k, i, f, a, cell, h1, h2, h3, h4, by rw [hq a (Array.getElem?_eq_some_iff.mp h5).1 h10]; exact h5, h6, h7, h8, h9, h10⟩
theorem vx_L.narrow {C n d : String} {A B : Nat → Prop} {U : State} {H : Heap} (h : vx_L C n d A U H) (hAB : ∀ q, B q → A q) : vx_L C n d B U H := by
  obtain ⟨c, k, i, f, a, cell, h1, h2, h3, h4, h5, h6, h7, h8, h9, h10⟩ := h
  exact ⟨c, k, i, f, a, cell, h1, h2, h3, h4, h5, h6, h7, h8, h9, fun z => h10 (hAB _ z)⟩
theorem vx_L.word {C n d : String} {A : Nat → Prop} {s : State} {args : Array Value} (h : vx_L C n d A s s.heap) : (Cond.laysStatic C n d).before args s = true := by
  obtain ⟨c, k, i, f, a, cell, h1, h2, h3, h4, h5, h6, h7, h8, h9, -⟩ := h
  show (Cond.laysStatic C n d).holds args s none s [] = true
  exact Cond.laysStatic_of h1 h2 h3 h4 h5 h6 h7 h8 h9
/-- .. and what it holds: null or some reference -/
def vx_Zq (C n d : String) (A : Nat → Prop) (U : State) (H : Heap) : Prop := va_Zq C n d A U H ∧ vx_L C n d A U H
theorem vx_Zq.moved {C n d : String} {A : Nat → Prop} {u U : State} {H : Heap} (hvm : u.vm.Alike U.vm) (h : vx_Zq C n d A u H) : vx_Zq C n d A U H := ⟨va_Zq.moved hvm h.1, vx_L.moved hvm h.2⟩
theorem vx_Zq.kept {C n d : String} {A : Nat → Prop} {U : State} {H H1 : Heap} (h : vx_Zq C n d A U H) (hq : ∀ a : Nat, a < H.size → ¬ A a → H1[a]? = H[a]?) : vx_Zq C n d A U H1 := ⟨va_Zq.kept h.1 hq, vx_L.kept h.2 hq⟩
theorem vx_Zq.narrow {C n d : String} {A B : Nat → Prop} {U : State} {H : Heap} (h : vx_Zq C n d A U H) (hAB : ∀ q, B q → A q) : vx_Zq C n d B U H := ⟨va_Zq.narrow h.1 hAB, vx_L.narrow h.2 hAB⟩
theorem vx_Zqof {args : Array Value} {s : State} {C n d : String} {A : Nat → Prop} (hl : (Cond.laysStatic C n d).before args s = true) (hini : (Cond.initialized C).before args s = true) (h : (Cond.isRef (.static C n d)).before args s = true) (hA : ∀ a : Nat, a < s.heap.size → ¬ A a) : vx_Zq C n d A s s.heap := by
  refine ⟨va_Zqof hl hini h hA, ?_⟩
  obtain ⟨c, k, i, f, a, cell, h1, h2, h3, h4, h5, h6, h7, h8, h9⟩ := Cond.laysStatic_spec hl
  exact ⟨c, k, i, f, a, cell, h1, h2, h3, h4, h5, h6, h7, h8, h9, hA a (Array.getElem?_eq_some_iff.mp h5).1⟩
theorem vx_isRef {C n d : String} {v : Value} {A : Nat → Prop} {s : State} {args : Array Value} (h : va_Z C n d v A s s.heap) (hv : v.isRef = true) : (Cond.isRef (.static C n d)).before args s = true := by
  obtain ⟨cf, kf, fi, f, a, cell, h1, h2, h3, h4, h5, h6, h7, -⟩ := h
  have he : (Term.static C n d).eval args s none [] s = some v := by
    simp [Term.eval, State.fieldNamed?, h1, h2, h4, h5, h6, h7]
  simp only [Cond.before, Cond.holds, Cond.value, he]
  cases v <;> simp_all [Value.isRef]
theorem vx_isRefq {C n d : String} {A : Nat → Prop} {s : State} {args : Array Value} (h : va_Zq C n d A s s.heap) : (Cond.isRef (.static C n d)).before args s = true := by
  rcases h with h | ⟨t, h⟩
  · exact vx_isRef h rfl
  · exact vx_isRef h rfl
/-- the same frame, seen from here: as if the method were called anew in this heap -/
theorem vx_rebase {T : State} (X : Stand p l e R s m args below meth c T locs cells slots) {R' : Room} (hf : R'.frames ≤ R.frames) (hl : R'.locals ≤ R.locals) (hc : cells + R'.cells ≤ R.cells) (hs : slots + R'.slots ≤ R.slots) :
    Stand p l e R' ((T.setVm s.vm).setFrames (.invoking m args :: below)) m args below meth c T [] 0 0 := by
  have htop : (T.setVm s.vm).topJava?.isSome := X.here.top
  have hF : ((T.setVm s.vm).setFrames (.invoking m args :: below)).frames = .invoking m args :: below := State.frames_setFrames _ (State.cur_lt_of_top htop)
  obtain ⟨g₀, hg0⟩ := Option.isSome_iff_exists.mp htop
  obtain ⟨r, hr⟩ := State.topJava?_eq_some.mp hg0
  have hl9 : e.platform.stackLimits (T.setVm s.vm).me = e.platform.stackLimits s.me := X.limits
  have hb9 : (T.setVm s.vm).me.stackBytes = s.me.stackBytes := X.bytes
  refine ⟨X.admits, X.cas, X.clock, hF, ?_, X.hears, X.method, X.code, X.here, X.tail, X.warmed, ?_, ?_, ?_⟩
  · have h := X.room
    have hU : ((T.setVm s.vm).setFrames (.invoking m args :: below)).localsInUse = s.localsInUse := by
      rw [State.localsInUse_invoking hF (meth := meth) (c := c) X.method X.code, State.localsInUse_invoking X.frames X.method X.code]
    simp only [State.hasRoom, Bool.and_eq_true, decide_eq_true_eq] at h ⊢
    obtain ⟨⟨⟨⟨h1, h2, h3, h4, h5, h6⟩, h7⟩, h8⟩, h9⟩ := h
    rw [X.frames, List.length_cons] at h2 h3
    have q1 := X.heapSize
    have q2 := X.used
    simp only [hF, hU, List.length_cons, State.stackLimits_setFrames, State.stackBytes_setFrames, hl9, hb9]
    refine ⟨⟨⟨⟨by omega, by omega, by omega, by omega, by omega, h6⟩, ?_⟩, ?_⟩, X.book⟩
    · show T.heap.size + R'.cells ≤ e.platform.maxCells
      omega
    · show T.slotsUsed + R'.slots ≤ e.platform.maxSlots
      omega
  · rw [State.stackLimits_setFrames]; rfl
  · rw [State.stackBytes_setFrames]; rfl
  · refine ⟨?_, Nat.le_refl _, Nat.le_refl _, ?_, ?_, fun a c9 h9 => ⟨c9, h9, rfl, rfl, fun _ _ => rfl⟩⟩
    · obtain ⟨t, ht, -⟩ := State.frames_cons hr
      show T.setVm s.vm = { ((T.setVm s.vm).setFrames (.invoking m args :: below)).setFrames (T.setVm s.vm).frames with heap := T.heap, slotsUsed := T.slotsUsed }
      rw [State.setFrames_setFrames, State.setFrames_self ht]
      rfl
    · show T.slotsUsed = T.slotsUsed + ((T.heap.toList.drop T.heap.size).map (·.slots.size)).sum
      rw [List.drop_eq_nil_of_le (Nat.le_of_eq Array.length_toList)]
      rfl
    · show ((T.heap.toList.drop T.heap.size).map (·.slots.size)).sum ≤ 0
      rw [List.drop_eq_nil_of_le (Nat.le_of_eq Array.length_toList)]
      exact Nat.le_refl _
/-- 'throw new E()': new; dup; invokespecial; athrow -/
theorem vx_throw0 {cc : ByteArray} {pc : Nat} (hexec : p.tables.exec = Jvm.exec) (hb : c.code = cc) (hl : l.stackTraces = false) {own cls : String} {names : List String} {ik ic mc ms : Nat} {A : Nat → Prop}
    (hown : s.vm.findClass own = some m.cls) (hcls : Bundle.fit cls = true) (hnames : ∀ n ∈ names, Bundle.fit n = true)
    (hk : (Cond.classLink own ik cls).before args s = true) (hini : (Cond.initialized cls).before args s = true) (hat : ∀ w ∈ vx_at0 own ic cls names, w.before args s = true)
    (hgood : ∀ w ∈ Cond.classLink own ik cls :: Cond.initialized cls :: vx_at0 own ic cls names, vx_ot w = true)
    (hU : vx_Zq Bundle.tN "UNASSIGNED_STACK" Bundle.steD A s s.heap) (hN : vx_Zq Bundle.tN "SUPPRESSED_SENTINEL" Bundle.listD A s s.heap) (hS : va_S A s.heap H locs) (hsize : ls.size = c.maxLocals)
    (d0 : decode cc pc = .ok (.new ik, 3)) (d3 : decode cc (pc + 3) = .ok (.dup, 1)) (d4 : decode cc (pc + 4) = .ok (.invokespecial ic, 3)) (d7 : decode cc (pc + 7) = .ok (.athrow, 1))
    (hout : ∀ x ∈ c.exceptionTable.toList, covers x (pc + 7) = false)
    (hRframes : names.length + 3 < R.frames) (hRlocals : (rest.map fun v => v.category).sum + (13 * (names.length + 1) + 42) ≤ R.locals) (hRcells : cells + 1 ≤ R.cells) (hRslots : slots + 6 ≤ R.slots) (hlocks : meth.locks = false)
    (hx : ∀ t : State, s.vm.Alike t.vm → H.size ≤ t.heap.size → (∀ q : Nat, q < H.size → t.heap[q]? = H[q]?) → XC cls s t)
    (hf : ∀ z ∈ locs, free z.base) (hc : cells + 1 ≤ mc) (hs : slots + 6 ≤ ms) :
    W p l e R s m args below meth c H locs cells slots (vx_MQ below Qc XC args s mc ms free) (F0 m pc ls rest) := by
  intro T hT X
  have htr : e.platform.stackTraces = false := (show e.platform.stackTraces = l.stackTraces by rw [X.admits.platform]).trans hl
  have Y := vx_rebase X (R' := { frames := R.frames, locals := R.locals, cells := 1, slots := 6 }) (Nat.le_refl _) (Nat.le_refl _) hRcells hRslots
  obtain ⟨s', hA⟩ : ∃ z, z = (T.setVm s.vm).setFrames (.invoking m args :: below) := ⟨_, rfl⟩
  rw [← hA] at Y
  have hvm : s'.vm = s.vm := by rw [hA]; rfl
  have hhp : s'.heap = H := by rw [hA]; exact hT
  have hW0 : s.WarmedH s'.vm := by rw [hvm]; exact State.WarmedH.refl s
  have hat' : ∀ w ∈ vx_at0 own ic cls names, w.before args s' = true := fun w hw => vx_ot_at hW0 hvm.symm (hgood w (List.mem_cons_of_mem _ (List.mem_cons_of_mem _ hw))) (hat w hw)
  have hk' : (Cond.classLink own ik cls).before args s' = true := vx_ot_at hW0 hvm.symm (hgood _ List.mem_cons_self) hk
  have hini' : (Cond.initialized cls).before args s' = true := vx_ot_at hW0 hvm.symm (hgood _ (List.mem_cons_of_mem _ List.mem_cons_self)) hini
  have hU' : vx_Zq Bundle.tN "UNASSIGNED_STACK" Bundle.steD A s' s'.heap := by rw [hhp]; exact vx_Zq.moved hW0.alike (hU.kept hS.2.1)
  have hN' : vx_Zq Bundle.tN "SUPPRESSED_SENTINEL" Bundle.listD A s' s'.heap := by rw [hhp]; exact vx_Zq.moved hW0.alike (hN.kept hS.2.1)
  have h : ∀ w ∈ Bundle.ownAtoms0 own ic cls names, w.before args s' = true := vx_own hat' (vx_isRefq hU'.1) (vx_isRefq hN'.1) hU'.2.word hN'.2.word
  have hown' : s'.vm.findClass own = some m.cls := by rw [hvm]; exact hown
  have hins : (Cond.instantiable cls 6).before args s' = true := h _ (by simp [Bundle.ownAtoms0])
  obtain ⟨vm₁, cX, kX, hfX, hkX, -, -, X₁, st1⟩ := Y.newCold hexec (own := own) (C := cls) (index := ik) (n := 6) hown' hk' hins hini'
    (g := F0 m pc ls rest) rfl (by rw [hb]; exact d0) (Nat.le_refl _) (Nat.le_refl _)
  generalize hT1 : (T.setVm vm₁).pushCell { cls := cX, slots := kX.instanceTypes.map defaultValue, vm := .none } = T1 at X₁ st1
  have hcat : (Value.ref T.heap.size).category = 1 := rfl
  have hcellA : T1.heap[T.heap.size]? = some (freshCell cX kX) := by rw [← hT1]; exact State.heap_pushCell_size _ _
  have d3' : decode c.code (pc + 3) = .ok (.dup, 1) := by rw [hb]; exact d3
  obtain ⟨U, hsteps, hrun, hend, hW, hsame, ce, hce, hO⟩ := X₁.ctorThrow0 hexec htr (own := own) (cls := cls) (names := names) (ic := ic) hown' hcls hnames h (fun x hx => nomatch hx) hfX hkX hcellA (by rw [hhp, hT]; exact Nat.le_refl _)
    (g := { method := m, pc := pc + 4, locals := ls, stack := .ref T.heap.size :: .ref T.heap.size :: rest, locked := none }) rfl hsize rfl rfl (rest := rest) rfl
    (by rw [hb]; exact d4) (by rw [hb]; exact d7) hout hRframes (by simp only [List.map_cons, List.sum_cons, hcat]; omega) hlocks
  obtain ⟨f1, f2⟩ := vx_frame hsame
  rw [hhp] at f1 f2
  have hWs : s.WarmedH U.vm := State.WarmedH.trans hW0 hW
  have hcl : s.vm.findClass cls = some ce.cls := by
    have h9 := hO.cls
    rw [hvm] at h9
    exact h9
  have hall : s.sameButNew ({ U with vm := s.vm } : State) locs mc ms := by
    subst hA
    obtain ⟨e1, e2⟩ := hsame
    rw [State.setFrames_setFrames] at e1
    have h2 : (T.setVm s.vm).sameButNew ({ U with vm := s.vm } : State) [] (0 + 1) (0 + 6) := ⟨e1, e2⟩
    have h3 := X.same.trans h2
    rw [List.append_nil] at h3
    exact h3.mono hc hs
  refine ⟨U, ?_, .threw T.heap.size, hrun, hend, Or.inr ⟨T.heap.size, rfl, cls, ce, locs, hx U hWs.alike f1 (fun q hq => f2 q hq (fun z hz => nomatch hz)), hce, hO.vm, hcl, hWs, hall, hf⟩⟩
  refine st1 _ ?_
  show Steps p.tables e below (T1.setTop { method := m, pc := pc + 3, locals := ls, stack := .ref T.heap.size :: rest, locked := none }) _
  jvm_step X₁.here [X₁.here.top, hexec, d3', Value.category]
  exact hsteps
/-- 'throw new E("text")': new; dup; ldc; invokespecial; athrow -/
theorem vx_throwS {cc : ByteArray} {pc : Nat} (hexec : p.tables.exec = Jvm.exec) (hb : c.code = cc) (hl : l.stackTraces = false) {own cls text : String} {names : List String} {ik is ic mc ms sa : Nat} {A : Nat → Prop}
    (hown : s.vm.findClass own = some m.cls) (hcls : Bundle.fit cls = true) (hnames : ∀ n ∈ names, Bundle.fit n = true)
    (hk : (Cond.classLink own ik cls).before args s = true) (hini : (Cond.initialized cls).before args s = true) (hstr : vk_R own is text sa s) (hat : ∀ w ∈ vx_atS own ic cls names, w.before args s = true)
    (hgood : ∀ w ∈ Cond.classLink own ik cls :: Cond.initialized cls :: vx_atS own ic cls names, vx_ot w = true)
    (hU : vx_Zq Bundle.tN "UNASSIGNED_STACK" Bundle.steD A s s.heap) (hN : vx_Zq Bundle.tN "SUPPRESSED_SENTINEL" Bundle.listD A s s.heap) (hS : va_S A s.heap H locs) (hsize : ls.size = c.maxLocals)
    (d0 : decode cc pc = .ok (.new ik, 3)) (d3 : decode cc (pc + 3) = .ok (.dup, 1)) (d4 : decode cc (pc + 4) = .ok (.ldc is, 2)) (d6 : decode cc (pc + 6) = .ok (.invokespecial ic, 3)) (d9 : decode cc (pc + 9) = .ok (.athrow, 1))
    (hout : ∀ x ∈ c.exceptionTable.toList, covers x (pc + 9) = false)
    (hRframes : names.length + 3 < R.frames) (hRlocals : (rest.map fun v => v.category).sum + (13 * (names.length + 1) + 43) ≤ R.locals) (hRcells : cells + 1 ≤ R.cells) (hRslots : slots + 6 ≤ R.slots) (hlocks : meth.locks = false)
    (hx : ∀ t : State, s.vm.Alike t.vm → H.size ≤ t.heap.size → (∀ q : Nat, q < H.size → t.heap[q]? = H[q]?) → XC cls s t)
    (hf : ∀ z ∈ locs, free z.base) (hc : cells + 1 ≤ mc) (hs : slots + 6 ≤ ms) :
    W p l e R s m args below meth c H locs cells slots (vx_MQ below Qc XC args s mc ms free) (F0 m pc ls rest) := by
  intro T hT X
  have htr : e.platform.stackTraces = false := (show e.platform.stackTraces = l.stackTraces by rw [X.admits.platform]).trans hl
  have Y := vx_rebase X (R' := { frames := R.frames, locals := R.locals, cells := 1, slots := 6 }) (Nat.le_refl _) (Nat.le_refl _) hRcells hRslots
  obtain ⟨s', hA⟩ : ∃ z, z = (T.setVm s.vm).setFrames (.invoking m args :: below) := ⟨_, rfl⟩
  rw [← hA] at Y
  have hvm : s'.vm = s.vm := by rw [hA]; rfl
  have hhp : s'.heap = H := by rw [hA]; exact hT
  have hW0 : s.WarmedH s'.vm := by rw [hvm]; exact State.WarmedH.refl s
  have hat' : ∀ w ∈ vx_atS own ic cls names, w.before args s' = true := fun w hw => vx_ot_at hW0 hvm.symm (hgood w (List.mem_cons_of_mem _ (List.mem_cons_of_mem _ hw))) (hat w hw)
  have hk' : (Cond.classLink own ik cls).before args s' = true := vx_ot_at hW0 hvm.symm (hgood _ List.mem_cons_self) hk
  have hini' : (Cond.initialized cls).before args s' = true := vx_ot_at hW0 hvm.symm (hgood _ (List.mem_cons_of_mem _ List.mem_cons_self)) hini
  have hU' : vx_Zq Bundle.tN "UNASSIGNED_STACK" Bundle.steD A s' s'.heap := by rw [hhp]; exact vx_Zq.moved hW0.alike (hU.kept hS.2.1)
  have hN' : vx_Zq Bundle.tN "SUPPRESSED_SENTINEL" Bundle.listD A s' s'.heap := by rw [hhp]; exact vx_Zq.moved hW0.alike (hN.kept hS.2.1)
  have h : ∀ w ∈ Bundle.ownAtoms own ic cls names, w.before args s' = true := vx_own hat' (vx_isRefq hU'.1) (vx_isRefq hN'.1) hU'.2.word hN'.2.word
  have hown' : s'.vm.findClass own = some m.cls := by rw [hvm]; exact hown
  have hins : (Cond.instantiable cls 6).before args s' = true := h _ (by simp [Bundle.ownAtoms])
  obtain ⟨vm₁, cX, kX, hfX, hkX, -, -, X₁, st1⟩ := Y.newCold hexec (own := own) (C := cls) (index := ik) (n := 6) hown' hk' hins hini'
    (g := F0 m pc ls rest) rfl (by rw [hb]; exact d0) (Nat.le_refl _) (Nat.le_refl _)
  generalize hT1 : (T.setVm vm₁).pushCell { cls := cX, slots := kX.instanceTypes.map defaultValue, vm := .none } = T1 at X₁ st1
  have hcat : (Value.ref T.heap.size).category = 1 := rfl
  have hcellA : T1.heap[T.heap.size]? = some (freshCell cX kX) := by rw [← hT1]; exact State.heap_pushCell_size _ _
  have d3' : decode c.code (pc + 3) = .ok (.dup, 1) := by rw [hb]; exact d3
  have d4' : decode c.code (pc + 4) = .ok (.ldc is, 2) := by rw [hb]; exact d4
  have hstr' : vk_R own is text sa s' := vk_R.warm hW0 hstr
  obtain ⟨U, hsteps, hrun, hend, hW, hsame, ce, hce, hO⟩ := X₁.ctorThrowS hexec htr (own := own) (cls := cls) (names := names) (ic := ic) hown' hcls hnames h (fun x hx => nomatch hx) hfX hkX hcellA (by rw [hhp, hT]; exact Nat.le_refl _) (msg := .ref sa) rfl
    (g := { method := m, pc := pc + 6, locals := ls, stack := .ref sa :: .ref T.heap.size :: .ref T.heap.size :: rest, locked := none }) rfl hsize rfl rfl (rest := rest) rfl
    (by rw [hb]; exact d6) (by rw [hb]; exact d9) hout hRframes (by simp only [List.map_cons, List.sum_cons, hcat]; omega) hlocks
  obtain ⟨f1, f2⟩ := vx_frame hsame
  rw [hhp] at f1 f2
  have hWs : s.WarmedH U.vm := State.WarmedH.trans hW0 hW
  have hcl : s.vm.findClass cls = some ce.cls := by
    have h9 := hO.cls
    rw [hvm] at h9
    exact h9
  have hall : s.sameButNew ({ U with vm := s.vm } : State) locs mc ms := by
    subst hA
    obtain ⟨e1, e2⟩ := hsame
    rw [State.setFrames_setFrames] at e1
    have h2 : (T.setVm s.vm).sameButNew ({ U with vm := s.vm } : State) [] (0 + 1) (0 + 6) := ⟨e1, e2⟩
    have h3 := X.same.trans h2
    rw [List.append_nil] at h3
    exact h3.mono hc hs
  refine ⟨U, ?_, .threw T.heap.size, hrun, hend, Or.inr ⟨T.heap.size, rfl, cls, ce, locs, hx U hWs.alike f1 (fun q hq => f2 q hq (fun z hz => nomatch hz)), hce, hO.vm, hcl, hWs, hall, hf⟩⟩
  refine st1 _ ?_
  show Steps p.tables e below (T1.setTop { method := m, pc := pc + 3, locals := ls, stack := .ref T.heap.size :: rest, locked := none }) _
  jvm_step X₁.here [X₁.here.top, hexec, d3', Value.category]
  exact X₁.ldcString hexec (own := own) (text := text) (index := is) (a := sa) hown' hstr'.1 hstr'.2
    (g := { method := m, pc := pc + 4, locals := ls, stack := .ref T.heap.size :: .ref T.heap.size :: rest, locked := none }) rfl d4' _ hsteps
/-- 'throw new E("text")', the text by a wide index -/
theorem vx_throwSW {cc : ByteArray} {pc : Nat} (hexec : p.tables.exec = Jvm.exec) (hb : c.code = cc) (hl : l.stackTraces = false) {own cls text : String} {names : List String} {ik is ic mc ms sa : Nat} {A : Nat → Prop}
    (hown : s.vm.findClass own = some m.cls) (hcls : Bundle.fit cls = true) (hnames : ∀ n ∈ names, Bundle.fit n = true)
    (hk : (Cond.classLink own ik cls).before args s = true) (hini : (Cond.initialized cls).before args s = true) (hstr : vk_R own is text sa s) (hat : ∀ w ∈ vx_atS own ic cls names, w.before args s = true)
    (hgood : ∀ w ∈ Cond.classLink own ik cls :: Cond.initialized cls :: vx_atS own ic cls names, vx_ot w = true)
    (hU : vx_Zq Bundle.tN "UNASSIGNED_STACK" Bundle.steD A s s.heap) (hN : vx_Zq Bundle.tN "SUPPRESSED_SENTINEL" Bundle.listD A s s.heap) (hS : va_S A s.heap H locs) (hsize : ls.size = c.maxLocals)
    (d0 : decode cc pc = .ok (.new ik, 3)) (d3 : decode cc (pc + 3) = .ok (.dup, 1)) (d4 : decode cc (pc + 4) = .ok (.ldc_w is, 3)) (d7 : decode cc (pc + 7) = .ok (.invokespecial ic, 3)) (d10 : decode cc (pc + 10) = .ok (.athrow, 1))
    (hout : ∀ x ∈ c.exceptionTable.toList, covers x (pc + 10) = false)
    (hRframes : names.length + 3 < R.frames) (hRlocals : (rest.map fun v => v.category).sum + (13 * (names.length + 1) + 43) ≤ R.locals) (hRcells : cells + 1 ≤ R.cells) (hRslots : slots + 6 ≤ R.slots) (hlocks : meth.locks = false)
    (hx : ∀ t : State, s.vm.Alike t.vm → H.size ≤ t.heap.size → (∀ q : Nat, q < H.size → t.heap[q]? = H[q]?) → XC cls s t)
    (hf : ∀ z ∈ locs, free z.base) (hc : cells + 1 ≤ mc) (hs : slots + 6 ≤ ms) :
    W p l e R s m args below meth c H locs cells slots (vx_MQ below Qc XC args s mc ms free) (F0 m pc ls rest) := by
  intro T hT X
  have htr : e.platform.stackTraces = false := (show e.platform.stackTraces = l.stackTraces by rw [X.admits.platform]).trans hl
  have Y := vx_rebase X (R' := { frames := R.frames, locals := R.locals, cells := 1, slots := 6 }) (Nat.le_refl _) (Nat.le_refl _) hRcells hRslots
  obtain ⟨s', hA⟩ : ∃ z, z = (T.setVm s.vm).setFrames (.invoking m args :: below) := ⟨_, rfl⟩
  rw [← hA] at Y
  have hvm : s'.vm = s.vm := by rw [hA]; rfl
  have hhp : s'.heap = H := by rw [hA]; exact hT
  have hW0 : s.WarmedH s'.vm := by rw [hvm]; exact State.WarmedH.refl s
  have hat' : ∀ w ∈ vx_atS own ic cls names, w.before args s' = true := fun w hw => vx_ot_at hW0 hvm.symm (hgood w (List.mem_cons_of_mem _ (List.mem_cons_of_mem _ hw))) (hat w hw)
  have hk' : (Cond.classLink own ik cls).before args s' = true := vx_ot_at hW0 hvm.symm (hgood _ List.mem_cons_self) hk
  have hini' : (Cond.initialized cls).before args s' = true := vx_ot_at hW0 hvm.symm (hgood _ (List.mem_cons_of_mem _ List.mem_cons_self)) hini
  have hU' : vx_Zq Bundle.tN "UNASSIGNED_STACK" Bundle.steD A s' s'.heap := by rw [hhp]; exact vx_Zq.moved hW0.alike (hU.kept hS.2.1)
  have hN' : vx_Zq Bundle.tN "SUPPRESSED_SENTINEL" Bundle.listD A s' s'.heap := by rw [hhp]; exact vx_Zq.moved hW0.alike (hN.kept hS.2.1)
  have h : ∀ w ∈ Bundle.ownAtoms own ic cls names, w.before args s' = true := vx_own hat' (vx_isRefq hU'.1) (vx_isRefq hN'.1) hU'.2.word hN'.2.word
  have hown' : s'.vm.findClass own = some m.cls := by rw [hvm]; exact hown
  have hins : (Cond.instantiable cls 6).before args s' = true := h _ (by simp [Bundle.ownAtoms])
  obtain ⟨vm₁, cX, kX, hfX, hkX, -, -, X₁, st1⟩ := Y.newCold hexec (own := own) (C := cls) (index := ik) (n := 6) hown' hk' hins hini'
    (g := F0 m pc ls rest) rfl (by rw [hb]; exact d0) (Nat.le_refl _) (Nat.le_refl _)
  generalize hT1 : (T.setVm vm₁).pushCell { cls := cX, slots := kX.instanceTypes.map defaultValue, vm := .none } = T1 at X₁ st1
  have hcat : (Value.ref T.heap.size).category = 1 := rfl
  have hcellA : T1.heap[T.heap.size]? = some (freshCell cX kX) := by rw [← hT1]; exact State.heap_pushCell_size _ _
  have d3' : decode c.code (pc + 3) = .ok (.dup, 1) := by rw [hb]; exact d3
  have d4' : decode c.code (pc + 4) = .ok (.ldc_w is, 3) := by rw [hb]; exact d4
  have hstr' : vk_R own is text sa s' := vk_R.warm hW0 hstr
  obtain ⟨U, hsteps, hrun, hend, hW, hsame, ce, hce, hO⟩ := X₁.ctorThrowS hexec htr (own := own) (cls := cls) (names := names) (ic := ic) hown' hcls hnames h (fun x hx => nomatch hx) hfX hkX hcellA (by rw [hhp, hT]; exact Nat.le_refl _) (msg := .ref sa) rfl
    (g := { method := m, pc := pc + 7, locals := ls, stack := .ref sa :: .ref T.heap.size :: .ref T.heap.size :: rest, locked := none }) rfl hsize rfl rfl (rest := rest) rfl
    (by rw [hb]; exact d7) (by rw [hb]; exact d10) hout hRframes (by simp only [List.map_cons, List.sum_cons, hcat]; omega) hlocks
  obtain ⟨f1, f2⟩ := vx_frame hsame
  rw [hhp] at f1 f2
  have hWs : s.WarmedH U.vm := State.WarmedH.trans hW0 hW
  have hcl : s.vm.findClass cls = some ce.cls := by
    have h9 := hO.cls
    rw [hvm] at h9
    exact h9
  have hall : s.sameButNew ({ U with vm := s.vm } : State) locs mc ms := by
    subst hA
    obtain ⟨e1, e2⟩ := hsame
    rw [State.setFrames_setFrames] at e1
    have h2 : (T.setVm s.vm).sameButNew ({ U with vm := s.vm } : State) [] (0 + 1) (0 + 6) := ⟨e1, e2⟩
    have h3 := X.same.trans h2
    rw [List.append_nil] at h3
    exact h3.mono hc hs
  refine ⟨U, ?_, .threw T.heap.size, hrun, hend, Or.inr ⟨T.heap.size, rfl, cls, ce, locs, hx U hWs.alike f1 (fun q hq => f2 q hq (fun z hz => nomatch hz)), hce, hO.vm, hcl, hWs, hall, hf⟩⟩
  refine st1 _ ?_
  show Steps p.tables e below (T1.setTop { method := m, pc := pc + 3, locals := ls, stack := .ref T.heap.size :: rest, locked := none }) _
  jvm_step X₁.here [X₁.here.top, hexec, d3', Value.category]
  exact X₁.ldcStringW hexec (own := own) (text := text) (index := is) (a := sa) hown' hstr'.1 hstr'.2
    (g := { method := m, pc := pc + 4, locals := ls, stack := .ref T.heap.size :: .ref T.heap.size :: rest, locked := none }) rfl d4' _ hsteps
end Ends
section Bodies
variable {l : Launch}
theorem vx_ofW {y : MethodName} {ws ws' : List Cond} {rm : Room} {Pc : Array Value → State → Prop} {Qc : Array Value → State → Outcome → State → Prop} {XC : String → State → State → Prop} {mc ms : Nat} {free : Addr → Prop} {cc : ByteArray} {maxL : Nat} {ret : Option FieldType}
    (hy : plainName y.cls = true) (hw : ws = Cond.code y cc maxL ret :: ws')
    (body : ∀ p e s m args below meth c s₁, BodyLoose p l y (headSpec ws rm) cc maxL ret e s m args below meth c s₁ → c.maxLocals = maxL → (∀ x ∈ c.exceptionTable.toList, False) → Pc args s →
      W p l e (headSpec ws rm).room s m args below meth c s.heap [] 0 0 (vx_MQ below Qc XC args s mc ms free) (entryFrame m args maxL)) : vx_Met l y ws rm Pc Qc XC mc ms free := by
  refine MetFree.of_bodyS (code := cc) (maxLocals := maxL) (ret := ret) hy ?_ ?_
  · intro args s m h hn
    obtain ⟨meth, c, h1, h2, h3, h4, h5, h6, -, -⟩ := Cond.code_spec hn (atoms_spec (ws := ws) h _ (by rw [hw]; exact List.mem_cons_self))
    exact ⟨meth, c, h1, h2, h3, h4, h5, h6⟩
  · intro p e s m args below meth c s₁ B hml hP _
    have hh0 : s₁.heap = s.heap := by rw [B.state]; rfl
    have ht : ∀ x ∈ c.exceptionTable.toList, False := by
      obtain ⟨meth9, c9, h1, h2, -, -, -, -, h7, -⟩ := Cond.code_spec B.named (atoms_spec (ws := ws) B.pre _ (by rw [hw]; exact List.mem_cons_self))
      cases Option.some.inj (h1.symm.trans B.method)
      cases Option.some.inj (h2.symm.trans (Stand.of_body B).code)
      intro x hx
      rw [Array.isEmpty_iff.mp h7] at hx
      cases hx
    obtain ⟨t, a1, o, b1, b2, b3⟩ := body p e s m args below meth c s₁ B hml ht hP s₁ hh0 (Stand.of_body B)
    exact ⟨t, o, a1, b1, b2, b3⟩
/-- the table of a body with handlers -/
theorem vx_table {p : Program} {x y : MethodName} {S : Spec} {cc bytes : ByteArray} {maxL maxL' : Nat} {ret ret' : Option FieldType} {e : Env} {s s₁ : State} {m : MethodId} {args : Array Value} {below : List Frame} {meth : Method} {c : Code} {hh : List (Nat × Nat × Nat × Nat)}
    (B : BodyLoose p l y S cc maxL ret e s m args below meth c s₁) (h : (Cond.codeWith y bytes maxL' ret' hh).before args s = true) : c.exceptionTable.toList = tableOf hh := by
  obtain ⟨m9, meth9, c9, hn9, h1, h2, -, -, h6, -⟩ := Cond.codeWith_spec h
  cases Option.some.inj (hn9.symm.trans B.named)
  cases Option.some.inj (h1.symm.trans B.method)
  cases Option.some.inj (h2.symm.trans (Stand.of_body B).code)
  rw [← h6, table_eq]
end Bodies
end VXA
/-! ===== END ===== -/
/-! ===== BEGIN a static call of a method with an exception table ===== -/
section VXS
variable {p : Program} {l : Launch} {e : Env} {R : Room} {s : State} {m : MethodId} {args : Array Value} {below : List Frame} {meth : Method} {c : Code} {T : State} {H : Heap} {locs : List Loc} {cells slots : Nat}
abbrev vx_CSW (R : Room) (s : State) (args : Array Value) (own : String) (index : Nat) (y : MethodName) (bytes : ByteArray) (maxL : Nat) (ret : Option FieldType) (hh : List (Nat × Nat × Nat × Nat)) (ws : List Cond) (rm : Room) (mc ms n : Nat) : Prop :=
  (rm.cells = mc ∧ rm.slots = ms ∧ rm.frames + 1 ≤ R.frames ∧ 8 + (maxL + 11) + rm.locals ≤ R.locals ∧ (∀ w ∈ ws, ∀ (a' : Array Value) (U : State), s.WarmedH U.vm → w.before a' U = true) ∧ Cond.codeWith y bytes maxL ret hh ∈ ws) ∧
  (Cond.codeWith y bytes maxL ret hh).before args s = true ∧ (Cond.initialized y.cls).before args s = true ∧ (y.cls ≠ "java/lang/invoke/MethodHandle" ∧ y.cls ≠ "java/lang/invoke/VarHandle") ∧
  (∀ sig, parseMethodDescriptor y.desc = some sig → n = sig.parameters.length) ∧ (Cond.methodLink own index y).before args s = true ∧ (Cond.static y).before args s = true
theorem vx_cwSW {own : String} {index maxL mc ms : Nat} {y : MethodName} {bytes : ByteArray} {ret : Option FieldType} {hh : List (Nat × Nat × Nat × Nat)} {Ts ws ws' : List Cond} {rm : Room} (n : Nat) (ht : ∀ w ∈ Ts, w.before args s = true) (hT : GoodIn Ts (va_wsS own index y ws)) (hw : ws = Cond.codeWith y bytes maxL ret hh :: ws') (hrc : rm.cells = mc) (hrs : rm.slots = ms)
    (hd : y.cls ≠ "java/lang/invoke/MethodHandle" ∧ y.cls ≠ "java/lang/invoke/VarHandle" ∧ (parseMethodDescriptor y.desc).map (fun d => d.parameters.length) = some n) (hR : rm.frames + 1 ≤ R.frames ∧ 8 + (maxL + 11) + rm.locals ≤ R.locals) :
    vx_CSW R s args own index y bytes maxL ret hh ws rm mc ms n := by
  have ok : ∀ w ∈ va_wsS own index y ws, w.before args s = true := fun w h => ht w (hT w h).1
  have hG : GoodIn Ts ws := fun w h => hT w (by unfold va_wsS; exact List.mem_append_right _ h)
  have hc : Cond.codeWith y bytes maxL ret hh ∈ ws := by rw [hw]; exact List.mem_cons_self
  refine ⟨⟨hrc, hrs, hR.1, hR.2, pay_in ht hG, hc⟩, ht _ (hG _ hc).1, ok _ (by simp [va_wsS]), ⟨hd.1, hd.2.1⟩, fun sig h => ?_, ok _ (by simp [va_wsS]), ok _ (by simp [va_wsS])⟩
  have h2 := hd.2.2
  rw [h] at h2
  exact (Option.some.inj h2).symm
theorem vx_callSW (X : Stand p l e R s m args below meth c T locs cells slots) (hexec : p.tables.exec = Jvm.exec) {own : String} {index : Nat} {y : MethodName} {bytes : ByteArray} {maxL : Nat} {ret : Option FieldType} {hh : List (Nat × Nat × Nat × Nat)}
    (hown : s.vm.findClass own = some m.cls) (hlink : (Cond.methodLink own index y).before args s = true) (hstat : (Cond.static y).before args s = true) (hinit : (Cond.initialized y.cls).before args s = true)
    (hcode : (Cond.codeWith y bytes maxL ret hh).before args s = true) (hy : y.cls ≠ "java/lang/invoke/MethodHandle" ∧ y.cls ≠ "java/lang/invoke/VarHandle")
    {W9 : Nat} {Pre : Pt → Array Value → Prop} {Post : Pt → Array Value → Option Value → Pt → Prop} (hK : Back l R p e below s args y 3 W9 Pre Post)
    {g : JFrame} (hg : g.method = m) (hsize : g.locals.size = c.maxLocals) {argsL rest : List Value} (hlen : ∀ sig, parseMethodDescriptor y.desc = some sig → argsL.length = sig.parameters.length)
    (hstack : g.stack = argsL.reverse ++ rest) (hW : 2 * g.monitorRoom + (rest.map fun v => v.category).sum ≤ W9) (hdg : decode c.code g.pc = .ok (.invokestatic index, 3))
    (hpre : ∀ vm₁, s.WarmedH vm₁ → Pre ⟨T.setVm vm₁, locs, cells, slots⟩ argsL.toArray) :
    ∃ (v : Option Value) (vm₁ : Vm) (B : Pt), s.WarmedH vm₁ ∧ Stand p l e R s m args below meth c B.U B.locs B.cells B.slots ∧ Post ⟨T.setVm vm₁, locs, cells, slots⟩ argsL.toArray v B ∧
      ∀ target, Steps p.tables e below (B.U.setTop { g with pc := g.pc + 3, stack := v.toList ++ rest }) target → Steps p.tables e below (T.setTop g) target := by
  obtain ⟨mk, methM, cM, hnamed, hmethM, -, -, -, -, -, -, hsigM⟩ := Cond.codeWith_spec hcode
  have hstatic : methM.isStatic = true := Cond.static_spec hnamed hmethM hstat
  obtain ⟨kP, hkP, -⟩ := className_of_methodNamed hnamed
  have hinitP : kP.init = .initialized := Cond.initialized_spec (findClass_of_methodNamed hnamed) hkP hinit
  obtain ⟨vm₁, X₁, hstep₁⟩ := X.invokestatic hexec hown hlink hnamed hmethM hstatic hkP hinitP hy (g := g) hg (argsL := argsL) (rest := rest) (hlen _ hsigM) hstack hdg
  obtain ⟨v, B, X', hpost, hsteps⟩ := hK m meth c ⟨T.setVm vm₁, locs, cells, slots⟩ { g with stack := rest } (.invokestatic index) mk argsL.toArray X₁ hg hsize hdg hW (X₁.named hnamed) (hpre vm₁ X₁.warmed)
  exact ⟨v, vm₁, B, X₁.warmed, X', hpost, fun target h => hstep₁ _ fun acts => by rw [doInvoke_state]; exact hsteps.trans h⟩
theorem vx_runSW {y : MethodName} {bytes cc : ByteArray} {maxL nL mc ms n index : Nat} {ret : Option FieldType} {hh : List (Nat × Nat × Nat × Nat)} {ws : List Cond} {rm : Room} {Pc : Array Value → State → Prop} {Qc : Array Value → State → Outcome → State → Prop} {free : Addr → Prop} {Ts : List Cond} {own : String} {As rest : List Value} {g : JFrame}
    (S : CallFix p m c cc nL s args Ts own) (hM : Met l y ws rm Pc Qc mc ms free) (cw : vx_CSW R s args own index y bytes maxL ret hh ws rm mc ms n) (hp : PreS s H Pc As)
    (hg : g.method = m) (hn : As.length = n) (hsize : g.locals.size = nL) (hstack : g.stack = As.reverse ++ rest) (hW : 2 * g.monitorRoom + (rest.map fun v => v.category).sum ≤ 8) (hdg : decode cc g.pc = .ok (.invokestatic index, 3)) (hf : cells + mc ≤ R.cells ∧ slots + ms ≤ R.slots) :
    va_Run p l e R s m args below meth c H locs cells slots mc ms g rest (Qc As.toArray) (free) := by
  obtain ⟨⟨hrc, hrs, hfr, hlo, hws, hcw⟩, hcode, hini, hy, hlen, hl, hstt⟩ := cw
  have hK : Back l R p e below s args y 3 8 (PreOf R mc ms Pc) (PostOf Qc mc ms free) := va_backW (hh := hh) (bytes := bytes) (maxL := maxL) (ret := ret) hM hp.1 hrc hrs hfr hlo hws hcw (fun a' U hW => word_at hW (Or.inl (by first | rfl | simp [Cond.onTables, Cond.keeps, Cond.steady])) hini)
  obtain ⟨hx, hb, hml, ho, -⟩ := S
  intro T hT X
  obtain ⟨v, vm₁, ⟨U', l2, c2, s2⟩, hW₁, X', ⟨g', mk, t, L, e1, e2, hq, h1, hL, h2, h3⟩, st⟩ := vx_callSW X hx (hh := hh) (bytes := bytes) (maxL := maxL) (ret := ret) ho hl hstt hini hcode hy hK hg (hsize.trans hml.symm) (argsL := As) (rest := rest) (fun sig h => hn.trans (hlen sig h)) hstack hW (by rw [hb]; exact hdg)
    (fun vm₁ hW₁ => ⟨hf.1, hf.2, hp.2 (T.setVm vm₁) hT hW₁⟩)
  dsimp only [Pt.U, Pt.locs, Pt.cells, Pt.slots] at X' e1 e2 h1 h2 h3 st
  subst h1; subst h2; subst h3
  exact ⟨v, (T.setVm vm₁).calling g' mk As.toArray, t, U', L, hT, X', hL, e1, e2, hq, st⟩
/-- not caught here, past rows that name other classes: it goes on to the caller -/
theorem vx_outP {p : Program} {l : Launch} {e : Env} {R : Room} {s : State} {m : MethodId} {args : Array Value} {below : List Frame} {meth : Method} {c : Code} {H : Heap} {locs : List Loc} {cells slots : Nat} {free : Addr → Prop} {ls : Array Slot} {rest : List Value} {Qc : Array Value → State → Outcome → State → Prop} {XC : String → State → State → Prop}
    {pc : Nat} {own E : String} {ce : Cell} {q : Addr} {mc ms : Nat} (hown : s.vm.findClass own = some m.cls) (hlocks : meth.locks = false)
    (hpass : ∀ z ∈ c.exceptionTable.toList, covers z pc = false ∨ (z.catchType ≠ 0 ∧ ∃ nm : String, (Cond.classLink own z.catchType nm).before args s = true ∧ va_Nc E nm s)) (hcell : H[q]? = some ce) (hv : ce.vm = .none) (hcl : s.vm.findClass E = some ce.cls)
    (hx : ∀ t : State, t.heap = H → s.vm.Alike t.vm → XC E s t) (hf : ∀ z ∈ locs, free z.base) (hc : cells ≤ mc) (hs : slots ≤ ms) :
    vx_W p l e R s m args below meth c H locs cells slots (vx_MQ below Qc XC args s mc ms free) (F0 m pc ls rest) q := by
  intro T hT X
  have hpl : e.platform.magicAccessors = ({} : Platform).magicAccessors := by rw [X.admits.platform]
  obtain ⟨vm', hW', X', st⟩ := X.outThrough hlocks q (g := F0 m pc ls rest) rfl rfl rfl (cell := ce) (by rw [hT]; exact hcell) (by rw [hv]; rfl)
    (by obtain ⟨k9, h9, -⟩ := Vm.findClass_spec hcl; exact ⟨k9, h9⟩) (fun z hz => by
      rcases hpass z hz with h | ⟨hz0, nm, hl1, hn1⟩
      · exact Or.inl h
      · obtain ⟨c6, hc6, hcl6⟩ := Cond.classLink_spec hown hl1 e.platform hpl
        obtain ⟨a8, b8, h1, h2, h3⟩ := hn1
        cases Option.some.inj (h1.symm.trans hcl)
        cases Option.some.inj (h2.symm.trans hc6)
        exact Or.inr ⟨hz0, _, hcl6, h3⟩)
  obtain ⟨g₀, hfr⟩ := X'.frames_eq
  have hcell9 : ((T.setVm vm').setFrames (.throwing q :: below)).heap[q]? = some ce := by
    show T.heap[q]? = some ce
    rw [hT]; exact hcell
  have hend : Ended ((T.setVm vm').setFrames (.throwing q :: below)) below (.threw q) := State.frames_setFrames _ (State.cur_lt_of_frames hfr)
  refine ⟨(T.setVm vm').setFrames (.throwing q :: below), ?_, .threw q, X'.here.running, hend, Or.inr ⟨q, rfl, E, ce, locs, hx _ hT (X'.ends _).1.alike, hcell9, hv, hcl, (X'.ends _).1, (X'.ends _).2.mono hc hs, hf⟩⟩
  rw [X.pushThrowing_eq]
  exact st
/-- a thing of a world lies in the heap -/
theorem vx_lt {D : va_G} {cl : List vw_C} {ws : va_W} {H1 : Heap} (h : va_P D cl ws H1) {k : Nat} {q : Nat × va_E} (hk : ws[k]? = some q) : q.1 < H1.size := (h k q hk).lt
end VXS
/-! ===== END ===== -/
/-! ===== BEGIN methods with a table of their own: called by a name, returning or throwing ===== -/
section VXH
/-! vx_backW, vx_callVX, vx_callSX, vx_callVW, vx_runVW, vx_runVX, vx_runSX, vx_ofWH follow the same proofs as their sisters above (Free/Laws.lean, Shelf42/LK1.lean); vx_outP calls Shelf42/NT130.lean (outThrough). -/
section
variable {l : Launch} {R : Room} {p : Program} {e : Env} {below : List Frame} {s : State} {sargs : Array Value} {y : MethodName} {len W9 : Nat}
theorem vx_backW {ws : List Cond} {rm : Room} {Pc : Array Value → State → Prop} {Qc : Array Value → State → Outcome → State → Prop} {XC : String → State → State → Prop} {mc ms : Nat} {free : Addr → Prop} {bytes : ByteArray} {maxL : Nat} {ret : Option FieldType} {hh : List (Nat × Nat × Nat × Nat)}
    (hM : vx_Met l y ws rm Pc Qc XC mc ms free) (hblind : FrameBlind Pc) (hrc : rm.cells = mc) (hrs : rm.slots = ms)
    (hframes : rm.frames + 1 ≤ R.frames) (hlocals : W9 + (maxL + 11) + rm.locals ≤ R.locals)
    (hws : ∀ w ∈ ws, ∀ a' U, s.WarmedH U.vm → w.before a' U = true) (hcode : Cond.codeWith y bytes maxL ret hh ∈ ws) (hinit : ∀ a' U, s.WarmedH U.vm → (Cond.initialized y.cls).before a' U = true) :
    vx_Back l R p e below s sargs y len W9 (PreOf R mc ms Pc) (PostOf Qc mc ms free) (vx_Post XC mc ms free) := by
  intro m meth c A g ig mk a X hg hsize hdg hW hn hp
  have h1 : (headSpec ws rm).pre.before a A.U = true := atoms_intro fun w hw => hws w hw _ _ X.warmed
  have h2 : (Cond.codeWith y bytes maxL ret hh).before a A.U = true := hws _ hcode _ _ X.warmed
  have h3 : (Cond.initialized y.cls).before a A.U = true := hinit _ _ X.warmed
  have h4 : A.cells + (headSpec ws rm).room.cells ≤ R.cells := by rw [show (headSpec ws rm).room.cells = mc from hrc]; exact hp.1
  have h5 : A.slots + (headSpec ws rm).room.slots ≤ R.slots := by rw [show (headSpec ws rm).room.slots = ms from hrs]; exact hp.2.1
  have hPc : Pc a (A.U.calling g mk a) := hblind _ _ _ _ hp.2.2
  obtain ⟨U, Ls, c0, s0⟩ := A
  dsimp only [Pt.U, Pt.locs, Pt.cells, Pt.slots] at h1 h2 h3 h4 h5 X hn hPc ⊢
  obtain ⟨m9, methY, cY, hn9, hmY, hcY, -, hlY, -⟩ := Cond.codeWith_spec h2
  cases Option.some.inj (hn9.symm.trans hn)
  obtain ⟨kY, hkY, -⟩ := className_of_methodNamed hn
  have hinitY : kY.init = .initialized := Cond.initialized_spec (findClass_of_methodNamed hn) hkY h3
  have h : At U g.method c below := by rw [hg]; exact X.here
  have hlocals9 : W9 + (maxL + 11) + (headSpec ws rm).room.locals ≤ R.locals := hlocals
  have happ : (headSpec ws rm).appliesLoose y e.platform (U.calling g mk a) = true :=
    Spec.appliesLoose_calling (g := g) h hdg hn hkY hinitY
      (X.room_calling (g := g) (R' := (headSpec ws rm).room) hsize hmY hcY hframes (by rw [hlY]; omega) h4 h5) h1
  obtain ⟨mid, hmid⟩ := h.above
  have hfr : (U.setTop g).frames = (.java g :: mid) ++ below := by rw [State.frames_setTop' g h.top, hmid]; rfl
  obtain ⟨o, s₂, hsteps, -, hend, hq⟩ := Steps.callFree hM p X.admits X.cas X.clock (acts := []) hfr happ hPc trivial
  have hq' : vx_Q Qc XC mc ms free a (U.calling g mk a) o s₂ := hq
  rw [State.frames_setTop' g h.top] at hend
  obtain ⟨g₀, hg0⟩ := Option.isSome_iff_exists.mp h.top
  obtain ⟨r, hr⟩ := State.topJava?_eq_some.mp hg0
  have hr' : (({ U with heap := s₂.heap, slotsUsed := s₂.slotsUsed } : State).setVm s₂.vm).frames = .java g₀ :: r := hr
  rcases hq' with ⟨hqc, L, hfe, hL⟩ | ⟨q, rfl, E, ce, L, hx, hce, hcv, hcl, hW₂, hsm, hL⟩
  · obtain ⟨⟨v, rfl⟩, hW₂, e2, q2, q3, q4, q5, q6⟩ := id hfe
    have e3 : s₂ = ({ (U.calling g mk a).setFrames s₂.frames with heap := s₂.heap, slotsUsed := s₂.slotsUsed } : State).setVm s₂.vm := by
      have : s₂ = ({ s₂ with vm := (U.calling g mk a).vm } : State).setVm s₂.vm := rfl
      rw [e2] at this
      exact this
    obtain ⟨c₂, i₂, len₂, hc₂, hd₂, hf₂⟩ := hend
    have hW' : U.WarmedH s₂.vm := hW₂
    have hcc : c₂ = c := by
      have h1 : s₂.code? g.method = U.code? g.method := by
        rw [State.code?_eq, State.code?_eq, hW'.alike.method?]
      exact Option.some.inj (hc₂.symm.trans (h1.trans h.code))
    subst hcc
    have hlen : len₂ = len := by rw [hdg] at hd₂; cases hd₂; rfl
    subst hlen
    have hs₂ : s₂ = (({ U with heap := s₂.heap, slotsUsed := s₂.slotsUsed } : State).setVm s₂.vm).setTop { g with pc := g.pc + len₂, stack := v.toList ++ g.stack } := by
      refine e3.trans ?_
      rw [hf₂, State.calling_eq h.top, State.setFrames_setFrames, State.setTop_of_frames _ hr', hr]
      rfl
    have hsame : U.sameButNew ({ U with heap := s₂.heap, slotsUsed := s₂.slotsUsed } : State) L mc ms := by
      refine ⟨?_, q2, q3, q4, q5, q6⟩
      obtain ⟨t, ht, -⟩ := State.frames_cons hr
      show ({ U with heap := s₂.heap, slotsUsed := s₂.slotsUsed } : State) = { U.setFrames U.frames with heap := s₂.heap, slotsUsed := s₂.slotsUsed }
      rw [State.setFrames_self ht]
    subst hg
    refine Or.inl ⟨v, ⟨(({ U with heap := s₂.heap, slotsUsed := s₂.slotsUsed } : State).setVm s₂.vm), Ls ++ L, c0 + mc, s0 + ms⟩,
      ⟨X.admits, X.cas, X.clock, X.frames, X.room, X.hears, X.method, X.code, (X.here.setHeapUsed s₂.heap s₂.slotsUsed).setVm hW'.alike, X.tail, State.WarmedH.trans X.warmed hW', X.limits, X.bytes, X.same.trans (hsame.setVm s.vm)⟩,
      ⟨g, mk, s₂, L, rfl, rfl, hqc, rfl, hL, rfl, rfl⟩, ?_⟩
    show Steps p.tables e below _ ((({ U with heap := s₂.heap, slotsUsed := s₂.slotsUsed } : State).setVm s₂.vm).setTop { g with pc := g.pc + len₂, stack := v.toList ++ g.stack })
    rw [← hs₂]
    exact hsteps
  · obtain ⟨e2, q2, q3, q4, q5, q6⟩ := id hsm
    have e3 : s₂ = ({ (U.calling g mk a).setFrames s₂.frames with heap := s₂.heap, slotsUsed := s₂.slotsUsed } : State).setVm s₂.vm := by
      have : s₂ = ({ s₂ with vm := (U.calling g mk a).vm } : State).setVm s₂.vm := rfl
      rw [e2] at this
      exact this
    have hf₂ : s₂.frames = .throwing q :: .java g :: U.frames.tail := hend
    have hW' : U.WarmedH s₂.vm := hW₂
    have hs₂ : s₂ = ((({ U with heap := s₂.heap, slotsUsed := s₂.slotsUsed } : State).setVm s₂.vm).setTop g).pushFrame (.throwing q) := by
      refine e3.trans ?_
      rw [hf₂, State.calling_eq h.top, State.setFrames_setFrames, State.pushFrame, State.frames_setTop _ hr', State.setTop_of_frames _ hr', State.setFrames_setFrames, hr]
      rfl
    have hsame : U.sameButNew ({ U with heap := s₂.heap, slotsUsed := s₂.slotsUsed } : State) L mc ms := by
      refine ⟨?_, q2, q3, q4, q5, q6⟩
      obtain ⟨t, ht, -⟩ := State.frames_cons hr
      show ({ U with heap := s₂.heap, slotsUsed := s₂.slotsUsed } : State) = { U.setFrames U.frames with heap := s₂.heap, slotsUsed := s₂.slotsUsed }
      rw [State.setFrames_self ht]
    subst hg
    refine Or.inr ⟨q, ⟨(({ U with heap := s₂.heap, slotsUsed := s₂.slotsUsed } : State).setVm s₂.vm), Ls ++ L, c0 + mc, s0 + ms⟩,
      ⟨X.admits, X.cas, X.clock, X.frames, X.room, X.hears, X.method, X.code, (X.here.setHeapUsed s₂.heap s₂.slotsUsed).setVm hW'.alike, X.tail, State.WarmedH.trans X.warmed hW', X.limits, X.bytes, X.same.trans (hsame.setVm s.vm)⟩,
      ⟨g, mk, s₂, L, E, ce, rfl, rfl, hx, hce, hcv, hcl, rfl, hL, rfl, rfl⟩, ?_⟩
    show Steps p.tables e below _ (((({ U with heap := s₂.heap, slotsUsed := s₂.slotsUsed } : State).setVm s₂.vm).setTop g).pushFrame (.throwing q))
    rw [← hs₂]
    exact hsteps
end
variable {p : Program} {l : Launch} {e : Env} {R : Room} {s : State} {m : MethodId} {args : Array Value} {below : List Frame} {meth : Method} {c : Code} {T : State} {H : Heap} {locs : List Loc} {cells slots : Nat}
theorem vx_callVX (X : Stand p l e R s m args below meth c T locs cells slots) (hexec : p.tables.exec = Jvm.exec) {own C : String} {index : Nat} {y : MethodName} {bytes : ByteArray} {maxL : Nat} {ret : Option FieldType} {hh : List (Nat × Nat × Nat × Nat)}
    (hown : s.vm.findClass own = some m.cls) (hlink : (Cond.methodLink own index y).before args s = true) (hinst : (Cond.instanceMethod y).before args s = true) (hsel : (Cond.selects C y y).before args s = true)
    (hcode : (Cond.codeWith y bytes maxL ret hh).before args s = true) (hy : y.cls ≠ "java/lang/invoke/MethodHandle" ∧ y.cls ≠ "java/lang/invoke/VarHandle")
    {W9 : Nat} {Pre : Pt → Array Value → Prop} {Post : Pt → Array Value → Option Value → Pt → Prop} {PostX : Pt → Array Value → Addr → Pt → Prop} (hK : vx_Back l R p e below s args y 3 W9 Pre Post PostX)
    {b : Addr} {cellB : Cell} (hcell : T.heap[b]? = some cellB) (hobj : cellB.vm.isStatics = false) (hcls : s.vm.findClass C = some cellB.cls)
    {g : JFrame} (hg : g.method = m) (hsize : g.locals.size = c.maxLocals) {argsL rest : List Value} (hlen : ∀ sig, parseMethodDescriptor y.desc = some sig → argsL.length = sig.parameters.length)
    (hstack : g.stack = argsL.reverse ++ .ref b :: rest) (hW : 2 * g.monitorRoom + (rest.map fun v => v.category).sum ≤ W9) (hdg : decode c.code g.pc = .ok (.invokevirtual index, 3))
    (hpre : ∀ vm₁, s.WarmedH vm₁ → Pre ⟨T.setVm vm₁, locs, cells, slots⟩ (Value.ref b :: argsL).toArray) :
    (∃ (v : Option Value) (vm₁ : Vm) (B : Pt), s.WarmedH vm₁ ∧ Stand p l e R s m args below meth c B.U B.locs B.cells B.slots ∧ Post ⟨T.setVm vm₁, locs, cells, slots⟩ (Value.ref b :: argsL).toArray v B ∧
      ∀ target, Steps p.tables e below (B.U.setTop { g with pc := g.pc + 3, stack := v.toList ++ rest }) target → Steps p.tables e below (T.setTop g) target) ∨
    (∃ (q : Addr) (vm₁ : Vm) (B : Pt), s.WarmedH vm₁ ∧ Stand p l e R s m args below meth c B.U B.locs B.cells B.slots ∧ PostX ⟨T.setVm vm₁, locs, cells, slots⟩ (Value.ref b :: argsL).toArray q B ∧
      Steps p.tables e below (T.setTop g) ((B.U.setTop { g with stack := rest }).pushFrame (.throwing q))) := by
  obtain ⟨mk, methM, hnamed, hmethM, hstM, habM⟩ := Cond.instanceMethod_spec hinst
  obtain ⟨m8, methM', cM, hn8, hmethM', -, -, -, -, -, -, hsigM⟩ := Cond.codeWith_spec hcode
  cases Option.some.inj (hn8.symm.trans hnamed)
  cases hmethM.symm.trans hmethM'
  obtain ⟨c2, r2, m2, q1, q2, q3, q4, kP, hkP, hkPi⟩ := Cond.selects_spec hsel
  cases hcls.symm.trans q1
  cases (State.methodFound?_of_named hnamed hy).symm.trans q2
  cases hnamed.symm.trans q3
  have hselP : selectMethod e.platform s.vm cellB.cls mk = .method mk := by rw [Launch.admits_selectMethod X.admits]; exact q4
  obtain ⟨vm₁, X₁, hstep₁⟩ := X.invokevirtual hexec hown hlink hnamed hmethM hstM hkP hkPi hy (a := b) (cell := cellB) hcell
    (fun z h => by rw [h] at hobj; cases hobj) hselP hmethM habM hkP hkPi (g := g) hg (argsL := argsL) (rest := rest) (hlen _ hsigM) hstack hdg
  rcases hK m meth c ⟨T.setVm vm₁, locs, cells, slots⟩ { g with stack := rest } (.invokevirtual index) mk (Value.ref b :: argsL).toArray X₁ hg hsize hdg hW (X₁.named hnamed) (hpre vm₁ X₁.warmed) with ⟨v, B, X', hpost, hsteps⟩ | ⟨q, B, X', hpost, hsteps⟩
  · exact Or.inl ⟨v, vm₁, B, X₁.warmed, X', hpost, fun target h => hstep₁ _ fun acts => by rw [doInvoke_state]; exact hsteps.trans h⟩
  · exact Or.inr ⟨q, vm₁, B, X₁.warmed, X', hpost, hstep₁ _ fun acts => by rw [doInvoke_state]; exact hsteps⟩
theorem vx_callSX (X : Stand p l e R s m args below meth c T locs cells slots) (hexec : p.tables.exec = Jvm.exec) {own : String} {index : Nat} {y : MethodName} {bytes : ByteArray} {maxL : Nat} {ret : Option FieldType} {hh : List (Nat × Nat × Nat × Nat)}
    (hown : s.vm.findClass own = some m.cls) (hlink : (Cond.methodLink own index y).before args s = true) (hstat : (Cond.static y).before args s = true) (hinit : (Cond.initialized y.cls).before args s = true)
    (hcode : (Cond.codeWith y bytes maxL ret hh).before args s = true) (hy : y.cls ≠ "java/lang/invoke/MethodHandle" ∧ y.cls ≠ "java/lang/invoke/VarHandle")
    {W9 : Nat} {Pre : Pt → Array Value → Prop} {Post : Pt → Array Value → Option Value → Pt → Prop} {PostX : Pt → Array Value → Addr → Pt → Prop} (hK : vx_Back l R p e below s args y 3 W9 Pre Post PostX)
    {g : JFrame} (hg : g.method = m) (hsize : g.locals.size = c.maxLocals) {argsL rest : List Value} (hlen : ∀ sig, parseMethodDescriptor y.desc = some sig → argsL.length = sig.parameters.length)
    (hstack : g.stack = argsL.reverse ++ rest) (hW : 2 * g.monitorRoom + (rest.map fun v => v.category).sum ≤ W9) (hdg : decode c.code g.pc = .ok (.invokestatic index, 3))
    (hpre : ∀ vm₁, s.WarmedH vm₁ → Pre ⟨T.setVm vm₁, locs, cells, slots⟩ argsL.toArray) :
    (∃ (v : Option Value) (vm₁ : Vm) (B : Pt), s.WarmedH vm₁ ∧ Stand p l e R s m args below meth c B.U B.locs B.cells B.slots ∧ Post ⟨T.setVm vm₁, locs, cells, slots⟩ argsL.toArray v B ∧
      ∀ target, Steps p.tables e below (B.U.setTop { g with pc := g.pc + 3, stack := v.toList ++ rest }) target → Steps p.tables e below (T.setTop g) target) ∨
    (∃ (q : Addr) (vm₁ : Vm) (B : Pt), s.WarmedH vm₁ ∧ Stand p l e R s m args below meth c B.U B.locs B.cells B.slots ∧ PostX ⟨T.setVm vm₁, locs, cells, slots⟩ argsL.toArray q B ∧
      Steps p.tables e below (T.setTop g) ((B.U.setTop { g with stack := rest }).pushFrame (.throwing q))) := by
  obtain ⟨mk, methM, cM, hnamed, hmethM, -, -, -, -, -, -, hsigM⟩ := Cond.codeWith_spec hcode
  have hstatic : methM.isStatic = true := Cond.static_spec hnamed hmethM hstat
  obtain ⟨kP, hkP, -⟩ := className_of_methodNamed hnamed
  have hinitP : kP.init = .initialized := Cond.initialized_spec (findClass_of_methodNamed hnamed) hkP hinit
  obtain ⟨vm₁, X₁, hstep₁⟩ := X.invokestatic hexec hown hlink hnamed hmethM hstatic hkP hinitP hy (g := g) hg (argsL := argsL) (rest := rest) (hlen _ hsigM) hstack hdg
  rcases hK m meth c ⟨T.setVm vm₁, locs, cells, slots⟩ { g with stack := rest } (.invokestatic index) mk argsL.toArray X₁ hg hsize hdg hW (X₁.named hnamed) (hpre vm₁ X₁.warmed) with ⟨v, B, X', hpost, hsteps⟩ | ⟨q, B, X', hpost, hsteps⟩
  · exact Or.inl ⟨v, vm₁, B, X₁.warmed, X', hpost, fun target h => hstep₁ _ fun acts => by rw [doInvoke_state]; exact hsteps.trans h⟩
  · exact Or.inr ⟨q, vm₁, B, X₁.warmed, X', hpost, hstep₁ _ fun acts => by rw [doInvoke_state]; exact hsteps⟩
theorem vx_callVW (X : Stand p l e R s m args below meth c T locs cells slots) (hexec : p.tables.exec = Jvm.exec) {own C : String} {index : Nat} {y : MethodName} {bytes : ByteArray} {maxL : Nat} {ret : Option FieldType} {hh : List (Nat × Nat × Nat × Nat)}
    (hown : s.vm.findClass own = some m.cls) (hlink : (Cond.methodLink own index y).before args s = true) (hinst : (Cond.instanceMethod y).before args s = true) (hsel : (Cond.selects C y y).before args s = true)
    (hcode : (Cond.codeWith y bytes maxL ret hh).before args s = true) (hy : y.cls ≠ "java/lang/invoke/MethodHandle" ∧ y.cls ≠ "java/lang/invoke/VarHandle")
    {W9 : Nat} {Pre : Pt → Array Value → Prop} {Post : Pt → Array Value → Option Value → Pt → Prop} (hK : Back l R p e below s args y 3 W9 Pre Post)
    {b : Addr} {cellB : Cell} (hcell : T.heap[b]? = some cellB) (hobj : cellB.vm.isStatics = false) (hcls : s.vm.findClass C = some cellB.cls)
    {g : JFrame} (hg : g.method = m) (hsize : g.locals.size = c.maxLocals) {argsL rest : List Value} (hlen : ∀ sig, parseMethodDescriptor y.desc = some sig → argsL.length = sig.parameters.length)
    (hstack : g.stack = argsL.reverse ++ .ref b :: rest) (hW : 2 * g.monitorRoom + (rest.map fun v => v.category).sum ≤ W9) (hdg : decode c.code g.pc = .ok (.invokevirtual index, 3))
    (hpre : ∀ vm₁, s.WarmedH vm₁ → Pre ⟨T.setVm vm₁, locs, cells, slots⟩ (Value.ref b :: argsL).toArray) :
    ∃ (v : Option Value) (vm₁ : Vm) (B : Pt), s.WarmedH vm₁ ∧ Stand p l e R s m args below meth c B.U B.locs B.cells B.slots ∧ Post ⟨T.setVm vm₁, locs, cells, slots⟩ (Value.ref b :: argsL).toArray v B ∧
      ∀ target, Steps p.tables e below (B.U.setTop { g with pc := g.pc + 3, stack := v.toList ++ rest }) target → Steps p.tables e below (T.setTop g) target := by
  obtain ⟨mk, methM, hnamed, hmethM, hstM, habM⟩ := Cond.instanceMethod_spec hinst
  obtain ⟨m8, methM', cM, hn8, hmethM', -, -, -, -, -, -, hsigM⟩ := Cond.codeWith_spec hcode
  cases Option.some.inj (hn8.symm.trans hnamed)
  cases hmethM.symm.trans hmethM'
  obtain ⟨c2, r2, m2, q1, q2, q3, q4, kP, hkP, hkPi⟩ := Cond.selects_spec hsel
  cases hcls.symm.trans q1
  cases (State.methodFound?_of_named hnamed hy).symm.trans q2
  cases hnamed.symm.trans q3
  have hselP : selectMethod e.platform s.vm cellB.cls mk = .method mk := by rw [Launch.admits_selectMethod X.admits]; exact q4
  obtain ⟨vm₁, X₁, hstep₁⟩ := X.invokevirtual hexec hown hlink hnamed hmethM hstM hkP hkPi hy (a := b) (cell := cellB) hcell
    (fun z h => by rw [h] at hobj; cases hobj) hselP hmethM habM hkP hkPi (g := g) hg (argsL := argsL) (rest := rest) (hlen _ hsigM) hstack hdg
  obtain ⟨v, B, X', hpost, hsteps⟩ := hK m meth c ⟨T.setVm vm₁, locs, cells, slots⟩ { g with stack := rest } (.invokevirtual index) mk (Value.ref b :: argsL).toArray X₁ hg hsize hdg hW (X₁.named hnamed) (hpre vm₁ X₁.warmed)
  exact ⟨v, vm₁, B, X₁.warmed, X', hpost, fun target h => hstep₁ _ fun acts => by rw [doInvoke_state]; exact hsteps.trans h⟩
abbrev vx_CVW (R : Room) (s : State) (args : Array Value) (own C : String) (index : Nat) (y : MethodName) (bytes : ByteArray) (maxL : Nat) (ret : Option FieldType) (hh : List (Nat × Nat × Nat × Nat)) (ws : List Cond) (rm : Room) (mc ms n : Nat) : Prop :=
  (rm.cells = mc ∧ rm.slots = ms ∧ rm.frames + 1 ≤ R.frames ∧ 8 + (maxL + 11) + rm.locals ≤ R.locals ∧ (∀ w ∈ ws, ∀ (a' : Array Value) (U : State), s.WarmedH U.vm → w.before a' U = true) ∧ Cond.codeWith y bytes maxL ret hh ∈ ws) ∧
  (Cond.codeWith y bytes maxL ret hh).before args s = true ∧ (Cond.initialized y.cls).before args s = true ∧ (y.cls ≠ "java/lang/invoke/MethodHandle" ∧ y.cls ≠ "java/lang/invoke/VarHandle") ∧
  (∀ sig, parseMethodDescriptor y.desc = some sig → n = sig.parameters.length) ∧ (Cond.methodLink own index y).before args s = true ∧ (Cond.instanceMethod y).before args s = true ∧ (Cond.selects C y y).before args s = true
theorem vx_cwVW {own C : String} {index maxL mc ms : Nat} {y : MethodName} {bytes : ByteArray} {ret : Option FieldType} {hh : List (Nat × Nat × Nat × Nat)} {Ts ws ws' : List Cond} {rm : Room} (n : Nat) (ht : ∀ w ∈ Ts, w.before args s = true) (hT : GoodIn Ts (wsV own index C y ws)) (hw : ws = Cond.codeWith y bytes maxL ret hh :: ws') (hrc : rm.cells = mc) (hrs : rm.slots = ms)
    (hd : y.cls = C ∧ y.cls ≠ "java/lang/invoke/MethodHandle" ∧ y.cls ≠ "java/lang/invoke/VarHandle" ∧ (parseMethodDescriptor y.desc).map (fun d => d.parameters.length) = some n) (hR : rm.frames + 1 ≤ R.frames ∧ 8 + (maxL + 11) + rm.locals ≤ R.locals) :
    vx_CVW R s args own C index y bytes maxL ret hh ws rm mc ms n := by
  obtain ⟨hC, hd⟩ := hd
  subst hC
  have ok : ∀ w ∈ wsV own index y.cls y ws, w.before args s = true := fun w h => ht w (hT w h).1
  have hG : GoodIn Ts ws := fun w h => hT w (by unfold wsV; exact List.mem_append_right _ h)
  have hc : Cond.codeWith y bytes maxL ret hh ∈ ws := by rw [hw]; exact List.mem_cons_self
  refine ⟨⟨hrc, hrs, hR.1, hR.2, pay_in ht hG, hc⟩, ht _ (hG _ hc).1, ok _ (by simp [wsV]), ⟨hd.1, hd.2.1⟩, fun sig h => ?_, ok _ (by simp [wsV]), ok _ (by simp [wsV]), ok _ (by simp [wsV])⟩
  have h2 := hd.2.2
  rw [h] at h2
  exact (Option.some.inj h2).symm
theorem vx_runVW {y : MethodName} {bytes cc : ByteArray} {maxL nL mc ms n index : Nat} {ret : Option FieldType} {hh : List (Nat × Nat × Nat × Nat)} {ws : List Cond} {rm : Room} {Pc : Array Value → State → Prop} {Qc : Array Value → State → Outcome → State → Prop} {free : Addr → Prop} {Ts : List Cond} {own C : String} {b : Addr} {As rest : List Value} {g : JFrame}
    (S : CallFix p m c cc nL s args Ts own) (hM : Met l y ws rm Pc Qc mc ms free) (cw : vx_CVW R s args own C index y bytes maxL ret hh ws rm mc ms n) (hp : PreV s H C b Pc As)
    (hg : g.method = m) (hn : As.length = n) (hsize : g.locals.size = nL) (hstack : g.stack = As.reverse ++ .ref b :: rest) (hW : 2 * g.monitorRoom + (rest.map fun v => v.category).sum ≤ 8) (hdg : decode cc g.pc = .ok (.invokevirtual index, 3)) (hf : cells + mc ≤ R.cells ∧ slots + ms ≤ R.slots) :
    va_Run p l e R s m args below meth c H locs cells slots mc ms g rest (Qc (Value.ref b :: As).toArray) free := by
  obtain ⟨⟨hrc, hrs, hfr, hlo, hws, hcw⟩, hcode, hini, hy, hlen, hl, hin, hse⟩ := cw
  have hK : Back l R p e below s args y 3 8 (PreOf R mc ms Pc) (PostOf Qc mc ms free) := va_backW (hh := hh) (bytes := bytes) (maxL := maxL) (ret := ret) hM hp.1 hrc hrs hfr hlo hws hcw (fun a' U hW => word_at hW (Or.inl (by first | rfl | simp [Cond.onTables, Cond.keeps, Cond.steady])) hini)
  obtain ⟨hx, hb, hml, ho, -⟩ := S
  obtain ⟨-, ⟨cellB, hcB, hoB, hclB⟩, hPc⟩ := hp
  intro T hT X
  obtain ⟨v, vm₁, ⟨U', l2, c2, s2⟩, hW₁, X', ⟨g', mk, t, L, e1, e2, hq, h1, hL, h2, h3⟩, st⟩ := vx_callVW X hx (C := C) (hh := hh) (bytes := bytes) (maxL := maxL) (ret := ret) ho hl hin hse hcode hy hK (by rw [hT]; exact hcB) hoB hclB hg (hsize.trans hml.symm) (argsL := As) (rest := rest) (fun sig h => hn.trans (hlen sig h)) hstack hW (by rw [hb]; exact hdg)
    (fun vm₁ hW₁ => ⟨hf.1, hf.2, hPc (T.setVm vm₁) hT hW₁⟩)
  dsimp only [Pt.U, Pt.locs, Pt.cells, Pt.slots] at X' e1 e2 h1 h2 h3 st
  subst h1; subst h2; subst h3
  exact ⟨v, (T.setVm vm₁).calling g' mk (Value.ref b :: As).toArray, t, U', L, hT, X', hL, e1, e2, hq, st⟩
section
variable {y : MethodName} {bytes cc : ByteArray} {maxL nL mc ms n index : Nat} {ret : Option FieldType} {ws : List Cond} {rm : Room} {Pc : Array Value → State → Prop} {Qc : Array Value → State → Outcome → State → Prop} {XC : String → State → State → Prop} {free : Addr → Prop} {Ts : List Cond} {own C : String} {b : Addr} {As rest : List Value} {g : JFrame}
theorem vx_runVX {hh : List (Nat × Nat × Nat × Nat)} (S : CallFix p m c cc nL s args Ts own) (hM : vx_Met l y ws rm Pc Qc XC mc ms free) (cw : vx_CVW R s args own C index y bytes maxL ret hh ws rm mc ms n) (hp : PreV s H C b Pc As)
    (hg : g.method = m) (hn : As.length = n) (hsize : g.locals.size = nL) (hstack : g.stack = As.reverse ++ .ref b :: rest) (hW : 2 * g.monitorRoom + (rest.map fun v => v.category).sum ≤ 8) (hdg : decode cc g.pc = .ok (.invokevirtual index, 3)) (hf : cells + mc ≤ R.cells ∧ slots + ms ≤ R.slots) :
    vx_Run p l e R s m args below meth c H locs cells slots mc ms g rest (Qc (Value.ref b :: As).toArray) XC free := by
  obtain ⟨⟨hrc, hrs, hfr, hlo, hws, hcw⟩, hcode, hini, hy, hlen, hl, hin, hse⟩ := cw
  have hK : vx_Back l R p e below s args y 3 8 (PreOf R mc ms Pc) (PostOf Qc mc ms free) (vx_Post XC mc ms free) := vx_backW (hh := hh) (bytes := bytes) (maxL := maxL) (ret := ret) hM hp.1 hrc hrs hfr hlo hws hcw (fun a' U hW => word_at hW (Or.inl (by first | rfl | simp [Cond.onTables, Cond.keeps, Cond.steady])) hini)
  obtain ⟨hx, hb, hml, ho, -⟩ := S
  obtain ⟨-, ⟨cellB, hcB, hoB, hclB⟩, hPc⟩ := hp
  intro T hT X
  rcases vx_callVX X hx (C := C) (hh := hh) (bytes := bytes) (maxL := maxL) (ret := ret) ho hl hin hse hcode hy hK (by rw [hT]; exact hcB) hoB hclB hg (hsize.trans hml.symm) (argsL := As) (rest := rest) (fun sig h => hn.trans (hlen sig h)) hstack hW (by rw [hb]; exact hdg)
    (fun vm₁ hW₁ => ⟨hf.1, hf.2, hPc (T.setVm vm₁) hT hW₁⟩) with ⟨v, vm₁, ⟨U', l2, c2, s2⟩, hW₁, X', ⟨g', mk, t, L, e1, e2, hq, h1, hL, h2, h3⟩, st⟩ | ⟨q, vm₁, ⟨U', l2, c2, s2⟩, hW₁, X', ⟨g', mk, t, L, E, ce, e1, e2, hq, hce, hcv, hcl, h1, hL, h2, h3⟩, st⟩
  · dsimp only [Pt.U, Pt.locs, Pt.cells, Pt.slots] at X' e1 e2 h1 h2 h3 st
    subst h1; subst h2; subst h3
    exact Or.inl ⟨v, (T.setVm vm₁).calling g' mk (Value.ref b :: As).toArray, t, U', L, hT, X', hL, e1, e2, hq, st⟩
  · dsimp only [Pt.U, Pt.locs, Pt.cells, Pt.slots] at X' e1 e2 h1 h2 h3 st hcl
    subst h1; subst h2; subst h3
    exact Or.inr ⟨q, (T.setVm vm₁).calling g' mk (Value.ref b :: As).toArray, t, U', L, E, ce, hT, X', hL, e1, e2, hq, hce, hcv, vx_cls hW₁ hcl, st⟩
theorem vx_runSX {hh : List (Nat × Nat × Nat × Nat)} (S : CallFix p m c cc nL s args Ts own) (hM : vx_Met l y ws rm Pc Qc XC mc ms free) (cw : vx_CSW R s args own index y bytes maxL ret hh ws rm mc ms n) (hp : PreS s H Pc As)
    (hg : g.method = m) (hn : As.length = n) (hsize : g.locals.size = nL) (hstack : g.stack = As.reverse ++ rest) (hW : 2 * g.monitorRoom + (rest.map fun v => v.category).sum ≤ 8) (hdg : decode cc g.pc = .ok (.invokestatic index, 3)) (hf : cells + mc ≤ R.cells ∧ slots + ms ≤ R.slots) :
    vx_Run p l e R s m args below meth c H locs cells slots mc ms g rest (Qc As.toArray) XC free := by
  obtain ⟨⟨hrc, hrs, hfr, hlo, hws, hcw⟩, hcode, hini, hy, hlen, hl, hstt⟩ := cw
  have hK : vx_Back l R p e below s args y 3 8 (PreOf R mc ms Pc) (PostOf Qc mc ms free) (vx_Post XC mc ms free) := vx_backW (hh := hh) (bytes := bytes) (maxL := maxL) (ret := ret) hM hp.1 hrc hrs hfr hlo hws hcw (fun a' U hW => word_at hW (Or.inl (by first | rfl | simp [Cond.onTables, Cond.keeps, Cond.steady])) hini)
  obtain ⟨hx, hb, hml, ho, -⟩ := S
  intro T hT X
  rcases vx_callSX X hx (hh := hh) (bytes := bytes) (maxL := maxL) (ret := ret) ho hl hstt hini hcode hy hK hg (hsize.trans hml.symm) (argsL := As) (rest := rest) (fun sig h => hn.trans (hlen sig h)) hstack hW (by rw [hb]; exact hdg)
    (fun vm₁ hW₁ => ⟨hf.1, hf.2, hp.2 (T.setVm vm₁) hT hW₁⟩) with ⟨v, vm₁, ⟨U', l2, c2, s2⟩, hW₁, X', ⟨g', mk, t, L, e1, e2, hq, h1, hL, h2, h3⟩, st⟩ | ⟨q, vm₁, ⟨U', l2, c2, s2⟩, hW₁, X', ⟨g', mk, t, L, E, ce, e1, e2, hq, hce, hcv, hcl, h1, hL, h2, h3⟩, st⟩
  · dsimp only [Pt.U, Pt.locs, Pt.cells, Pt.slots] at X' e1 e2 h1 h2 h3 st
    subst h1; subst h2; subst h3
    exact Or.inl ⟨v, (T.setVm vm₁).calling g' mk As.toArray, t, U', L, hT, X', hL, e1, e2, hq, st⟩
  · dsimp only [Pt.U, Pt.locs, Pt.cells, Pt.slots] at X' e1 e2 h1 h2 h3 st hcl
    subst h1; subst h2; subst h3
    exact Or.inr ⟨q, (T.setVm vm₁).calling g' mk As.toArray, t, U', L, E, ce, hT, X', hL, e1, e2, hq, hce, hcv, vx_cls hW₁ hcl, st⟩
end
end VXH
theorem vx_ofWH {l : Launch} {y : MethodName} {ws ws' : List Cond} {rm : Room} {Pc : Array Value → State → Prop} {Qc : Array Value → State → Outcome → State → Prop} {XC : String → State → State → Prop} {mc ms : Nat} {free : Addr → Prop} {cc : ByteArray} {maxL : Nat} {ret : Option FieldType} {hh : List (Nat × Nat × Nat × Nat)}
    (hy : plainName y.cls = true) (hw : ws = Cond.codeWith y cc maxL ret hh :: ws')
    (body : ∀ p e s m args below meth c s₁, BodyLoose p l y (headSpec ws rm) cc maxL ret e s m args below meth c s₁ → c.maxLocals = maxL → Pc args s →
      W p l e (headSpec ws rm).room s m args below meth c s.heap [] 0 0 (vx_MQ below Qc XC args s mc ms free) (entryFrame m args maxL)) : vx_Met l y ws rm Pc Qc XC mc ms free := by
  refine MetFree.of_bodyS (code := cc) (maxLocals := maxL) (ret := ret) hy ?_ ?_
  · intro args s m h hn
    obtain ⟨m9, meth, c, hn9, h1, h2, h3, h4, -, h5, h6, -⟩ := Cond.codeWith_spec (atoms_spec (ws := ws) h _ (by rw [hw]; exact List.mem_cons_self))
    cases hn.symm.trans hn9
    exact ⟨meth, c, h1, h2, h3, h4, h5, h6⟩
  · intro p e s m args below meth c s₁ B hml hP _
    have hh0 : s₁.heap = s.heap := by rw [B.state]; rfl
    obtain ⟨t, a1, o, b1, b2, b3⟩ := body p e s m args below meth c s₁ B hml hP s₁ hh0 (Stand.of_body B)
    exact ⟨t, o, a1, b1, b2, b3⟩
/-! ===== END ===== -/
end
section
def RX0 : String := "MarinaBerths$Berth"
def TX0 : u_T := fun k => match k with
  | 0 => ("MarinaBerths$Berth", "depth", "I", false)
  | 1 => ("MarinaBerths$Berth", "length", "I", false)
  | 2 => ("MarinaBerths$Berth", "exposed", "Z", false)
  | _ => ("MarinaBerths$Berth", "rate", "I", false)
def tyX0 : Nat → FieldType := fun k => match k with
  | 0 => .int
  | 1 => .int
  | 2 => .boolean
  | _ => .int
abbrev wsX00 : List Cond := u_ws RX0 TX0 4
theorem nmX0 : ∀ a, a < 4 → ∀ b, b < 4 → a ≠ b → (TX0 a).2.1 ≠ (TX0 b).2.1 := by decide +kernel
theorem tyX0_ok : ∀ k, k < 4 → parseFieldDescriptor (TX0 k).2.2.1 = some (tyX0 k) := by decide +kernel
abbrev cX0_init : ByteArray := prog_2_method_1_code
def yX0_init : MethodName := ⟨RX0, "<init>", "()V"⟩
abbrev cX0_become : ByteArray := prog_2_method_2_code
def yX0_become : MethodName := ⟨RX0, "become", "(IIZI)V"⟩
abbrev cX0_copyFrom : ByteArray := prog_2_method_3_code
def yX0_copyFrom : MethodName := ⟨RX0, "copyFrom", "(LMarinaBerths$Berth;)V"⟩
abbrev cX0_isTighterThan : ByteArray := prog_2_method_4_code
def yX0_isTighterThan : MethodName := ⟨RX0, "isTighterThan", "(LMarinaBerths$Berth;)Z"⟩
def RX1 : String := "MarinaBerths$Boat"
def TX1 : u_T := fun k => match k with
  | 0 => ("MarinaBerths$Boat", "length", "I", false)
  | 1 => ("MarinaBerths$Boat", "draft", "I", false)
  | 2 => ("MarinaBerths$Boat", "bonus", "I", false)
  | 3 => ("MarinaBerths$Boat", "state", "I", false)
  | 4 => ("MarinaBerths$Boat", "berth", "I", false)
  | 5 => ("MarinaBerths$Boat", "home", "I", false)
  | 6 => ("MarinaBerths$Boat", "owes", "I", false)
  | 7 => ("MarinaBerths$Boat", "waitsSince", "I", false)
  | _ => ("MarinaBerths$Boat", "turn", "I", false)
def tyX1 : Nat → FieldType := fun k => match k with
  | 0 => .int
  | 1 => .int
  | 2 => .int
  | 3 => .int
  | 4 => .int
  | 5 => .int
  | 6 => .int
  | 7 => .int
  | _ => .int
abbrev wsX10 : List Cond := u_ws RX1 TX1 9
theorem nmX1 : ∀ a, a < 9 → ∀ b, b < 9 → a ≠ b → (TX1 a).2.1 ≠ (TX1 b).2.1 := by decide +kernel
theorem tyX1_ok : ∀ k, k < 9 → parseFieldDescriptor (TX1 k).2.2.1 = some (tyX1 k) := by decide +kernel
abbrev cX1_init : ByteArray := prog_3_method_1_code
def yX1_init : MethodName := ⟨RX1, "<init>", "()V"⟩
abbrev cX1_become : ByteArray := prog_3_method_2_code
def yX1_become : MethodName := ⟨RX1, "become", "(III)V"⟩
abbrev cX1_copyFrom : ByteArray := prog_3_method_3_code
def yX1_copyFrom : MethodName := ⟨RX1, "copyFrom", "(LMarinaBerths$Boat;)V"⟩
abbrev cX1_move : ByteArray := prog_3_method_4_code
def yX1_move : MethodName := ⟨RX1, "move", "(II)V"⟩
abbrev cX1_moveForGood : ByteArray := prog_3_method_5_code
def yX1_moveForGood : MethodName := ⟨RX1, "moveForGood", "(II)V"⟩
abbrev cX1_canOweMore : ByteArray := prog_3_method_6_code
def yX1_canOweMore : MethodName := ⟨RX1, "canOweMore", "(J)Z"⟩
def RX2 : String := "MarinaBerths$Marina"
def TX2 : u_T := fun k => match k with
  | 0 => ("MarinaBerths$Marina", "berths", "[LMarinaBerths$Berth;", true)
  | 1 => ("MarinaBerths$Marina", "berthCount", "I", false)
  | 2 => ("MarinaBerths$Marina", "boats", "[LMarinaBerths$Boat;", true)
  | 3 => ("MarinaBerths$Marina", "boatCount", "I", false)
  | 4 => ("MarinaBerths$Marina", "lows", "[I", true)
  | 5 => ("MarinaBerths$Marina", "lowCount", "I", false)
  | 6 => ("MarinaBerths$Marina", "lowest", "I", false)
  | 7 => ("MarinaBerths$Marina", "clearance", "I", false)
  | 8 => ("MarinaBerths$Marina", "rateAshore", "I", false)
  | 9 => ("MarinaBerths$Marina", "firstOfWinter", "I", false)
  | 10 => ("MarinaBerths$Marina", "firstOfSpring", "I", false)
  | 11 => ("MarinaBerths$Marina", "day", "I", false)
  | 12 => ("MarinaBerths$Marina", "winter", "Z", false)
  | 13 => ("MarinaBerths$Marina", "paidInAll", "J", false)
  | _ => ("MarinaBerths$Marina", "turns", "I", false)
def tyX2 : Nat → FieldType := fun k => match k with
  | 0 => .array (.object "MarinaBerths$Berth")
  | 1 => .int
  | 2 => .array (.object "MarinaBerths$Boat")
  | 3 => .int
  | 4 => .array .int
  | 5 => .int
  | 6 => .int
  | 7 => .int
  | 8 => .int
  | 9 => .int
  | 10 => .int
  | 11 => .int
  | 12 => .boolean
  | 13 => .long
  | _ => .int
abbrev wsX20 : List Cond := u_ws RX2 TX2 15
theorem nmX2 : ∀ a, a < 15 → ∀ b, b < 15 → a ≠ b → (TX2 a).2.1 ≠ (TX2 b).2.1 := by decide +kernel
theorem tyX2_ok : ∀ k, k < 15 → parseFieldDescriptor (TX2 k).2.2.1 = some (tyX2 k) := by decide +kernel
abbrev cX2_init : ByteArray := prog_4_method_1_code
def yX2_init : MethodName := ⟨RX2, "<init>", "()V"⟩
abbrev cX2_copyFrom : ByteArray := prog_4_method_2_code
def yX2_copyFrom : MethodName := ⟨RX2, "copyFrom", "(LMarinaBerths$Marina;)V"⟩
abbrev cX2_takeLows : ByteArray := prog_4_method_3_code
def yX2_takeLows : MethodName := ⟨RX2, "takeLows", "(LMarinaBerths$TableText;)V"⟩
abbrev cX2_lowWater : ByteArray := prog_4_method_4_code
def yX2_lowWater : MethodName := ⟨RX2, "lowWater", "(I)I"⟩
abbrev cX2_lackOfWater : ByteArray := prog_4_method_5_code
def yX2_lackOfWater : MethodName := ⟨RX2, "lackOfWater", "(LMarinaBerths$Boat;LMarinaBerths$Berth;)I"⟩
abbrev cX2_suits : ByteArray := prog_4_method_6_code
def yX2_suits : MethodName := ⟨RX2, "suits", "(LMarinaBerths$Boat;LMarinaBerths$Berth;)Z"⟩
abbrev cX2_suitsBerthOf : ByteArray := prog_4_method_7_code
def yX2_suitsBerthOf : MethodName := ⟨RX2, "suitsBerthOf", "(LMarinaBerths$Boat;LMarinaBerths$Boat;)Z"⟩
abbrev cX2_isWhereItFits : ByteArray := prog_4_method_8_code
def yX2_isWhereItFits : MethodName := ⟨RX2, "isWhereItFits", "(LMarinaBerths$Boat;)Z"⟩
abbrev cX2_berthOf : ByteArray := prog_4_method_9_code
def yX2_berthOf : MethodName := ⟨RX2, "berthOf", "(LMarinaBerths$Boat;)LMarinaBerths$Berth;"⟩
abbrev cX2_boatIn : ByteArray := prog_4_method_10_code
def yX2_boatIn : MethodName := ⟨RX2, "boatIn", "(I)I"⟩
abbrev cX2_isOpen : ByteArray := prog_4_method_11_code
def yX2_isOpen : MethodName := ⟨RX2, "isOpen", "(I)Z"⟩
abbrev cX2_countFitting : ByteArray := prog_4_method_12_code
def yX2_countFitting : MethodName := ⟨RX2, "countFitting", "(LMarinaBerths$Berth;)I"⟩
abbrev cX2_countIn : ByteArray := prog_4_method_13_code
def yX2_countIn : MethodName := ⟨RX2, "countIn", "(I)I"⟩
abbrev cX2_bestBerthFor : ByteArray := prog_4_method_14_code
def yX2_bestBerthFor : MethodName := ⟨RX2, "bestBerthFor", "(LMarinaBerths$Boat;)I"⟩
abbrev cX2_isAground : ByteArray := prog_4_method_15_code
def yX2_isAground : MethodName := ⟨RX2, "isAground", "(LMarinaBerths$Boat;)Z"⟩
abbrev cX2_isAgroundOn : ByteArray := prog_4_method_16_code
def yX2_isAgroundOn : MethodName := ⟨RX2, "isAgroundOn", "(LMarinaBerths$Boat;I)Z"⟩
abbrev cX2_countAground : ByteArray := prog_4_method_17_code
def yX2_countAground : MethodName := ⟨RX2, "countAground", "()I"⟩
abbrev cX2_daysUntilAground : ByteArray := prog_4_method_18_code
def yX2_daysUntilAground : MethodName := ⟨RX2, "daysUntilAground", "(LMarinaBerths$Boat;)I"⟩
abbrev cX2_clearanceForAll : ByteArray := prog_4_method_19_code
def yX2_clearanceForAll : MethodName := ⟨RX2, "clearanceForAll", "()I"⟩
abbrev cX2_beginToWait : ByteArray := prog_4_method_20_code
def yX2_beginToWait : MethodName := ⟨RX2, "beginToWait", "(LMarinaBerths$Boat;)V"⟩
abbrev cX2_points : ByteArray := prog_4_method_21_code
def yX2_points : MethodName := ⟨RX2, "points", "(LMarinaBerths$Boat;)I"⟩
abbrev cX2_isAhead : ByteArray := prog_4_method_22_code
def yX2_isAhead : MethodName := ⟨RX2, "isAhead", "(LMarinaBerths$Boat;LMarinaBerths$Boat;)Z"⟩
abbrev cX2_countAheadOf : ByteArray := prog_4_method_23_code
def yX2_countAheadOf : MethodName := ⟨RX2, "countAheadOf", "(LMarinaBerths$Boat;)I"⟩
abbrev cX2_waitingAt : ByteArray := prog_4_method_24_code
def yX2_waitingAt : MethodName := ⟨RX2, "waitingAt", "(I)I"⟩
abbrev cX2_firstWaitingFor : ByteArray := prog_4_method_25_code
def yX2_firstWaitingFor : MethodName := ⟨RX2, "firstWaitingFor", "(LMarinaBerths$Berth;)I"⟩
abbrev cX2_owedInAll : ByteArray := prog_4_method_26_code
def yX2_owedInAll : MethodName := ⟨RX2, "owedInAll", "()J"⟩
abbrev cX2_letPass : ByteArray := prog_4_method_27_code
def yX2_letPass : MethodName := ⟨RX2, "letPass", "(ILMarinaBerths$WinterPlan;)I"⟩
abbrev cX2_chargeAll : ByteArray := prog_4_method_28_code
def yX2_chargeAll : MethodName := ⟨RX2, "chargeAll", "()Z"⟩
abbrev cX2_feeOfDay : ByteArray := prog_4_method_29_code
def yX2_feeOfDay : MethodName := ⟨RX2, "feeOfDay", "(LMarinaBerths$Boat;)J"⟩
abbrev cX2_beginWinter : ByteArray := prog_4_method_30_code
def yX2_beginWinter : MethodName := ⟨RX2, "beginWinter", "(LMarinaBerths$WinterPlan;)V"⟩
abbrev cX2_shelterFor : ByteArray := prog_4_method_31_code
def yX2_shelterFor : MethodName := ⟨RX2, "shelterFor", "(LMarinaBerths$Boat;)I"⟩
abbrev cX2_beginSpring : ByteArray := prog_4_method_32_code
def yX2_beginSpring : MethodName := ⟨RX2, "beginSpring", "()V"⟩
def RX3 : String := "MarinaBerths$TableText"
def TX3 : u_T := fun k => match k with
  | 0 => ("MarinaBerths$TableText", "signs", "[C", true)
  | 1 => ("MarinaBerths$TableText", "length", "I", false)
  | 2 => ("MarinaBerths$TableText", "numbers", "[I", true)
  | _ => ("MarinaBerths$TableText", "count", "I", false)
def tyX3 : Nat → FieldType := fun k => match k with
  | 0 => .array .char
  | 1 => .int
  | 2 => .array .int
  | _ => .int
abbrev wsX30 : List Cond := u_ws RX3 TX3 4
theorem nmX3 : ∀ a, a < 4 → ∀ b, b < 4 → a ≠ b → (TX3 a).2.1 ≠ (TX3 b).2.1 := by decide +kernel
theorem tyX3_ok : ∀ k, k < 4 → parseFieldDescriptor (TX3 k).2.2.1 = some (tyX3 k) := by decide +kernel
abbrev cX3_init : ByteArray := prog_5_method_1_code
def yX3_init : MethodName := ⟨RX3, "<init>", "()V"⟩
abbrev cX3_append : ByteArray := prog_5_method_2_code
def yX3_append : MethodName := ⟨RX3, "append", "(C)V"⟩
abbrev cX3_findFault : ByteArray := prog_5_method_3_code
def yX3_findFault : MethodName := ⟨RX3, "findFault", "()I"⟩
abbrev cX3_isAt : ByteArray := prog_5_method_4_code
def yX3_isAt : MethodName := ⟨RX3, "isAt", "(IC)Z"⟩
abbrev cX3_endOfDigits : ByteArray := prog_5_method_5_code
def yX3_endOfDigits : MethodName := ⟨RX3, "endOfDigits", "(I)I"⟩
abbrev cX3_valueOf : ByteArray := prog_5_method_6_code
def yX3_valueOf : MethodName := ⟨RX3, "valueOf", "(II)I"⟩
def RX4 : String := "MarinaBerths$WinterPlan"
def TX4 : u_T := fun k => match k with
  | 0 => ("MarinaBerths$WinterPlan", "wishes", "[I", true)
  | 1 => ("MarinaBerths$WinterPlan", "holders", "[I", true)
  | 2 => ("MarinaBerths$WinterPlan", "open", "I", false)
  | _ => ("MarinaBerths$WinterPlan", "seen", "I", false)
def tyX4 : Nat → FieldType := fun k => match k with
  | 0 => .array .int
  | 1 => .array .int
  | 2 => .int
  | _ => .int
abbrev wsX40 : List Cond := u_ws RX4 TX4 4
theorem nmX4 : ∀ a, a < 4 → ∀ b, b < 4 → a ≠ b → (TX4 a).2.1 ≠ (TX4 b).2.1 := by decide +kernel
theorem tyX4_ok : ∀ k, k < 4 → parseFieldDescriptor (TX4 k).2.2.1 = some (tyX4 k) := by decide +kernel
abbrev cX4_init : ByteArray := prog_6_method_1_code
def yX4_init : MethodName := ⟨RX4, "<init>", "()V"⟩
abbrev cX4_clear : ByteArray := prog_6_method_2_code
def yX4_clear : MethodName := ⟨RX4, "clear", "()V"⟩
abbrev cX4_ask : ByteArray := prog_6_method_3_code
def yX4_ask : MethodName := ⟨RX4, "ask", "(II)V"⟩
abbrev cX4_giveTo : ByteArray := prog_6_method_4_code
def yX4_giveTo : MethodName := ⟨RX4, "giveTo", "(I)I"⟩
abbrev cX4_mostFrom : ByteArray := prog_6_method_5_code
def yX4_mostFrom : MethodName := ⟨RX4, "mostFrom", "(I)I"⟩
abbrev cX4_findsBerth : ByteArray := prog_6_method_6_code
def yX4_findsBerth : MethodName := ⟨RX4, "findsBerth", "(LMarinaBerths$WinterPlan;II)Z"⟩
def RX5 : String := "MarinaBerths"
def TX5 : u_T := fun k => match k with
  | 0 => ("MarinaBerths", "now", "LMarinaBerths$Marina;", true)
  | 1 => ("MarinaBerths", "thought", "LMarinaBerths$Marina;", true)
  | 2 => ("MarinaBerths", "records", "[LMarinaBerths$Marina;", true)
  | 3 => ("MarinaBerths", "recordCount", "I", false)
  | 4 => ("MarinaBerths", "plan", "LMarinaBerths$WinterPlan;", true)
  | _ => ("MarinaBerths", "text", "LMarinaBerths$TableText;", true)
def tyX5 : Nat → FieldType := fun k => match k with
  | 0 => .object "MarinaBerths$Marina"
  | 1 => .object "MarinaBerths$Marina"
  | 2 => .array (.object "MarinaBerths$Marina")
  | 3 => .int
  | 4 => .object "MarinaBerths$WinterPlan"
  | _ => .object "MarinaBerths$TableText"
abbrev wsX50 : List Cond := u_ws RX5 TX5 6
theorem nmX5 : ∀ a, a < 6 → ∀ b, b < 6 → a ≠ b → (TX5 a).2.1 ≠ (TX5 b).2.1 := by decide +kernel
theorem tyX5_ok : ∀ k, k < 6 → parseFieldDescriptor (TX5 k).2.2.1 = some (tyX5 k) := by decide +kernel
abbrev cX5_init : ByteArray := prog_1_method_1_code
def yX5_init : MethodName := ⟨RX5, "<init>", "()V"⟩
abbrev cX5_setTable : ByteArray := prog_1_method_2_code
def yX5_setTable : MethodName := ⟨RX5, "setTable", "()I"⟩
abbrev cX5_low : ByteArray := prog_1_method_3_code
def yX5_low : MethodName := ⟨RX5, "low", "(I)I"⟩
abbrev cX5_addBerth : ByteArray := prog_1_method_4_code
def yX5_addBerth : MethodName := ⟨RX5, "addBerth", "(IIZI)I"⟩
abbrev cX5_addBoat : ByteArray := prog_1_method_5_code
def yX5_addBoat : MethodName := ⟨RX5, "addBoat", "(III)I"⟩
abbrev cX5_set : ByteArray := prog_1_method_6_code
def yX5_set : MethodName := ⟨RX5, "set", "(II)I"⟩
abbrev cX5_setRate : ByteArray := prog_1_method_7_code
def yX5_setRate : MethodName := ⟨RX5, "setRate", "(II)I"⟩
abbrev cX5_berth : ByteArray := prog_1_method_8_code
def yX5_berth : MethodName := ⟨RX5, "berth", "(II)I"⟩
abbrev cX5_boat : ByteArray := prog_1_method_9_code
def yX5_boat : MethodName := ⟨RX5, "boat", "(II)I"⟩
abbrev cX5_fits : ByteArray := prog_1_method_10_code
def yX5_fits : MethodName := ⟨RX5, "fits", "(II)Z"⟩
abbrev cX5_info : ByteArray := prog_1_method_11_code
def yX5_info : MethodName := ⟨RX5, "info", "(I)I"⟩
abbrev cX5_place : ByteArray := prog_1_method_12_code
def yX5_place : MethodName := ⟨RX5, "place", "(II)I"⟩
abbrev cX5_leave : ByteArray := prog_1_method_13_code
def yX5_leave : MethodName := ⟨RX5, "leave", "(I)I"⟩
abbrev cX5_change : ByteArray := prog_1_method_14_code
def yX5_change : MethodName := ⟨RX5, "change", "(II)I"⟩
abbrev cX5_await : ByteArray := prog_1_method_15_code
def yX5_await : MethodName := ⟨RX5, "await", "(I)I"⟩
abbrev cX5_offer : ByteArray := prog_1_method_16_code
def yX5_offer : MethodName := ⟨RX5, "offer", "(I)I"⟩
abbrev cX5_waiting : ByteArray := prog_1_method_17_code
def yX5_waiting : MethodName := ⟨RX5, "waiting", "(I)I"⟩
abbrev cX5_bestBerth : ByteArray := prog_1_method_18_code
def yX5_bestBerth : MethodName := ⟨RX5, "bestBerth", "(I)I"⟩
abbrev cX5_pass : ByteArray := prog_1_method_19_code
def yX5_pass : MethodName := ⟨RX5, "pass", "(I)I"⟩
abbrev cX5_pay : ByteArray := prog_1_method_20_code
def yX5_pay : MethodName := ⟨RX5, "pay", "(II)I"⟩
abbrev cX5_charge : ByteArray := prog_1_method_21_code
def yX5_charge : MethodName := ⟨RX5, "charge", "(II)I"⟩
abbrev cX5_owed : ByteArray := prog_1_method_22_code
def yX5_owed : MethodName := ⟨RX5, "owed", "()J"⟩
abbrev cX5_paid : ByteArray := prog_1_method_23_code
def yX5_paid : MethodName := ⟨RX5, "paid", "()J"⟩
abbrev cX5_owesAfter : ByteArray := prog_1_method_24_code
def yX5_owesAfter : MethodName := ⟨RX5, "owesAfter", "(II)I"⟩
abbrev cX5_groundsIn : ByteArray := prog_1_method_25_code
def yX5_groundsIn : MethodName := ⟨RX5, "groundsIn", "(I)I"⟩
abbrev cX5_winterBerth : ByteArray := prog_1_method_26_code
def yX5_winterBerth : MethodName := ⟨RX5, "winterBerth", "(I)I"⟩
abbrev cX5_wouldGoAshore : ByteArray := prog_1_method_27_code
def yX5_wouldGoAshore : MethodName := ⟨RX5, "wouldGoAshore", "()I"⟩
abbrev cX5_greatestClearance : ByteArray := prog_1_method_28_code
def yX5_greatestClearance : MethodName := ⟨RX5, "greatestClearance", "()I"⟩
abbrev cX5_missingDepth : ByteArray := prog_1_method_29_code
def yX5_missingDepth : MethodName := ⟨RX5, "missingDepth", "(II)I"⟩
abbrev cX5_type : ByteArray := prog_1_method_30_code
def yX5_type : MethodName := ⟨RX5, "type", "(I)I"⟩
abbrev cX5_clearText : ByteArray := prog_1_method_31_code
def yX5_clearText : MethodName := ⟨RX5, "clearText", "()I"⟩
abbrev cX5_fault : ByteArray := prog_1_method_32_code
def yX5_fault : MethodName := ⟨RX5, "fault", "()I"⟩
abbrev cX5_undo : ByteArray := prog_1_method_33_code
def yX5_undo : MethodName := ⟨RX5, "undo", "()I"⟩
abbrev cX5_checksum : ByteArray := prog_1_method_34_code
def yX5_checksum : MethodName := ⟨RX5, "checksum", "()J"⟩
abbrev cX5_withBerths : ByteArray := prog_1_method_35_code
def yX5_withBerths : MethodName := ⟨RX5, "withBerths", "(J)J"⟩
abbrev cX5_withBoats : ByteArray := prog_1_method_36_code
def yX5_withBoats : MethodName := ⟨RX5, "withBoats", "(J)J"⟩
abbrev cX5_remember : ByteArray := prog_1_method_37_code
def yX5_remember : MethodName := ⟨RX5, "remember", "()V"⟩
abbrev cX5_dropOldestRecord : ByteArray := prog_1_method_38_code
def yX5_dropOldestRecord : MethodName := ⟨RX5, "dropOldestRecord", "()V"⟩
abbrev cX5_thinkOfWinter : ByteArray := prog_1_method_39_code
def yX5_thinkOfWinter : MethodName := ⟨RX5, "thinkOfWinter", "()V"⟩
abbrev cX5_checkBerth : ByteArray := prog_1_method_40_code
def yX5_checkBerth : MethodName := ⟨RX5, "checkBerth", "(I)V"⟩
abbrev cX5_checkBoat : ByteArray := prog_1_method_41_code
def yX5_checkBoat : MethodName := ⟨RX5, "checkBoat", "(I)V"⟩
abbrev cX5_checkDays : ByteArray := prog_1_method_42_code
def yX5_checkDays : MethodName := ⟨RX5, "checkDays", "(I)V"⟩
abbrev cX5_maySet : ByteArray := prog_1_method_43_code
def yX5_maySet : MethodName := ⟨RX5, "maySet", "(II)Z"⟩
abbrev cX5_isDayOfYear : ByteArray := prog_1_method_44_code
def yX5_isDayOfYear : MethodName := ⟨RX5, "isDayOfYear", "(I)Z"⟩
abbrev cX5_isRate : ByteArray := prog_1_method_45_code
def yX5_isRate : MethodName := ⟨RX5, "isRate", "(I)Z"⟩
abbrev cX5_isWithin : ByteArray := prog_1_method_46_code
def yX5_isWithin : MethodName := ⟨RX5, "isWithin", "(III)Z"⟩
def RX6 : String := "MarinaBerthsModel"
def TX6 : u_T := fun k => match k with
  | 0 => ("MarinaBerthsModel", "now", "[I", true)
  | 1 => ("MarinaBerthsModel", "past", "[I", true)
  | 2 => ("MarinaBerthsModel", "kept", "[I", true)
  | 3 => ("MarinaBerthsModel", "saved", "I", false)
  | 4 => ("MarinaBerthsModel", "refusal", "I", false)
  | 5 => ("MarinaBerthsModel", "text", "[I", true)
  | 6 => ("MarinaBerthsModel", "length", "I", false)
  | 7 => ("MarinaBerthsModel", "movers", "[I", true)
  | 8 => ("MarinaBerthsModel", "shelters", "[I", true)
  | 9 => ("MarinaBerthsModel", "best", "[I", true)
  | 10 => ("MarinaBerthsModel", "place", "I", false)
  | 11 => ("MarinaBerthsModel", "wrong", "I", false)
  | 12 => ("MarinaBerthsModel", "range", "I", false)
  | 13 => ("MarinaBerthsModel", "told", "I", false)
  | 14 => ("MarinaBerthsModel", "numbers", "[I", true)
  | _ => ("MarinaBerthsModel", "hash", "J", false)
def tyX6 : Nat → FieldType := fun k => match k with
  | 0 => .array .int
  | 1 => .array .int
  | 2 => .array .int
  | 3 => .int
  | 4 => .int
  | 5 => .array .int
  | 6 => .int
  | 7 => .array .int
  | 8 => .array .int
  | 9 => .array .int
  | 10 => .int
  | 11 => .int
  | 12 => .int
  | 13 => .int
  | 14 => .array .int
  | _ => .long
abbrev wsX60 : List Cond := u_ws RX6 TX6 16
theorem nmX6 : ∀ a, a < 16 → ∀ b, b < 16 → a ≠ b → (TX6 a).2.1 ≠ (TX6 b).2.1 := by decide +kernel
theorem tyX6_ok : ∀ k, k < 16 → parseFieldDescriptor (TX6 k).2.2.1 = some (tyX6 k) := by decide +kernel
abbrev cX6_init : ByteArray := prog_8_method_1_code
def yX6_init : MethodName := ⟨RX6, "<init>", "()V"⟩
abbrev cX6_thrown : ByteArray := prog_8_method_2_code
def yX6_thrown : MethodName := ⟨RX6, "thrown", "()I"⟩
abbrev cX6_refused : ByteArray := prog_8_method_3_code
def yX6_refused : MethodName := ⟨RX6, "refused", "(I)Z"⟩
abbrev cX6_within : ByteArray := prog_8_method_4_code
def yX6_within : MethodName := ⟨RX6, "within", "(III)Z"⟩
abbrev cX6_saves : ByteArray := prog_8_method_5_code
def yX6_saves : MethodName := ⟨RX6, "saves", "()V"⟩
abbrev cX6_undo : ByteArray := prog_8_method_6_code
def yX6_undo : MethodName := ⟨RX6, "undo", "()I"⟩
abbrev cX6_keeps : ByteArray := prog_8_method_7_code
def yX6_keeps : MethodName := ⟨RX6, "keeps", "()V"⟩
abbrev cX6_returns : ByteArray := prog_8_method_8_code
def yX6_returns : MethodName := ⟨RX6, "returns", "()V"⟩
abbrev cX6_isBerth : ByteArray := prog_8_method_9_code
def yX6_isBerth : MethodName := ⟨RX6, "isBerth", "(I)Z"⟩
abbrev cX6_isBoat : ByteArray := prog_8_method_10_code
def yX6_isBoat : MethodName := ⟨RX6, "isBoat", "(I)Z"⟩
abbrev cX6_ofBerth : ByteArray := prog_8_method_11_code
def yX6_ofBerth : MethodName := ⟨RX6, "ofBerth", "(II)I"⟩
abbrev cX6_ofBoat : ByteArray := prog_8_method_12_code
def yX6_ofBoat : MethodName := ⟨RX6, "ofBoat", "(II)I"⟩
abbrev cX6_sets : ByteArray := prog_8_method_13_code
def yX6_sets : MethodName := ⟨RX6, "sets", "(III)V"⟩
abbrev cX6_lowOn : ByteArray := prog_8_method_14_code
def yX6_lowOn : MethodName := ⟨RX6, "lowOn", "(I)I"⟩
abbrev cX6_lowest : ByteArray := prog_8_method_15_code
def yX6_lowest : MethodName := ⟨RX6, "lowest", "()I"⟩
abbrev cX6_isLongEnough : ByteArray := prog_8_method_16_code
def yX6_isLongEnough : MethodName := ⟨RX6, "isLongEnough", "(II)Z"⟩
abbrev cX6_missing : ByteArray := prog_8_method_17_code
def yX6_missing : MethodName := ⟨RX6, "missing", "(II)I"⟩
abbrev cX6_isFit : ByteArray := prog_8_method_18_code
def yX6_isFit : MethodName := ⟨RX6, "isFit", "(II)Z"⟩
abbrev cX6_boatIn : ByteArray := prog_8_method_19_code
def yX6_boatIn : MethodName := ⟨RX6, "boatIn", "(I)I"⟩
abbrev cX6_isOpen : ByteArray := prog_8_method_20_code
def yX6_isOpen : MethodName := ⟨RX6, "isOpen", "(I)Z"⟩
abbrev cX6_isAground : ByteArray := prog_8_method_21_code
def yX6_isAground : MethodName := ⟨RX6, "isAground", "(II)Z"⟩
abbrev cX6_countIn : ByteArray := prog_8_method_22_code
def yX6_countIn : MethodName := ⟨RX6, "countIn", "(I)I"⟩
abbrev cX6_puts : ByteArray := prog_8_method_23_code
def yX6_puts : MethodName := ⟨RX6, "puts", "(III)V"⟩
abbrev cX6_waits : ByteArray := prog_8_method_24_code
def yX6_waits : MethodName := ⟨RX6, "waits", "(I)V"⟩
abbrev cX6_points : ByteArray := prog_8_method_25_code
def yX6_points : MethodName := ⟨RX6, "points", "(I)I"⟩
abbrev cX6_ahead : ByteArray := prog_8_method_26_code
def yX6_ahead : MethodName := ⟨RX6, "ahead", "(I)I"⟩
abbrev cX6_waitingAt : ByteArray := prog_8_method_27_code
def yX6_waitingAt : MethodName := ⟨RX6, "waitingAt", "(I)I"⟩
abbrev cX6_begins : ByteArray := prog_8_method_28_code
def yX6_begins : MethodName := ⟨RX6, "begins", "()V"⟩
abbrev cX6_withShelter : ByteArray := prog_8_method_29_code
def yX6_withShelter : MethodName := ⟨RX6, "withShelter", "(IIII)I"⟩
abbrev cX6_lays : ByteArray := prog_8_method_30_code
def yX6_lays : MethodName := ⟨RX6, "lays", "(II)V"⟩
abbrev cX6_ends : ByteArray := prog_8_method_31_code
def yX6_ends : MethodName := ⟨RX6, "ends", "()V"⟩
abbrev cX6_fee : ByteArray := prog_8_method_32_code
def yX6_fee : MethodName := ⟨RX6, "fee", "(I)I"⟩
abbrev cX6_passes : ByteArray := prog_8_method_33_code
def yX6_passes : MethodName := ⟨RX6, "passes", "()I"⟩
abbrev cX6_next : ByteArray := prog_8_method_34_code
def yX6_next : MethodName := ⟨RX6, "next", "()I"⟩
abbrev cX6_takes : ByteArray := prog_8_method_35_code
def yX6_takes : MethodName := ⟨RX6, "takes", "(II)I"⟩
abbrev cX6_readsNumber : ByteArray := prog_8_method_36_code
def yX6_readsNumber : MethodName := ⟨RX6, "readsNumber", "()V"⟩
abbrev cX6_reads : ByteArray := prog_8_method_37_code
def yX6_reads : MethodName := ⟨RX6, "reads", "()I"⟩
abbrev cX6_setTable : ByteArray := prog_8_method_38_code
def yX6_setTable : MethodName := ⟨RX6, "setTable", "()I"⟩
abbrev cX6_low : ByteArray := prog_8_method_39_code
def yX6_low : MethodName := ⟨RX6, "low", "(I)I"⟩
abbrev cX6_isRate : ByteArray := prog_8_method_40_code
def yX6_isRate : MethodName := ⟨RX6, "isRate", "(I)Z"⟩
abbrev cX6_addBerth : ByteArray := prog_8_method_41_code
def yX6_addBerth : MethodName := ⟨RX6, "addBerth", "(IIZI)I"⟩
abbrev cX6_addBoat : ByteArray := prog_8_method_42_code
def yX6_addBoat : MethodName := ⟨RX6, "addBoat", "(III)I"⟩
abbrev cX6_canSet : ByteArray := prog_8_method_43_code
def yX6_canSet : MethodName := ⟨RX6, "canSet", "(II)Z"⟩
abbrev cX6_set : ByteArray := prog_8_method_44_code
def yX6_set : MethodName := ⟨RX6, "set", "(II)I"⟩
abbrev cX6_setRate : ByteArray := prog_8_method_45_code
def yX6_setRate : MethodName := ⟨RX6, "setRate", "(II)I"⟩
abbrev cX6_berthTold : ByteArray := prog_8_method_46_code
def yX6_berthTold : MethodName := ⟨RX6, "berthTold", "(II)I"⟩
abbrev cX6_berth : ByteArray := prog_8_method_47_code
def yX6_berth : MethodName := ⟨RX6, "berth", "(II)I"⟩
abbrev cX6_boatTold : ByteArray := prog_8_method_48_code
def yX6_boatTold : MethodName := ⟨RX6, "boatTold", "(II)I"⟩
abbrev cX6_boat : ByteArray := prog_8_method_49_code
def yX6_boat : MethodName := ⟨RX6, "boat", "(II)I"⟩
abbrev cX6_areBoth : ByteArray := prog_8_method_50_code
def yX6_areBoth : MethodName := ⟨RX6, "areBoth", "(II)Z"⟩
abbrev cX6_fits : ByteArray := prog_8_method_51_code
def yX6_fits : MethodName := ⟨RX6, "fits", "(II)Z"⟩
abbrev cX6_free : ByteArray := prog_8_method_52_code
def yX6_free : MethodName := ⟨RX6, "free", "()I"⟩
abbrev cX6_aground : ByteArray := prog_8_method_53_code
def yX6_aground : MethodName := ⟨RX6, "aground", "()I"⟩
abbrev cX6_infoTold : ByteArray := prog_8_method_54_code
def yX6_infoTold : MethodName := ⟨RX6, "infoTold", "(I)I"⟩
abbrev cX6_info : ByteArray := prog_8_method_55_code
def yX6_info : MethodName := ⟨RX6, "info", "(I)I"⟩
abbrev cX6_place : ByteArray := prog_8_method_56_code
def yX6_place : MethodName := ⟨RX6, "place", "(II)I"⟩
abbrev cX6_leave : ByteArray := prog_8_method_57_code
def yX6_leave : MethodName := ⟨RX6, "leave", "(I)I"⟩
abbrev cX6_canChange : ByteArray := prog_8_method_58_code
def yX6_canChange : MethodName := ⟨RX6, "canChange", "(II)Z"⟩
abbrev cX6_change : ByteArray := prog_8_method_59_code
def yX6_change : MethodName := ⟨RX6, "change", "(II)I"⟩
abbrev cX6_await : ByteArray := prog_8_method_60_code
def yX6_await : MethodName := ⟨RX6, "await", "(I)I"⟩
abbrev cX6_offer : ByteArray := prog_8_method_61_code
def yX6_offer : MethodName := ⟨RX6, "offer", "(I)I"⟩
abbrev cX6_waiting : ByteArray := prog_8_method_62_code
def yX6_waiting : MethodName := ⟨RX6, "waiting", "(I)I"⟩
abbrev cX6_bestOf : ByteArray := prog_8_method_63_code
def yX6_bestOf : MethodName := ⟨RX6, "bestOf", "(I)I"⟩
abbrev cX6_bestBerth : ByteArray := prog_8_method_64_code
def yX6_bestBerth : MethodName := ⟨RX6, "bestBerth", "(I)I"⟩
abbrev cX6_pass : ByteArray := prog_8_method_65_code
def yX6_pass : MethodName := ⟨RX6, "pass", "(I)I"⟩
abbrev cX6_pay : ByteArray := prog_8_method_66_code
def yX6_pay : MethodName := ⟨RX6, "pay", "(II)I"⟩
abbrev cX6_charge : ByteArray := prog_8_method_67_code
def yX6_charge : MethodName := ⟨RX6, "charge", "(II)I"⟩
abbrev cX6_owedNow : ByteArray := prog_8_method_68_code
def yX6_owedNow : MethodName := ⟨RX6, "owedNow", "()J"⟩
abbrev cX6_owed : ByteArray := prog_8_method_69_code
def yX6_owed : MethodName := ⟨RX6, "owed", "()J"⟩
abbrev cX6_paidNow : ByteArray := prog_8_method_70_code
def yX6_paidNow : MethodName := ⟨RX6, "paidNow", "()J"⟩
abbrev cX6_paid : ByteArray := prog_8_method_71_code
def yX6_paid : MethodName := ⟨RX6, "paid", "()J"⟩
abbrev cX6_owesAfter : ByteArray := prog_8_method_72_code
def yX6_owesAfter : MethodName := ⟨RX6, "owesAfter", "(II)I"⟩
abbrev cX6_grounds : ByteArray := prog_8_method_73_code
def yX6_grounds : MethodName := ⟨RX6, "grounds", "(I)I"⟩
abbrev cX6_groundsIn : ByteArray := prog_8_method_74_code
def yX6_groundsIn : MethodName := ⟨RX6, "groundsIn", "(I)I"⟩
abbrev cX6_winterBerth : ByteArray := prog_8_method_75_code
def yX6_winterBerth : MethodName := ⟨RX6, "winterBerth", "(I)I"⟩
abbrev cX6_wouldGoAshore : ByteArray := prog_8_method_76_code
def yX6_wouldGoAshore : MethodName := ⟨RX6, "wouldGoAshore", "()I"⟩
abbrev cX6_greatestClearance : ByteArray := prog_8_method_77_code
def yX6_greatestClearance : MethodName := ⟨RX6, "greatestClearance", "()I"⟩
abbrev cX6_missingDepth : ByteArray := prog_8_method_78_code
def yX6_missingDepth : MethodName := ⟨RX6, "missingDepth", "(II)I"⟩
abbrev cX6_type : ByteArray := prog_8_method_79_code
def yX6_type : MethodName := ⟨RX6, "type", "(I)I"⟩
abbrev cX6_clearText : ByteArray := prog_8_method_80_code
def yX6_clearText : MethodName := ⟨RX6, "clearText", "()I"⟩
abbrev cX6_fault : ByteArray := prog_8_method_81_code
def yX6_fault : MethodName := ⟨RX6, "fault", "()I"⟩
abbrev cX6_mix : ByteArray := prog_8_method_82_code
def yX6_mix : MethodName := ⟨RX6, "mix", "(J)V"⟩
abbrev cX6_checksum : ByteArray := prog_8_method_83_code
def yX6_checksum : MethodName := ⟨RX6, "checksum", "()J"⟩
def RJ9 : String := "java/lang/Math"
def TJ9 : u_T := fun k => match k with
  | _ => ("", "", "", false)
def tyJ9 : Nat → FieldType := fun k => match k with
  | _ => .int
abbrev wsJ90 : List Cond := u_ws RJ9 TJ9 0
theorem nmJ9 : ∀ a, a < 0 → ∀ b, b < 0 → a ≠ b → (TJ9 a).2.1 ≠ (TJ9 b).2.1 := by decide +kernel
theorem tyJ9_ok : ∀ k, k < 0 → parseFieldDescriptor (TJ9 k).2.2.1 = some (tyJ9 k) := by decide +kernel
abbrev cJ9_max_7cf53 : ByteArray := prog_13_method_65_code
def yJ9_max_7cf53 : MethodName := ⟨RJ9, "max", "(II)I"⟩
abbrev cJ9_min_7cf53 : ByteArray := prog_13_method_69_code
def yJ9_min_7cf53 : MethodName := ⟨RJ9, "min", "(II)I"⟩
def RJ0 : String := "java/lang/String"
def TJ0 : u_T := fun k => match k with
  | _ => ("", "", "", false)
def tyJ0 : Nat → FieldType := fun k => match k with
  | _ => .int
abbrev wsJ00 : List Cond := u_ws RJ0 TJ0 0
theorem nmJ0 : ∀ a, a < 0 → ∀ b, b < 0 → a ≠ b → (TJ0 a).2.1 ≠ (TJ0 b).2.1 := by decide +kernel
theorem tyJ0_ok : ∀ k, k < 0 → parseFieldDescriptor (TJ0 k).2.2.1 = some (tyJ0 k) := by decide +kernel
def RL : String := "MarinaBerthsLaw"
abbrev cL_setTable : ByteArray := method_3_code
def yL_setTable : MethodName := ⟨RL, "setTable", "(LMarinaBerths;[J)I"⟩
abbrev cL_low : ByteArray := method_4_code
def yL_low : MethodName := ⟨RL, "low", "(LMarinaBerths;I[J)I"⟩
abbrev cL_addBerth : ByteArray := method_5_code
def yL_addBerth : MethodName := ⟨RL, "addBerth", "(LMarinaBerths;IIZI[J)I"⟩
abbrev cL_addBoat : ByteArray := method_6_code
def yL_addBoat : MethodName := ⟨RL, "addBoat", "(LMarinaBerths;III[J)I"⟩
abbrev cL_set : ByteArray := method_7_code
def yL_set : MethodName := ⟨RL, "set", "(LMarinaBerths;II[J)I"⟩
abbrev cL_setRate : ByteArray := method_8_code
def yL_setRate : MethodName := ⟨RL, "setRate", "(LMarinaBerths;II[J)I"⟩
abbrev cL_berth : ByteArray := method_9_code
def yL_berth : MethodName := ⟨RL, "berth", "(LMarinaBerths;II[J)I"⟩
abbrev cL_boat : ByteArray := method_10_code
def yL_boat : MethodName := ⟨RL, "boat", "(LMarinaBerths;II[J)I"⟩
abbrev cL_fits : ByteArray := method_11_code
def yL_fits : MethodName := ⟨RL, "fits", "(LMarinaBerths;II[J)I"⟩
abbrev cL_info : ByteArray := method_12_code
def yL_info : MethodName := ⟨RL, "info", "(LMarinaBerths;I[J)I"⟩
abbrev cL_place : ByteArray := method_13_code
def yL_place : MethodName := ⟨RL, "place", "(LMarinaBerths;II[J)I"⟩
abbrev cL_leave : ByteArray := method_14_code
def yL_leave : MethodName := ⟨RL, "leave", "(LMarinaBerths;I[J)I"⟩
abbrev cL_change : ByteArray := method_15_code
def yL_change : MethodName := ⟨RL, "change", "(LMarinaBerths;II[J)I"⟩
abbrev cL_await : ByteArray := method_16_code
def yL_await : MethodName := ⟨RL, "await", "(LMarinaBerths;I[J)I"⟩
abbrev cL_offer : ByteArray := method_17_code
def yL_offer : MethodName := ⟨RL, "offer", "(LMarinaBerths;I[J)I"⟩
abbrev cL_bestBerth : ByteArray := method_18_code
def yL_bestBerth : MethodName := ⟨RL, "bestBerth", "(LMarinaBerths;I[J)I"⟩
abbrev cL_pass : ByteArray := method_19_code
def yL_pass : MethodName := ⟨RL, "pass", "(LMarinaBerths;I[J)I"⟩
abbrev cL_pay : ByteArray := method_20_code
def yL_pay : MethodName := ⟨RL, "pay", "(LMarinaBerths;II[J)I"⟩
abbrev cL_charge : ByteArray := method_21_code
def yL_charge : MethodName := ⟨RL, "charge", "(LMarinaBerths;II[J)I"⟩
abbrev cL_owesAfter : ByteArray := method_22_code
def yL_owesAfter : MethodName := ⟨RL, "owesAfter", "(LMarinaBerths;II[J)I"⟩
abbrev cL_groundsIn : ByteArray := method_23_code
def yL_groundsIn : MethodName := ⟨RL, "groundsIn", "(LMarinaBerths;I[J)I"⟩
abbrev cL_winterBerth : ByteArray := method_24_code
def yL_winterBerth : MethodName := ⟨RL, "winterBerth", "(LMarinaBerths;I[J)I"⟩
abbrev cL_wouldGoAshore : ByteArray := method_25_code
def yL_wouldGoAshore : MethodName := ⟨RL, "wouldGoAshore", "(LMarinaBerths;[J)I"⟩
abbrev cL_missingDepth : ByteArray := method_26_code
def yL_missingDepth : MethodName := ⟨RL, "missingDepth", "(LMarinaBerths;II[J)I"⟩
abbrev cL_type : ByteArray := method_27_code
def yL_type : MethodName := ⟨RL, "type", "(LMarinaBerths;I[J)I"⟩
abbrev cL_undo : ByteArray := method_28_code
def yL_undo : MethodName := ⟨RL, "undo", "(LMarinaBerths;[J)I"⟩
abbrev cL_law : ByteArray := code
def yL_law : MethodName := ⟨RL, "law", "([I)Z"⟩
abbrev vwCl : List vw_C := [(RX0, TX0, 4), (RX1, TX1, 9), (RX2, TX2, 15), (RX3, TX3, 4), (RX4, TX4, 4), (RX5, TX5, 6), (RX6, TX6, 16)]
end
section
theorem dX0_init_0 : decode cX0_init 0 = .ok (.aload_n 0, 1) := by decide +kernel
theorem dX0_init_1 : decode cX0_init 1 = .ok (.invokespecial 1, 3) := by decide +kernel
theorem dX0_init_4 : decode cX0_init 4 = .ok (.return_, 1) := by decide +kernel
theorem dX0_become_0 : decode cX0_become 0 = .ok (.aload_n 0, 1) := by decide +kernel
theorem dX0_become_1 : decode cX0_become 1 = .ok (.iload_n 1, 1) := by decide +kernel
theorem dX0_become_2 : decode cX0_become 2 = .ok (.putfield 7, 3) := by decide +kernel
theorem dX0_become_5 : decode cX0_become 5 = .ok (.aload_n 0, 1) := by decide +kernel
theorem dX0_become_6 : decode cX0_become 6 = .ok (.iload_n 2, 1) := by decide +kernel
theorem dX0_become_7 : decode cX0_become 7 = .ok (.putfield 13, 3) := by decide +kernel
theorem dX0_become_10 : decode cX0_become 10 = .ok (.aload_n 0, 1) := by decide +kernel
theorem dX0_become_11 : decode cX0_become 11 = .ok (.iload_n 3, 1) := by decide +kernel
theorem dX0_become_12 : decode cX0_become 12 = .ok (.putfield 16, 3) := by decide +kernel
theorem dX0_become_15 : decode cX0_become 15 = .ok (.aload_n 0, 1) := by decide +kernel
theorem dX0_become_16 : decode cX0_become 16 = .ok (.iload 4, 2) := by decide +kernel
theorem dX0_become_18 : decode cX0_become 18 = .ok (.putfield 20, 3) := by decide +kernel
theorem dX0_become_21 : decode cX0_become 21 = .ok (.return_, 1) := by decide +kernel
theorem dX0_copyFrom_0 : decode cX0_copyFrom 0 = .ok (.aload_n 0, 1) := by decide +kernel
theorem dX0_copyFrom_1 : decode cX0_copyFrom 1 = .ok (.aload_n 1, 1) := by decide +kernel
theorem dX0_copyFrom_2 : decode cX0_copyFrom 2 = .ok (.getfield 7, 3) := by decide +kernel
theorem dX0_copyFrom_5 : decode cX0_copyFrom 5 = .ok (.aload_n 1, 1) := by decide +kernel
theorem dX0_copyFrom_6 : decode cX0_copyFrom 6 = .ok (.getfield 13, 3) := by decide +kernel
theorem dX0_copyFrom_9 : decode cX0_copyFrom 9 = .ok (.aload_n 1, 1) := by decide +kernel
theorem dX0_copyFrom_10 : decode cX0_copyFrom 10 = .ok (.getfield 16, 3) := by decide +kernel
theorem dX0_copyFrom_13 : decode cX0_copyFrom 13 = .ok (.aload_n 1, 1) := by decide +kernel
theorem dX0_copyFrom_14 : decode cX0_copyFrom 14 = .ok (.getfield 20, 3) := by decide +kernel
theorem dX0_copyFrom_17 : decode cX0_copyFrom 17 = .ok (.invokevirtual 23, 3) := by decide +kernel
theorem dX0_copyFrom_20 : decode cX0_copyFrom 20 = .ok (.return_, 1) := by decide +kernel
theorem dX0_isTighterThan_0 : decode cX0_isTighterThan 0 = .ok (.aload_n 0, 1) := by decide +kernel
theorem dX0_isTighterThan_1 : decode cX0_isTighterThan 1 = .ok (.getfield 13, 3) := by decide +kernel
theorem dX0_isTighterThan_4 : decode cX0_isTighterThan 4 = .ok (.aload_n 1, 1) := by decide +kernel
theorem dX0_isTighterThan_5 : decode cX0_isTighterThan 5 = .ok (.getfield 13, 3) := by decide +kernel
theorem dX0_isTighterThan_8 : decode cX0_isTighterThan 8 = .ok (.if_icmp .lt 25, 3) := by decide +kernel
theorem dX0_isTighterThan_11 : decode cX0_isTighterThan 11 = .ok (.aload_n 0, 1) := by decide +kernel
theorem dX0_isTighterThan_12 : decode cX0_isTighterThan 12 = .ok (.getfield 13, 3) := by decide +kernel
theorem dX0_isTighterThan_15 : decode cX0_isTighterThan 15 = .ok (.aload_n 1, 1) := by decide +kernel
theorem dX0_isTighterThan_16 : decode cX0_isTighterThan 16 = .ok (.getfield 13, 3) := by decide +kernel
theorem dX0_isTighterThan_19 : decode cX0_isTighterThan 19 = .ok (.if_icmp .ne 18, 3) := by decide +kernel
theorem dX0_isTighterThan_22 : decode cX0_isTighterThan 22 = .ok (.aload_n 0, 1) := by decide +kernel
theorem dX0_isTighterThan_23 : decode cX0_isTighterThan 23 = .ok (.getfield 7, 3) := by decide +kernel
theorem dX0_isTighterThan_26 : decode cX0_isTighterThan 26 = .ok (.aload_n 1, 1) := by decide +kernel
theorem dX0_isTighterThan_27 : decode cX0_isTighterThan 27 = .ok (.getfield 7, 3) := by decide +kernel
theorem dX0_isTighterThan_30 : decode cX0_isTighterThan 30 = .ok (.if_icmp .ge 7, 3) := by decide +kernel
theorem dX0_isTighterThan_33 : decode cX0_isTighterThan 33 = .ok (.iconst 1, 1) := by decide +kernel
theorem dX0_isTighterThan_34 : decode cX0_isTighterThan 34 = .ok (.goto 4, 3) := by decide +kernel
theorem dX0_isTighterThan_37 : decode cX0_isTighterThan 37 = .ok (.iconst 0, 1) := by decide +kernel
theorem dX0_isTighterThan_38 : decode cX0_isTighterThan 38 = .ok (.ireturn, 1) := by decide +kernel
theorem dX1_init_0 : decode cX1_init 0 = .ok (.aload_n 0, 1) := by decide +kernel
theorem dX1_init_1 : decode cX1_init 1 = .ok (.invokespecial 3, 3) := by decide +kernel
theorem dX1_init_4 : decode cX1_init 4 = .ok (.return_, 1) := by decide +kernel
theorem dX1_become_0 : decode cX1_become 0 = .ok (.aload_n 0, 1) := by decide +kernel
theorem dX1_become_1 : decode cX1_become 1 = .ok (.iload_n 1, 1) := by decide +kernel
theorem dX1_become_2 : decode cX1_become 2 = .ok (.putfield 9, 3) := by decide +kernel
theorem dX1_become_5 : decode cX1_become 5 = .ok (.aload_n 0, 1) := by decide +kernel
theorem dX1_become_6 : decode cX1_become 6 = .ok (.iload_n 2, 1) := by decide +kernel
theorem dX1_become_7 : decode cX1_become 7 = .ok (.putfield 15, 3) := by decide +kernel
theorem dX1_become_10 : decode cX1_become 10 = .ok (.aload_n 0, 1) := by decide +kernel
theorem dX1_become_11 : decode cX1_become 11 = .ok (.iload_n 3, 1) := by decide +kernel
theorem dX1_become_12 : decode cX1_become 12 = .ok (.putfield 18, 3) := by decide +kernel
theorem dX1_become_15 : decode cX1_become 15 = .ok (.aload_n 0, 1) := by decide +kernel
theorem dX1_become_16 : decode cX1_become 16 = .ok (.iconst 0, 1) := by decide +kernel
theorem dX1_become_17 : decode cX1_become 17 = .ok (.putfield 21, 3) := by decide +kernel
theorem dX1_become_20 : decode cX1_become 20 = .ok (.aload_n 0, 1) := by decide +kernel
theorem dX1_become_21 : decode cX1_become 21 = .ok (.iconst 0, 1) := by decide +kernel
theorem dX1_become_22 : decode cX1_become 22 = .ok (.iconst (-1), 1) := by decide +kernel
theorem dX1_become_23 : decode cX1_become 23 = .ok (.invokevirtual 24, 3) := by decide +kernel
theorem dX1_become_26 : decode cX1_become 26 = .ok (.return_, 1) := by decide +kernel
theorem dX1_copyFrom_0 : decode cX1_copyFrom 0 = .ok (.aload_n 0, 1) := by decide +kernel
theorem dX1_copyFrom_1 : decode cX1_copyFrom 1 = .ok (.aload_n 1, 1) := by decide +kernel
theorem dX1_copyFrom_2 : decode cX1_copyFrom 2 = .ok (.getfield 9, 3) := by decide +kernel
theorem dX1_copyFrom_5 : decode cX1_copyFrom 5 = .ok (.putfield 9, 3) := by decide +kernel
theorem dX1_copyFrom_8 : decode cX1_copyFrom 8 = .ok (.aload_n 0, 1) := by decide +kernel
theorem dX1_copyFrom_9 : decode cX1_copyFrom 9 = .ok (.aload_n 1, 1) := by decide +kernel
theorem dX1_copyFrom_10 : decode cX1_copyFrom 10 = .ok (.getfield 15, 3) := by decide +kernel
theorem dX1_copyFrom_13 : decode cX1_copyFrom 13 = .ok (.putfield 15, 3) := by decide +kernel
theorem dX1_copyFrom_16 : decode cX1_copyFrom 16 = .ok (.aload_n 0, 1) := by decide +kernel
theorem dX1_copyFrom_17 : decode cX1_copyFrom 17 = .ok (.aload_n 1, 1) := by decide +kernel
theorem dX1_copyFrom_18 : decode cX1_copyFrom 18 = .ok (.getfield 18, 3) := by decide +kernel
theorem dX1_copyFrom_21 : decode cX1_copyFrom 21 = .ok (.putfield 18, 3) := by decide +kernel
theorem dX1_copyFrom_24 : decode cX1_copyFrom 24 = .ok (.aload_n 0, 1) := by decide +kernel
theorem dX1_copyFrom_25 : decode cX1_copyFrom 25 = .ok (.aload_n 1, 1) := by decide +kernel
theorem dX1_copyFrom_26 : decode cX1_copyFrom 26 = .ok (.getfield 28, 3) := by decide +kernel
theorem dX1_copyFrom_29 : decode cX1_copyFrom 29 = .ok (.putfield 28, 3) := by decide +kernel
theorem dX1_copyFrom_32 : decode cX1_copyFrom 32 = .ok (.aload_n 0, 1) := by decide +kernel
theorem dX1_copyFrom_33 : decode cX1_copyFrom 33 = .ok (.aload_n 1, 1) := by decide +kernel
theorem dX1_copyFrom_34 : decode cX1_copyFrom 34 = .ok (.getfield 31, 3) := by decide +kernel
theorem dX1_copyFrom_37 : decode cX1_copyFrom 37 = .ok (.putfield 31, 3) := by decide +kernel
theorem dX1_copyFrom_40 : decode cX1_copyFrom 40 = .ok (.aload_n 0, 1) := by decide +kernel
theorem dX1_copyFrom_41 : decode cX1_copyFrom 41 = .ok (.aload_n 1, 1) := by decide +kernel
theorem dX1_copyFrom_42 : decode cX1_copyFrom 42 = .ok (.getfield 34, 3) := by decide +kernel
theorem dX1_copyFrom_45 : decode cX1_copyFrom 45 = .ok (.putfield 34, 3) := by decide +kernel
theorem dX1_copyFrom_48 : decode cX1_copyFrom 48 = .ok (.aload_n 0, 1) := by decide +kernel
theorem dX1_copyFrom_49 : decode cX1_copyFrom 49 = .ok (.aload_n 1, 1) := by decide +kernel
theorem dX1_copyFrom_50 : decode cX1_copyFrom 50 = .ok (.getfield 21, 3) := by decide +kernel
theorem dX1_copyFrom_53 : decode cX1_copyFrom 53 = .ok (.putfield 21, 3) := by decide +kernel
theorem dX1_copyFrom_56 : decode cX1_copyFrom 56 = .ok (.aload_n 0, 1) := by decide +kernel
theorem dX1_copyFrom_57 : decode cX1_copyFrom 57 = .ok (.aload_n 1, 1) := by decide +kernel
theorem dX1_copyFrom_58 : decode cX1_copyFrom 58 = .ok (.getfield 37, 3) := by decide +kernel
theorem dX1_copyFrom_61 : decode cX1_copyFrom 61 = .ok (.putfield 37, 3) := by decide +kernel
theorem dX1_copyFrom_64 : decode cX1_copyFrom 64 = .ok (.aload_n 0, 1) := by decide +kernel
theorem dX1_copyFrom_65 : decode cX1_copyFrom 65 = .ok (.aload_n 1, 1) := by decide +kernel
theorem dX1_copyFrom_66 : decode cX1_copyFrom 66 = .ok (.getfield 40, 3) := by decide +kernel
theorem dX1_copyFrom_69 : decode cX1_copyFrom 69 = .ok (.putfield 40, 3) := by decide +kernel
theorem dX1_copyFrom_72 : decode cX1_copyFrom 72 = .ok (.return_, 1) := by decide +kernel
theorem dX1_move_0 : decode cX1_move 0 = .ok (.aload_n 0, 1) := by decide +kernel
theorem dX1_move_1 : decode cX1_move 1 = .ok (.iload_n 1, 1) := by decide +kernel
theorem dX1_move_2 : decode cX1_move 2 = .ok (.putfield 28, 3) := by decide +kernel
theorem dX1_move_5 : decode cX1_move 5 = .ok (.aload_n 0, 1) := by decide +kernel
theorem dX1_move_6 : decode cX1_move 6 = .ok (.iload_n 2, 1) := by decide +kernel
theorem dX1_move_7 : decode cX1_move 7 = .ok (.putfield 31, 3) := by decide +kernel
theorem dX1_move_10 : decode cX1_move 10 = .ok (.return_, 1) := by decide +kernel
theorem dX1_moveForGood_0 : decode cX1_moveForGood 0 = .ok (.aload_n 0, 1) := by decide +kernel
theorem dX1_moveForGood_1 : decode cX1_moveForGood 1 = .ok (.iload_n 1, 1) := by decide +kernel
theorem dX1_moveForGood_2 : decode cX1_moveForGood 2 = .ok (.iload_n 2, 1) := by decide +kernel
theorem dX1_moveForGood_3 : decode cX1_moveForGood 3 = .ok (.invokevirtual 43, 3) := by decide +kernel
theorem dX1_moveForGood_6 : decode cX1_moveForGood 6 = .ok (.aload_n 0, 1) := by decide +kernel
theorem dX1_moveForGood_7 : decode cX1_moveForGood 7 = .ok (.iconst (-1), 1) := by decide +kernel
theorem dX1_moveForGood_8 : decode cX1_moveForGood 8 = .ok (.putfield 34, 3) := by decide +kernel
theorem dX1_moveForGood_11 : decode cX1_moveForGood 11 = .ok (.return_, 1) := by decide +kernel
theorem dX1_canOweMore_0 : decode cX1_canOweMore 0 = .ok (.aload_n 0, 1) := by decide +kernel
theorem dX1_canOweMore_1 : decode cX1_canOweMore 1 = .ok (.getfield 21, 3) := by decide +kernel
theorem dX1_canOweMore_4 : decode cX1_canOweMore 4 = .ok (.i2l, 1) := by decide +kernel
theorem dX1_canOweMore_5 : decode cX1_canOweMore 5 = .ok (.lload_n 1, 1) := by decide +kernel
theorem dX1_canOweMore_6 : decode cX1_canOweMore 6 = .ok (.ladd, 1) := by decide +kernel
theorem dX1_canOweMore_7 : decode cX1_canOweMore 7 = .ok (.ldc2_w 46, 3) := by decide +kernel
theorem dX1_canOweMore_10 : decode cX1_canOweMore 10 = .ok (.lcmp, 1) := by decide +kernel
theorem dX1_canOweMore_11 : decode cX1_canOweMore 11 = .ok (.ifCond .gt 7, 3) := by decide +kernel
theorem dX1_canOweMore_14 : decode cX1_canOweMore 14 = .ok (.iconst 1, 1) := by decide +kernel
theorem dX1_canOweMore_15 : decode cX1_canOweMore 15 = .ok (.goto 4, 3) := by decide +kernel
theorem dX1_canOweMore_18 : decode cX1_canOweMore 18 = .ok (.iconst 0, 1) := by decide +kernel
theorem dX1_canOweMore_19 : decode cX1_canOweMore 19 = .ok (.ireturn, 1) := by decide +kernel
theorem dX2_init_0 : decode cX2_init 0 = .ok (.aload_n 0, 1) := by decide +kernel
theorem dX2_init_1 : decode cX2_init 1 = .ok (.invokespecial 3, 3) := by decide +kernel
theorem dX2_init_4 : decode cX2_init 4 = .ok (.aload_n 0, 1) := by decide +kernel
theorem dX2_init_5 : decode cX2_init 5 = .ok (.bipush 16, 2) := by decide +kernel
theorem dX2_init_7 : decode cX2_init 7 = .ok (.anewarray 9, 3) := by decide +kernel
theorem dX2_init_10 : decode cX2_init 10 = .ok (.putfield 11, 3) := by decide +kernel
theorem dX2_init_13 : decode cX2_init 13 = .ok (.aload_n 0, 1) := by decide +kernel
theorem dX2_init_14 : decode cX2_init 14 = .ok (.bipush 20, 2) := by decide +kernel
theorem dX2_init_16 : decode cX2_init 16 = .ok (.anewarray 17, 3) := by decide +kernel
theorem dX2_init_19 : decode cX2_init 19 = .ok (.putfield 19, 3) := by decide +kernel
theorem dX2_init_22 : decode cX2_init 22 = .ok (.aload_n 0, 1) := by decide +kernel
theorem dX2_init_23 : decode cX2_init 23 = .ok (.bipush 14, 2) := by decide +kernel
theorem dX2_init_25 : decode cX2_init 25 = .ok (.newarray .int, 2) := by decide +kernel
theorem dX2_init_27 : decode cX2_init 27 = .ok (.putfield 23, 3) := by decide +kernel
theorem dX2_init_30 : decode cX2_init 30 = .ok (.aload_n 0, 1) := by decide +kernel
theorem dX2_init_31 : decode cX2_init 31 = .ok (.iconst 1, 1) := by decide +kernel
theorem dX2_init_32 : decode cX2_init 32 = .ok (.putfield 27, 3) := by decide +kernel
theorem dX2_init_35 : decode cX2_init 35 = .ok (.aload_n 0, 1) := by decide +kernel
theorem dX2_init_36 : decode cX2_init 36 = .ok (.bipush 30, 2) := by decide +kernel
theorem dX2_init_38 : decode cX2_init 38 = .ok (.putfield 31, 3) := by decide +kernel
theorem dX2_init_41 : decode cX2_init 41 = .ok (.aload_n 0, 1) := by decide +kernel
theorem dX2_init_42 : decode cX2_init 42 = .ok (.sipush 270, 3) := by decide +kernel
theorem dX2_init_45 : decode cX2_init 45 = .ok (.putfield 34, 3) := by decide +kernel
theorem dX2_init_48 : decode cX2_init 48 = .ok (.aload_n 0, 1) := by decide +kernel
theorem dX2_init_49 : decode cX2_init 49 = .ok (.bipush 90, 2) := by decide +kernel
theorem dX2_init_51 : decode cX2_init 51 = .ok (.putfield 37, 3) := by decide +kernel
theorem dX2_init_54 : decode cX2_init 54 = .ok (.iconst 0, 1) := by decide +kernel
theorem dX2_init_55 : decode cX2_init 55 = .ok (.istore_n 1, 1) := by decide +kernel
theorem dX2_init_56 : decode cX2_init 56 = .ok (.iload_n 1, 1) := by decide +kernel
theorem dX2_init_57 : decode cX2_init 57 = .ok (.bipush 16, 2) := by decide +kernel
theorem dX2_init_59 : decode cX2_init 59 = .ok (.if_icmp .ge 22, 3) := by decide +kernel
theorem dX2_init_62 : decode cX2_init 62 = .ok (.aload_n 0, 1) := by decide +kernel
theorem dX2_init_63 : decode cX2_init 63 = .ok (.getfield 11, 3) := by decide +kernel
theorem dX2_init_66 : decode cX2_init 66 = .ok (.iload_n 1, 1) := by decide +kernel
theorem dX2_init_67 : decode cX2_init 67 = .ok (.new 9, 3) := by decide +kernel
theorem dX2_init_70 : decode cX2_init 70 = .ok (.dup, 1) := by decide +kernel
theorem dX2_init_71 : decode cX2_init 71 = .ok (.invokespecial 40, 3) := by decide +kernel
theorem dX2_init_74 : decode cX2_init 74 = .ok (.aastore, 1) := by decide +kernel
theorem dX2_init_75 : decode cX2_init 75 = .ok (.iinc 1 1, 3) := by decide +kernel
theorem dX2_init_78 : decode cX2_init 78 = .ok (.goto (-22), 3) := by decide +kernel
theorem dX2_init_81 : decode cX2_init 81 = .ok (.iconst 0, 1) := by decide +kernel
theorem dX2_init_82 : decode cX2_init 82 = .ok (.istore_n 1, 1) := by decide +kernel
theorem dX2_init_83 : decode cX2_init 83 = .ok (.iload_n 1, 1) := by decide +kernel
theorem dX2_init_84 : decode cX2_init 84 = .ok (.bipush 20, 2) := by decide +kernel
theorem dX2_init_86 : decode cX2_init 86 = .ok (.if_icmp .ge 22, 3) := by decide +kernel
theorem dX2_init_89 : decode cX2_init 89 = .ok (.aload_n 0, 1) := by decide +kernel
theorem dX2_init_90 : decode cX2_init 90 = .ok (.getfield 19, 3) := by decide +kernel
theorem dX2_init_93 : decode cX2_init 93 = .ok (.iload_n 1, 1) := by decide +kernel
theorem dX2_init_94 : decode cX2_init 94 = .ok (.new 17, 3) := by decide +kernel
theorem dX2_init_97 : decode cX2_init 97 = .ok (.dup, 1) := by decide +kernel
theorem dX2_init_98 : decode cX2_init 98 = .ok (.invokespecial 41, 3) := by decide +kernel
theorem dX2_init_101 : decode cX2_init 101 = .ok (.aastore, 1) := by decide +kernel
theorem dX2_init_102 : decode cX2_init 102 = .ok (.iinc 1 1, 3) := by decide +kernel
theorem dX2_init_105 : decode cX2_init 105 = .ok (.goto (-22), 3) := by decide +kernel
theorem dX2_init_108 : decode cX2_init 108 = .ok (.return_, 1) := by decide +kernel
theorem dX2_copyFrom_0 : decode cX2_copyFrom 0 = .ok (.aload_n 0, 1) := by decide +kernel
theorem dX2_copyFrom_1 : decode cX2_copyFrom 1 = .ok (.aload_n 1, 1) := by decide +kernel
theorem dX2_copyFrom_2 : decode cX2_copyFrom 2 = .ok (.getfield 42, 3) := by decide +kernel
theorem dX2_copyFrom_5 : decode cX2_copyFrom 5 = .ok (.putfield 42, 3) := by decide +kernel
theorem dX2_copyFrom_8 : decode cX2_copyFrom 8 = .ok (.iconst 0, 1) := by decide +kernel
theorem dX2_copyFrom_9 : decode cX2_copyFrom 9 = .ok (.istore_n 2, 1) := by decide +kernel
theorem dX2_copyFrom_10 : decode cX2_copyFrom 10 = .ok (.iload_n 2, 1) := by decide +kernel
theorem dX2_copyFrom_11 : decode cX2_copyFrom 11 = .ok (.aload_n 0, 1) := by decide +kernel
theorem dX2_copyFrom_12 : decode cX2_copyFrom 12 = .ok (.getfield 42, 3) := by decide +kernel
theorem dX2_copyFrom_15 : decode cX2_copyFrom 15 = .ok (.if_icmp .ge 24, 3) := by decide +kernel
theorem dX2_copyFrom_18 : decode cX2_copyFrom 18 = .ok (.aload_n 0, 1) := by decide +kernel
theorem dX2_copyFrom_19 : decode cX2_copyFrom 19 = .ok (.getfield 11, 3) := by decide +kernel
theorem dX2_copyFrom_22 : decode cX2_copyFrom 22 = .ok (.iload_n 2, 1) := by decide +kernel
theorem dX2_copyFrom_23 : decode cX2_copyFrom 23 = .ok (.aaload, 1) := by decide +kernel
theorem dX2_copyFrom_24 : decode cX2_copyFrom 24 = .ok (.aload_n 1, 1) := by decide +kernel
theorem dX2_copyFrom_25 : decode cX2_copyFrom 25 = .ok (.getfield 11, 3) := by decide +kernel
theorem dX2_copyFrom_28 : decode cX2_copyFrom 28 = .ok (.iload_n 2, 1) := by decide +kernel
theorem dX2_copyFrom_29 : decode cX2_copyFrom 29 = .ok (.aaload, 1) := by decide +kernel
theorem dX2_copyFrom_30 : decode cX2_copyFrom 30 = .ok (.invokevirtual 45, 3) := by decide +kernel
theorem dX2_copyFrom_33 : decode cX2_copyFrom 33 = .ok (.iinc 2 1, 3) := by decide +kernel
theorem dX2_copyFrom_36 : decode cX2_copyFrom 36 = .ok (.goto (-26), 3) := by decide +kernel
theorem dX2_copyFrom_39 : decode cX2_copyFrom 39 = .ok (.aload_n 0, 1) := by decide +kernel
theorem dX2_copyFrom_40 : decode cX2_copyFrom 40 = .ok (.aload_n 1, 1) := by decide +kernel
theorem dX2_copyFrom_41 : decode cX2_copyFrom 41 = .ok (.getfield 49, 3) := by decide +kernel
theorem dX2_copyFrom_44 : decode cX2_copyFrom 44 = .ok (.putfield 49, 3) := by decide +kernel
theorem dX2_copyFrom_47 : decode cX2_copyFrom 47 = .ok (.iconst 0, 1) := by decide +kernel
theorem dX2_copyFrom_48 : decode cX2_copyFrom 48 = .ok (.istore_n 2, 1) := by decide +kernel
theorem dX2_copyFrom_49 : decode cX2_copyFrom 49 = .ok (.iload_n 2, 1) := by decide +kernel
theorem dX2_copyFrom_50 : decode cX2_copyFrom 50 = .ok (.aload_n 0, 1) := by decide +kernel
theorem dX2_copyFrom_51 : decode cX2_copyFrom 51 = .ok (.getfield 49, 3) := by decide +kernel
theorem dX2_copyFrom_54 : decode cX2_copyFrom 54 = .ok (.if_icmp .ge 24, 3) := by decide +kernel
theorem dX2_copyFrom_57 : decode cX2_copyFrom 57 = .ok (.aload_n 0, 1) := by decide +kernel
theorem dX2_copyFrom_58 : decode cX2_copyFrom 58 = .ok (.getfield 19, 3) := by decide +kernel
theorem dX2_copyFrom_61 : decode cX2_copyFrom 61 = .ok (.iload_n 2, 1) := by decide +kernel
theorem dX2_copyFrom_62 : decode cX2_copyFrom 62 = .ok (.aaload, 1) := by decide +kernel
theorem dX2_copyFrom_63 : decode cX2_copyFrom 63 = .ok (.aload_n 1, 1) := by decide +kernel
theorem dX2_copyFrom_64 : decode cX2_copyFrom 64 = .ok (.getfield 19, 3) := by decide +kernel
theorem dX2_copyFrom_67 : decode cX2_copyFrom 67 = .ok (.iload_n 2, 1) := by decide +kernel
theorem dX2_copyFrom_68 : decode cX2_copyFrom 68 = .ok (.aaload, 1) := by decide +kernel
theorem dX2_copyFrom_69 : decode cX2_copyFrom 69 = .ok (.invokevirtual 52, 3) := by decide +kernel
theorem dX2_copyFrom_72 : decode cX2_copyFrom 72 = .ok (.iinc 2 1, 3) := by decide +kernel
theorem dX2_copyFrom_75 : decode cX2_copyFrom 75 = .ok (.goto (-26), 3) := by decide +kernel
theorem dX2_copyFrom_78 : decode cX2_copyFrom 78 = .ok (.aload_n 0, 1) := by decide +kernel
theorem dX2_copyFrom_79 : decode cX2_copyFrom 79 = .ok (.aload_n 1, 1) := by decide +kernel
theorem dX2_copyFrom_80 : decode cX2_copyFrom 80 = .ok (.getfield 27, 3) := by decide +kernel
theorem dX2_copyFrom_83 : decode cX2_copyFrom 83 = .ok (.putfield 27, 3) := by decide +kernel
theorem dX2_copyFrom_86 : decode cX2_copyFrom 86 = .ok (.iconst 0, 1) := by decide +kernel
theorem dX2_copyFrom_87 : decode cX2_copyFrom 87 = .ok (.istore_n 2, 1) := by decide +kernel
theorem dX2_copyFrom_88 : decode cX2_copyFrom 88 = .ok (.iload_n 2, 1) := by decide +kernel
theorem dX2_copyFrom_89 : decode cX2_copyFrom 89 = .ok (.aload_n 0, 1) := by decide +kernel
theorem dX2_copyFrom_90 : decode cX2_copyFrom 90 = .ok (.getfield 27, 3) := by decide +kernel
theorem dX2_copyFrom_93 : decode cX2_copyFrom 93 = .ok (.if_icmp .ge 21, 3) := by decide +kernel
theorem dX2_copyFrom_96 : decode cX2_copyFrom 96 = .ok (.aload_n 0, 1) := by decide +kernel
theorem dX2_copyFrom_97 : decode cX2_copyFrom 97 = .ok (.getfield 23, 3) := by decide +kernel
theorem dX2_copyFrom_100 : decode cX2_copyFrom 100 = .ok (.iload_n 2, 1) := by decide +kernel
theorem dX2_copyFrom_101 : decode cX2_copyFrom 101 = .ok (.aload_n 1, 1) := by decide +kernel
theorem dX2_copyFrom_102 : decode cX2_copyFrom 102 = .ok (.getfield 23, 3) := by decide +kernel
theorem dX2_copyFrom_105 : decode cX2_copyFrom 105 = .ok (.iload_n 2, 1) := by decide +kernel
theorem dX2_copyFrom_106 : decode cX2_copyFrom 106 = .ok (.iaload, 1) := by decide +kernel
theorem dX2_copyFrom_107 : decode cX2_copyFrom 107 = .ok (.iastore, 1) := by decide +kernel
theorem dX2_copyFrom_108 : decode cX2_copyFrom 108 = .ok (.iinc 2 1, 3) := by decide +kernel
theorem dX2_copyFrom_111 : decode cX2_copyFrom 111 = .ok (.goto (-23), 3) := by decide +kernel
theorem dX2_copyFrom_114 : decode cX2_copyFrom 114 = .ok (.aload_n 0, 1) := by decide +kernel
theorem dX2_copyFrom_115 : decode cX2_copyFrom 115 = .ok (.aload_n 1, 1) := by decide +kernel
theorem dX2_copyFrom_116 : decode cX2_copyFrom 116 = .ok (.getfield 55, 3) := by decide +kernel
theorem dX2_copyFrom_119 : decode cX2_copyFrom 119 = .ok (.putfield 55, 3) := by decide +kernel
theorem dX2_copyFrom_122 : decode cX2_copyFrom 122 = .ok (.aload_n 0, 1) := by decide +kernel
theorem dX2_copyFrom_123 : decode cX2_copyFrom 123 = .ok (.aload_n 1, 1) := by decide +kernel
theorem dX2_copyFrom_124 : decode cX2_copyFrom 124 = .ok (.getfield 31, 3) := by decide +kernel
theorem dX2_copyFrom_127 : decode cX2_copyFrom 127 = .ok (.putfield 31, 3) := by decide +kernel
theorem dX2_copyFrom_130 : decode cX2_copyFrom 130 = .ok (.aload_n 0, 1) := by decide +kernel
theorem dX2_copyFrom_131 : decode cX2_copyFrom 131 = .ok (.aload_n 1, 1) := by decide +kernel
theorem dX2_copyFrom_132 : decode cX2_copyFrom 132 = .ok (.getfield 58, 3) := by decide +kernel
theorem dX2_copyFrom_135 : decode cX2_copyFrom 135 = .ok (.putfield 58, 3) := by decide +kernel
theorem dX2_copyFrom_138 : decode cX2_copyFrom 138 = .ok (.aload_n 0, 1) := by decide +kernel
theorem dX2_copyFrom_139 : decode cX2_copyFrom 139 = .ok (.aload_n 1, 1) := by decide +kernel
theorem dX2_copyFrom_140 : decode cX2_copyFrom 140 = .ok (.getfield 34, 3) := by decide +kernel
theorem dX2_copyFrom_143 : decode cX2_copyFrom 143 = .ok (.putfield 34, 3) := by decide +kernel
theorem dX2_copyFrom_146 : decode cX2_copyFrom 146 = .ok (.aload_n 0, 1) := by decide +kernel
theorem dX2_copyFrom_147 : decode cX2_copyFrom 147 = .ok (.aload_n 1, 1) := by decide +kernel
theorem dX2_copyFrom_148 : decode cX2_copyFrom 148 = .ok (.getfield 37, 3) := by decide +kernel
theorem dX2_copyFrom_151 : decode cX2_copyFrom 151 = .ok (.putfield 37, 3) := by decide +kernel
theorem dX2_copyFrom_154 : decode cX2_copyFrom 154 = .ok (.aload_n 0, 1) := by decide +kernel
theorem dX2_copyFrom_155 : decode cX2_copyFrom 155 = .ok (.aload_n 1, 1) := by decide +kernel
theorem dX2_copyFrom_156 : decode cX2_copyFrom 156 = .ok (.getfield 61, 3) := by decide +kernel
theorem dX2_copyFrom_159 : decode cX2_copyFrom 159 = .ok (.putfield 61, 3) := by decide +kernel
theorem dX2_copyFrom_162 : decode cX2_copyFrom 162 = .ok (.aload_n 0, 1) := by decide +kernel
theorem dX2_copyFrom_163 : decode cX2_copyFrom 163 = .ok (.aload_n 1, 1) := by decide +kernel
theorem dX2_copyFrom_164 : decode cX2_copyFrom 164 = .ok (.getfield 64, 3) := by decide +kernel
theorem dX2_copyFrom_167 : decode cX2_copyFrom 167 = .ok (.putfield 64, 3) := by decide +kernel
theorem dX2_copyFrom_170 : decode cX2_copyFrom 170 = .ok (.aload_n 0, 1) := by decide +kernel
theorem dX2_copyFrom_171 : decode cX2_copyFrom 171 = .ok (.aload_n 1, 1) := by decide +kernel
theorem dX2_copyFrom_172 : decode cX2_copyFrom 172 = .ok (.getfield 68, 3) := by decide +kernel
theorem dX2_copyFrom_175 : decode cX2_copyFrom 175 = .ok (.putfield 68, 3) := by decide +kernel
theorem dX2_copyFrom_178 : decode cX2_copyFrom 178 = .ok (.aload_n 0, 1) := by decide +kernel
theorem dX2_copyFrom_179 : decode cX2_copyFrom 179 = .ok (.aload_n 1, 1) := by decide +kernel
theorem dX2_copyFrom_180 : decode cX2_copyFrom 180 = .ok (.getfield 72, 3) := by decide +kernel
theorem dX2_copyFrom_183 : decode cX2_copyFrom 183 = .ok (.putfield 72, 3) := by decide +kernel
theorem dX2_copyFrom_186 : decode cX2_copyFrom 186 = .ok (.return_, 1) := by decide +kernel
theorem dX2_takeLows_0 : decode cX2_takeLows 0 = .ok (.aload_n 0, 1) := by decide +kernel
theorem dX2_takeLows_1 : decode cX2_takeLows 1 = .ok (.aload_n 1, 1) := by decide +kernel
theorem dX2_takeLows_2 : decode cX2_takeLows 2 = .ok (.getfield 75, 3) := by decide +kernel
theorem dX2_takeLows_5 : decode cX2_takeLows 5 = .ok (.putfield 27, 3) := by decide +kernel
theorem dX2_takeLows_8 : decode cX2_takeLows 8 = .ok (.aload_n 0, 1) := by decide +kernel
theorem dX2_takeLows_9 : decode cX2_takeLows 9 = .ok (.sipush 300, 3) := by decide +kernel
theorem dX2_takeLows_12 : decode cX2_takeLows 12 = .ok (.putfield 55, 3) := by decide +kernel
theorem dX2_takeLows_15 : decode cX2_takeLows 15 = .ok (.iconst 0, 1) := by decide +kernel
theorem dX2_takeLows_16 : decode cX2_takeLows 16 = .ok (.istore_n 2, 1) := by decide +kernel
theorem dX2_takeLows_17 : decode cX2_takeLows 17 = .ok (.iload_n 2, 1) := by decide +kernel
theorem dX2_takeLows_18 : decode cX2_takeLows 18 = .ok (.aload_n 0, 1) := by decide +kernel
theorem dX2_takeLows_19 : decode cX2_takeLows 19 = .ok (.getfield 27, 3) := by decide +kernel
theorem dX2_takeLows_22 : decode cX2_takeLows 22 = .ok (.if_icmp .ge 38, 3) := by decide +kernel
theorem dX2_takeLows_25 : decode cX2_takeLows 25 = .ok (.aload_n 0, 1) := by decide +kernel
theorem dX2_takeLows_26 : decode cX2_takeLows 26 = .ok (.getfield 23, 3) := by decide +kernel
theorem dX2_takeLows_29 : decode cX2_takeLows 29 = .ok (.iload_n 2, 1) := by decide +kernel
theorem dX2_takeLows_30 : decode cX2_takeLows 30 = .ok (.aload_n 1, 1) := by decide +kernel
theorem dX2_takeLows_31 : decode cX2_takeLows 31 = .ok (.getfield 80, 3) := by decide +kernel
theorem dX2_takeLows_34 : decode cX2_takeLows 34 = .ok (.iload_n 2, 1) := by decide +kernel
theorem dX2_takeLows_35 : decode cX2_takeLows 35 = .ok (.iaload, 1) := by decide +kernel
theorem dX2_takeLows_36 : decode cX2_takeLows 36 = .ok (.iastore, 1) := by decide +kernel
theorem dX2_takeLows_37 : decode cX2_takeLows 37 = .ok (.aload_n 0, 1) := by decide +kernel
theorem dX2_takeLows_38 : decode cX2_takeLows 38 = .ok (.aload_n 0, 1) := by decide +kernel
theorem dX2_takeLows_39 : decode cX2_takeLows 39 = .ok (.getfield 55, 3) := by decide +kernel
theorem dX2_takeLows_42 : decode cX2_takeLows 42 = .ok (.aload_n 0, 1) := by decide +kernel
theorem dX2_takeLows_43 : decode cX2_takeLows 43 = .ok (.getfield 23, 3) := by decide +kernel
theorem dX2_takeLows_46 : decode cX2_takeLows 46 = .ok (.iload_n 2, 1) := by decide +kernel
theorem dX2_takeLows_47 : decode cX2_takeLows 47 = .ok (.iaload, 1) := by decide +kernel
theorem dX2_takeLows_48 : decode cX2_takeLows 48 = .ok (.invokestatic 83, 3) := by decide +kernel
theorem dX2_takeLows_51 : decode cX2_takeLows 51 = .ok (.putfield 55, 3) := by decide +kernel
theorem dX2_takeLows_54 : decode cX2_takeLows 54 = .ok (.iinc 2 1, 3) := by decide +kernel
theorem dX2_takeLows_57 : decode cX2_takeLows 57 = .ok (.goto (-40), 3) := by decide +kernel
theorem dX2_takeLows_60 : decode cX2_takeLows 60 = .ok (.return_, 1) := by decide +kernel
theorem dX2_lowWater_0 : decode cX2_lowWater 0 = .ok (.iload_n 1, 1) := by decide +kernel
theorem dX2_lowWater_1 : decode cX2_lowWater 1 = .ok (.ifCond .lt 11, 3) := by decide +kernel
theorem dX2_lowWater_4 : decode cX2_lowWater 4 = .ok (.aload_n 0, 1) := by decide +kernel
theorem dX2_lowWater_5 : decode cX2_lowWater 5 = .ok (.getfield 27, 3) := by decide +kernel
theorem dX2_lowWater_8 : decode cX2_lowWater 8 = .ok (.iconst 1, 1) := by decide +kernel
theorem dX2_lowWater_9 : decode cX2_lowWater 9 = .ok (.if_icmp .ge 7, 3) := by decide +kernel
theorem dX2_lowWater_12 : decode cX2_lowWater 12 = .ok (.iconst 0, 1) := by decide +kernel
theorem dX2_lowWater_13 : decode cX2_lowWater 13 = .ok (.goto 14, 3) := by decide +kernel
theorem dX2_lowWater_16 : decode cX2_lowWater 16 = .ok (.aload_n 0, 1) := by decide +kernel
theorem dX2_lowWater_17 : decode cX2_lowWater 17 = .ok (.getfield 23, 3) := by decide +kernel
theorem dX2_lowWater_20 : decode cX2_lowWater 20 = .ok (.iload_n 1, 1) := by decide +kernel
theorem dX2_lowWater_21 : decode cX2_lowWater 21 = .ok (.aload_n 0, 1) := by decide +kernel
theorem dX2_lowWater_22 : decode cX2_lowWater 22 = .ok (.getfield 27, 3) := by decide +kernel
theorem dX2_lowWater_25 : decode cX2_lowWater 25 = .ok (.irem, 1) := by decide +kernel
theorem dX2_lowWater_26 : decode cX2_lowWater 26 = .ok (.iaload, 1) := by decide +kernel
theorem dX2_lowWater_27 : decode cX2_lowWater 27 = .ok (.ireturn, 1) := by decide +kernel
theorem dX2_lackOfWater_0 : decode cX2_lackOfWater 0 = .ok (.aload_n 1, 1) := by decide +kernel
theorem dX2_lackOfWater_1 : decode cX2_lackOfWater 1 = .ok (.getfield 89, 3) := by decide +kernel
theorem dX2_lackOfWater_4 : decode cX2_lackOfWater 4 = .ok (.aload_n 0, 1) := by decide +kernel
theorem dX2_lackOfWater_5 : decode cX2_lackOfWater 5 = .ok (.getfield 31, 3) := by decide +kernel
theorem dX2_lackOfWater_8 : decode cX2_lackOfWater 8 = .ok (.iadd, 1) := by decide +kernel
theorem dX2_lackOfWater_9 : decode cX2_lackOfWater 9 = .ok (.aload_n 2, 1) := by decide +kernel
theorem dX2_lackOfWater_10 : decode cX2_lackOfWater 10 = .ok (.getfield 92, 3) := by decide +kernel
theorem dX2_lackOfWater_13 : decode cX2_lackOfWater 13 = .ok (.aload_n 0, 1) := by decide +kernel
theorem dX2_lackOfWater_14 : decode cX2_lackOfWater 14 = .ok (.getfield 55, 3) := by decide +kernel
theorem dX2_lackOfWater_17 : decode cX2_lackOfWater 17 = .ok (.iadd, 1) := by decide +kernel
theorem dX2_lackOfWater_18 : decode cX2_lackOfWater 18 = .ok (.isub, 1) := by decide +kernel
theorem dX2_lackOfWater_19 : decode cX2_lackOfWater 19 = .ok (.ireturn, 1) := by decide +kernel
theorem dX2_suits_0 : decode cX2_suits 0 = .ok (.aload_n 1, 1) := by decide +kernel
theorem dX2_suits_1 : decode cX2_suits 1 = .ok (.getfield 95, 3) := by decide +kernel
theorem dX2_suits_4 : decode cX2_suits 4 = .ok (.aload_n 2, 1) := by decide +kernel
theorem dX2_suits_5 : decode cX2_suits 5 = .ok (.getfield 98, 3) := by decide +kernel
theorem dX2_suits_8 : decode cX2_suits 8 = .ok (.if_icmp .gt 16, 3) := by decide +kernel
theorem dX2_suits_11 : decode cX2_suits 11 = .ok (.aload_n 0, 1) := by decide +kernel
theorem dX2_suits_12 : decode cX2_suits 12 = .ok (.aload_n 1, 1) := by decide +kernel
theorem dX2_suits_13 : decode cX2_suits 13 = .ok (.aload_n 2, 1) := by decide +kernel
theorem dX2_suits_14 : decode cX2_suits 14 = .ok (.invokevirtual 99, 3) := by decide +kernel
theorem dX2_suits_17 : decode cX2_suits 17 = .ok (.ifCond .gt 7, 3) := by decide +kernel
theorem dX2_suits_20 : decode cX2_suits 20 = .ok (.iconst 1, 1) := by decide +kernel
theorem dX2_suits_21 : decode cX2_suits 21 = .ok (.goto 4, 3) := by decide +kernel
theorem dX2_suits_24 : decode cX2_suits 24 = .ok (.iconst 0, 1) := by decide +kernel
theorem dX2_suits_25 : decode cX2_suits 25 = .ok (.ireturn, 1) := by decide +kernel
theorem dX2_suitsBerthOf_0 : decode cX2_suitsBerthOf 0 = .ok (.aload_n 0, 1) := by decide +kernel
theorem dX2_suitsBerthOf_1 : decode cX2_suitsBerthOf 1 = .ok (.aload_n 2, 1) := by decide +kernel
theorem dX2_suitsBerthOf_2 : decode cX2_suitsBerthOf 2 = .ok (.invokevirtual 103, 3) := by decide +kernel
theorem dX2_suitsBerthOf_5 : decode cX2_suitsBerthOf 5 = .ok (.astore_n 3, 1) := by decide +kernel
theorem dX2_suitsBerthOf_6 : decode cX2_suitsBerthOf 6 = .ok (.aload_n 3, 1) := by decide +kernel
theorem dX2_suitsBerthOf_7 : decode cX2_suitsBerthOf 7 = .ok (.ifnull 16, 3) := by decide +kernel
theorem dX2_suitsBerthOf_10 : decode cX2_suitsBerthOf 10 = .ok (.aload_n 0, 1) := by decide +kernel
theorem dX2_suitsBerthOf_11 : decode cX2_suitsBerthOf 11 = .ok (.aload_n 1, 1) := by decide +kernel
theorem dX2_suitsBerthOf_12 : decode cX2_suitsBerthOf 12 = .ok (.aload_n 3, 1) := by decide +kernel
theorem dX2_suitsBerthOf_13 : decode cX2_suitsBerthOf 13 = .ok (.invokevirtual 107, 3) := by decide +kernel
theorem dX2_suitsBerthOf_16 : decode cX2_suitsBerthOf 16 = .ok (.ifCond .eq 7, 3) := by decide +kernel
theorem dX2_suitsBerthOf_19 : decode cX2_suitsBerthOf 19 = .ok (.iconst 1, 1) := by decide +kernel
theorem dX2_suitsBerthOf_20 : decode cX2_suitsBerthOf 20 = .ok (.goto 4, 3) := by decide +kernel
theorem dX2_suitsBerthOf_23 : decode cX2_suitsBerthOf 23 = .ok (.iconst 0, 1) := by decide +kernel
theorem dX2_suitsBerthOf_24 : decode cX2_suitsBerthOf 24 = .ok (.ireturn, 1) := by decide +kernel
theorem dX2_isWhereItFits_0 : decode cX2_isWhereItFits 0 = .ok (.aload_n 0, 1) := by decide +kernel
theorem dX2_isWhereItFits_1 : decode cX2_isWhereItFits 1 = .ok (.aload_n 1, 1) := by decide +kernel
theorem dX2_isWhereItFits_2 : decode cX2_isWhereItFits 2 = .ok (.invokevirtual 103, 3) := by decide +kernel
theorem dX2_isWhereItFits_5 : decode cX2_isWhereItFits 5 = .ok (.astore_n 2, 1) := by decide +kernel
theorem dX2_isWhereItFits_6 : decode cX2_isWhereItFits 6 = .ok (.aload_n 2, 1) := by decide +kernel
theorem dX2_isWhereItFits_7 : decode cX2_isWhereItFits 7 = .ok (.ifnull 12, 3) := by decide +kernel
theorem dX2_isWhereItFits_10 : decode cX2_isWhereItFits 10 = .ok (.aload_n 0, 1) := by decide +kernel
theorem dX2_isWhereItFits_11 : decode cX2_isWhereItFits 11 = .ok (.aload_n 1, 1) := by decide +kernel
theorem dX2_isWhereItFits_12 : decode cX2_isWhereItFits 12 = .ok (.aload_n 2, 1) := by decide +kernel
theorem dX2_isWhereItFits_13 : decode cX2_isWhereItFits 13 = .ok (.invokevirtual 107, 3) := by decide +kernel
theorem dX2_isWhereItFits_16 : decode cX2_isWhereItFits 16 = .ok (.ifCond .eq 7, 3) := by decide +kernel
theorem dX2_isWhereItFits_19 : decode cX2_isWhereItFits 19 = .ok (.iconst 1, 1) := by decide +kernel
theorem dX2_isWhereItFits_20 : decode cX2_isWhereItFits 20 = .ok (.goto 4, 3) := by decide +kernel
theorem dX2_isWhereItFits_23 : decode cX2_isWhereItFits 23 = .ok (.iconst 0, 1) := by decide +kernel
theorem dX2_isWhereItFits_24 : decode cX2_isWhereItFits 24 = .ok (.ireturn, 1) := by decide +kernel
theorem dX2_berthOf_0 : decode cX2_berthOf 0 = .ok (.aload_n 1, 1) := by decide +kernel
theorem dX2_berthOf_1 : decode cX2_berthOf 1 = .ok (.getfield 111, 3) := by decide +kernel
theorem dX2_berthOf_4 : decode cX2_berthOf 4 = .ok (.ifCond .lt 14, 3) := by decide +kernel
theorem dX2_berthOf_7 : decode cX2_berthOf 7 = .ok (.aload_n 1, 1) := by decide +kernel
theorem dX2_berthOf_8 : decode cX2_berthOf 8 = .ok (.getfield 111, 3) := by decide +kernel
theorem dX2_berthOf_11 : decode cX2_berthOf 11 = .ok (.aload_n 0, 1) := by decide +kernel
theorem dX2_berthOf_12 : decode cX2_berthOf 12 = .ok (.getfield 42, 3) := by decide +kernel
theorem dX2_berthOf_15 : decode cX2_berthOf 15 = .ok (.if_icmp .lt 7, 3) := by decide +kernel
theorem dX2_berthOf_18 : decode cX2_berthOf 18 = .ok (.aconst_null, 1) := by decide +kernel
theorem dX2_berthOf_19 : decode cX2_berthOf 19 = .ok (.goto 12, 3) := by decide +kernel
theorem dX2_berthOf_22 : decode cX2_berthOf 22 = .ok (.aload_n 0, 1) := by decide +kernel
theorem dX2_berthOf_23 : decode cX2_berthOf 23 = .ok (.getfield 11, 3) := by decide +kernel
theorem dX2_berthOf_26 : decode cX2_berthOf 26 = .ok (.aload_n 1, 1) := by decide +kernel
theorem dX2_berthOf_27 : decode cX2_berthOf 27 = .ok (.getfield 111, 3) := by decide +kernel
theorem dX2_berthOf_30 : decode cX2_berthOf 30 = .ok (.aaload, 1) := by decide +kernel
theorem dX2_berthOf_31 : decode cX2_berthOf 31 = .ok (.areturn, 1) := by decide +kernel
theorem dX2_boatIn_0 : decode cX2_boatIn 0 = .ok (.iconst 0, 1) := by decide +kernel
theorem dX2_boatIn_1 : decode cX2_boatIn 1 = .ok (.istore_n 2, 1) := by decide +kernel
theorem dX2_boatIn_2 : decode cX2_boatIn 2 = .ok (.iload_n 2, 1) := by decide +kernel
theorem dX2_boatIn_3 : decode cX2_boatIn 3 = .ok (.aload_n 0, 1) := by decide +kernel
theorem dX2_boatIn_4 : decode cX2_boatIn 4 = .ok (.getfield 49, 3) := by decide +kernel
theorem dX2_boatIn_7 : decode cX2_boatIn 7 = .ok (.if_icmp .ge 24, 3) := by decide +kernel
theorem dX2_boatIn_10 : decode cX2_boatIn 10 = .ok (.aload_n 0, 1) := by decide +kernel
theorem dX2_boatIn_11 : decode cX2_boatIn 11 = .ok (.getfield 19, 3) := by decide +kernel
theorem dX2_boatIn_14 : decode cX2_boatIn 14 = .ok (.iload_n 2, 1) := by decide +kernel
theorem dX2_boatIn_15 : decode cX2_boatIn 15 = .ok (.aaload, 1) := by decide +kernel
theorem dX2_boatIn_16 : decode cX2_boatIn 16 = .ok (.getfield 111, 3) := by decide +kernel
theorem dX2_boatIn_19 : decode cX2_boatIn 19 = .ok (.iload_n 1, 1) := by decide +kernel
theorem dX2_boatIn_20 : decode cX2_boatIn 20 = .ok (.if_icmp .ne 5, 3) := by decide +kernel
theorem dX2_boatIn_23 : decode cX2_boatIn 23 = .ok (.iload_n 2, 1) := by decide +kernel
theorem dX2_boatIn_24 : decode cX2_boatIn 24 = .ok (.ireturn, 1) := by decide +kernel
theorem dX2_boatIn_25 : decode cX2_boatIn 25 = .ok (.iinc 2 1, 3) := by decide +kernel
theorem dX2_boatIn_28 : decode cX2_boatIn 28 = .ok (.goto (-26), 3) := by decide +kernel
theorem dX2_boatIn_31 : decode cX2_boatIn 31 = .ok (.iconst (-1), 1) := by decide +kernel
theorem dX2_boatIn_32 : decode cX2_boatIn 32 = .ok (.ireturn, 1) := by decide +kernel
theorem dX2_isOpen_0 : decode cX2_isOpen 0 = .ok (.aload_n 0, 1) := by decide +kernel
theorem dX2_isOpen_1 : decode cX2_isOpen 1 = .ok (.iload_n 1, 1) := by decide +kernel
theorem dX2_isOpen_2 : decode cX2_isOpen 2 = .ok (.invokevirtual 114, 3) := by decide +kernel
theorem dX2_isOpen_5 : decode cX2_isOpen 5 = .ok (.iconst (-1), 1) := by decide +kernel
theorem dX2_isOpen_6 : decode cX2_isOpen 6 = .ok (.if_icmp .ne 26, 3) := by decide +kernel
theorem dX2_isOpen_9 : decode cX2_isOpen 9 = .ok (.aload_n 0, 1) := by decide +kernel
theorem dX2_isOpen_10 : decode cX2_isOpen 10 = .ok (.getfield 64, 3) := by decide +kernel
theorem dX2_isOpen_13 : decode cX2_isOpen 13 = .ok (.ifCond .eq 15, 3) := by decide +kernel
theorem dX2_isOpen_16 : decode cX2_isOpen 16 = .ok (.aload_n 0, 1) := by decide +kernel
theorem dX2_isOpen_17 : decode cX2_isOpen 17 = .ok (.getfield 11, 3) := by decide +kernel
theorem dX2_isOpen_20 : decode cX2_isOpen 20 = .ok (.iload_n 1, 1) := by decide +kernel
theorem dX2_isOpen_21 : decode cX2_isOpen 21 = .ok (.aaload, 1) := by decide +kernel
theorem dX2_isOpen_22 : decode cX2_isOpen 22 = .ok (.getfield 118, 3) := by decide +kernel
theorem dX2_isOpen_25 : decode cX2_isOpen 25 = .ok (.ifCond .ne 7, 3) := by decide +kernel
theorem dX2_isOpen_28 : decode cX2_isOpen 28 = .ok (.iconst 1, 1) := by decide +kernel
theorem dX2_isOpen_29 : decode cX2_isOpen 29 = .ok (.goto 4, 3) := by decide +kernel
theorem dX2_isOpen_32 : decode cX2_isOpen 32 = .ok (.iconst 0, 1) := by decide +kernel
theorem dX2_isOpen_33 : decode cX2_isOpen 33 = .ok (.ireturn, 1) := by decide +kernel
theorem dX2_countFitting_0 : decode cX2_countFitting 0 = .ok (.iconst 0, 1) := by decide +kernel
theorem dX2_countFitting_1 : decode cX2_countFitting 1 = .ok (.istore_n 2, 1) := by decide +kernel
theorem dX2_countFitting_2 : decode cX2_countFitting 2 = .ok (.iconst 0, 1) := by decide +kernel
theorem dX2_countFitting_3 : decode cX2_countFitting 3 = .ok (.istore_n 3, 1) := by decide +kernel
theorem dX2_countFitting_4 : decode cX2_countFitting 4 = .ok (.iload_n 3, 1) := by decide +kernel
theorem dX2_countFitting_5 : decode cX2_countFitting 5 = .ok (.aload_n 0, 1) := by decide +kernel
theorem dX2_countFitting_6 : decode cX2_countFitting 6 = .ok (.getfield 49, 3) := by decide +kernel
theorem dX2_countFitting_9 : decode cX2_countFitting 9 = .ok (.if_icmp .ge 26, 3) := by decide +kernel
theorem dX2_countFitting_12 : decode cX2_countFitting 12 = .ok (.aload_n 0, 1) := by decide +kernel
theorem dX2_countFitting_13 : decode cX2_countFitting 13 = .ok (.aload_n 0, 1) := by decide +kernel
theorem dX2_countFitting_14 : decode cX2_countFitting 14 = .ok (.getfield 19, 3) := by decide +kernel
theorem dX2_countFitting_17 : decode cX2_countFitting 17 = .ok (.iload_n 3, 1) := by decide +kernel
theorem dX2_countFitting_18 : decode cX2_countFitting 18 = .ok (.aaload, 1) := by decide +kernel
theorem dX2_countFitting_19 : decode cX2_countFitting 19 = .ok (.aload_n 1, 1) := by decide +kernel
theorem dX2_countFitting_20 : decode cX2_countFitting 20 = .ok (.invokevirtual 107, 3) := by decide +kernel
theorem dX2_countFitting_23 : decode cX2_countFitting 23 = .ok (.ifCond .eq 6, 3) := by decide +kernel
theorem dX2_countFitting_26 : decode cX2_countFitting 26 = .ok (.iinc 2 1, 3) := by decide +kernel
theorem dX2_countFitting_29 : decode cX2_countFitting 29 = .ok (.iinc 3 1, 3) := by decide +kernel
theorem dX2_countFitting_32 : decode cX2_countFitting 32 = .ok (.goto (-28), 3) := by decide +kernel
theorem dX2_countFitting_35 : decode cX2_countFitting 35 = .ok (.iload_n 2, 1) := by decide +kernel
theorem dX2_countFitting_36 : decode cX2_countFitting 36 = .ok (.ireturn, 1) := by decide +kernel
theorem dX2_countIn_0 : decode cX2_countIn 0 = .ok (.iconst 0, 1) := by decide +kernel
theorem dX2_countIn_1 : decode cX2_countIn 1 = .ok (.istore_n 2, 1) := by decide +kernel
theorem dX2_countIn_2 : decode cX2_countIn 2 = .ok (.iconst 0, 1) := by decide +kernel
theorem dX2_countIn_3 : decode cX2_countIn 3 = .ok (.istore_n 3, 1) := by decide +kernel
theorem dX2_countIn_4 : decode cX2_countIn 4 = .ok (.iload_n 3, 1) := by decide +kernel
theorem dX2_countIn_5 : decode cX2_countIn 5 = .ok (.aload_n 0, 1) := by decide +kernel
theorem dX2_countIn_6 : decode cX2_countIn 6 = .ok (.getfield 49, 3) := by decide +kernel
theorem dX2_countIn_9 : decode cX2_countIn 9 = .ok (.if_icmp .ge 25, 3) := by decide +kernel
theorem dX2_countIn_12 : decode cX2_countIn 12 = .ok (.aload_n 0, 1) := by decide +kernel
theorem dX2_countIn_13 : decode cX2_countIn 13 = .ok (.getfield 19, 3) := by decide +kernel
theorem dX2_countIn_16 : decode cX2_countIn 16 = .ok (.iload_n 3, 1) := by decide +kernel
theorem dX2_countIn_17 : decode cX2_countIn 17 = .ok (.aaload, 1) := by decide +kernel
theorem dX2_countIn_18 : decode cX2_countIn 18 = .ok (.getfield 121, 3) := by decide +kernel
theorem dX2_countIn_21 : decode cX2_countIn 21 = .ok (.iload_n 1, 1) := by decide +kernel
theorem dX2_countIn_22 : decode cX2_countIn 22 = .ok (.if_icmp .ne 6, 3) := by decide +kernel
theorem dX2_countIn_25 : decode cX2_countIn 25 = .ok (.iinc 2 1, 3) := by decide +kernel
theorem dX2_countIn_28 : decode cX2_countIn 28 = .ok (.iinc 3 1, 3) := by decide +kernel
theorem dX2_countIn_31 : decode cX2_countIn 31 = .ok (.goto (-27), 3) := by decide +kernel
theorem dX2_countIn_34 : decode cX2_countIn 34 = .ok (.iload_n 2, 1) := by decide +kernel
theorem dX2_countIn_35 : decode cX2_countIn 35 = .ok (.ireturn, 1) := by decide +kernel
theorem dX2_bestBerthFor_0 : decode cX2_bestBerthFor 0 = .ok (.iconst (-1), 1) := by decide +kernel
theorem dX2_bestBerthFor_1 : decode cX2_bestBerthFor 1 = .ok (.istore_n 2, 1) := by decide +kernel
theorem dX2_bestBerthFor_2 : decode cX2_bestBerthFor 2 = .ok (.iconst 0, 1) := by decide +kernel
theorem dX2_bestBerthFor_3 : decode cX2_bestBerthFor 3 = .ok (.istore_n 3, 1) := by decide +kernel
theorem dX2_bestBerthFor_4 : decode cX2_bestBerthFor 4 = .ok (.iload_n 3, 1) := by decide +kernel
theorem dX2_bestBerthFor_5 : decode cX2_bestBerthFor 5 = .ok (.aload_n 0, 1) := by decide +kernel
theorem dX2_bestBerthFor_6 : decode cX2_bestBerthFor 6 = .ok (.getfield 42, 3) := by decide +kernel
theorem dX2_bestBerthFor_9 : decode cX2_bestBerthFor 9 = .ok (.if_icmp .ge 56, 3) := by decide +kernel
theorem dX2_bestBerthFor_12 : decode cX2_bestBerthFor 12 = .ok (.aload_n 0, 1) := by decide +kernel
theorem dX2_bestBerthFor_13 : decode cX2_bestBerthFor 13 = .ok (.iload_n 3, 1) := by decide +kernel
theorem dX2_bestBerthFor_14 : decode cX2_bestBerthFor 14 = .ok (.invokevirtual 124, 3) := by decide +kernel
theorem dX2_bestBerthFor_17 : decode cX2_bestBerthFor 17 = .ok (.ifCond .eq 42, 3) := by decide +kernel
theorem dX2_bestBerthFor_20 : decode cX2_bestBerthFor 20 = .ok (.aload_n 0, 1) := by decide +kernel
theorem dX2_bestBerthFor_21 : decode cX2_bestBerthFor 21 = .ok (.aload_n 1, 1) := by decide +kernel
theorem dX2_bestBerthFor_22 : decode cX2_bestBerthFor 22 = .ok (.aload_n 0, 1) := by decide +kernel
theorem dX2_bestBerthFor_23 : decode cX2_bestBerthFor 23 = .ok (.getfield 11, 3) := by decide +kernel
theorem dX2_bestBerthFor_26 : decode cX2_bestBerthFor 26 = .ok (.iload_n 3, 1) := by decide +kernel
theorem dX2_bestBerthFor_27 : decode cX2_bestBerthFor 27 = .ok (.aaload, 1) := by decide +kernel
theorem dX2_bestBerthFor_28 : decode cX2_bestBerthFor 28 = .ok (.invokevirtual 107, 3) := by decide +kernel
theorem dX2_bestBerthFor_31 : decode cX2_bestBerthFor 31 = .ok (.ifCond .eq 28, 3) := by decide +kernel
theorem dX2_bestBerthFor_34 : decode cX2_bestBerthFor 34 = .ok (.iload_n 2, 1) := by decide +kernel
theorem dX2_bestBerthFor_35 : decode cX2_bestBerthFor 35 = .ok (.iconst (-1), 1) := by decide +kernel
theorem dX2_bestBerthFor_36 : decode cX2_bestBerthFor 36 = .ok (.if_icmp .eq 21, 3) := by decide +kernel
theorem dX2_bestBerthFor_39 : decode cX2_bestBerthFor 39 = .ok (.aload_n 0, 1) := by decide +kernel
theorem dX2_bestBerthFor_40 : decode cX2_bestBerthFor 40 = .ok (.getfield 11, 3) := by decide +kernel
theorem dX2_bestBerthFor_43 : decode cX2_bestBerthFor 43 = .ok (.iload_n 3, 1) := by decide +kernel
theorem dX2_bestBerthFor_44 : decode cX2_bestBerthFor 44 = .ok (.aaload, 1) := by decide +kernel
theorem dX2_bestBerthFor_45 : decode cX2_bestBerthFor 45 = .ok (.aload_n 0, 1) := by decide +kernel
theorem dX2_bestBerthFor_46 : decode cX2_bestBerthFor 46 = .ok (.getfield 11, 3) := by decide +kernel
theorem dX2_bestBerthFor_49 : decode cX2_bestBerthFor 49 = .ok (.iload_n 2, 1) := by decide +kernel
theorem dX2_bestBerthFor_50 : decode cX2_bestBerthFor 50 = .ok (.aaload, 1) := by decide +kernel
theorem dX2_bestBerthFor_51 : decode cX2_bestBerthFor 51 = .ok (.invokevirtual 128, 3) := by decide +kernel
theorem dX2_bestBerthFor_54 : decode cX2_bestBerthFor 54 = .ok (.ifCond .eq 5, 3) := by decide +kernel
theorem dX2_bestBerthFor_57 : decode cX2_bestBerthFor 57 = .ok (.iload_n 3, 1) := by decide +kernel
theorem dX2_bestBerthFor_58 : decode cX2_bestBerthFor 58 = .ok (.istore_n 2, 1) := by decide +kernel
theorem dX2_bestBerthFor_59 : decode cX2_bestBerthFor 59 = .ok (.iinc 3 1, 3) := by decide +kernel
theorem dX2_bestBerthFor_62 : decode cX2_bestBerthFor 62 = .ok (.goto (-58), 3) := by decide +kernel
theorem dX2_bestBerthFor_65 : decode cX2_bestBerthFor 65 = .ok (.iload_n 2, 1) := by decide +kernel
theorem dX2_bestBerthFor_66 : decode cX2_bestBerthFor 66 = .ok (.ireturn, 1) := by decide +kernel
theorem dX2_isAground_0 : decode cX2_isAground 0 = .ok (.aload_n 0, 1) := by decide +kernel
theorem dX2_isAground_1 : decode cX2_isAground 1 = .ok (.aload_n 1, 1) := by decide +kernel
theorem dX2_isAground_2 : decode cX2_isAground 2 = .ok (.aload_n 0, 1) := by decide +kernel
theorem dX2_isAground_3 : decode cX2_isAground 3 = .ok (.getfield 61, 3) := by decide +kernel
theorem dX2_isAground_6 : decode cX2_isAground 6 = .ok (.invokevirtual 132, 3) := by decide +kernel
theorem dX2_isAground_9 : decode cX2_isAground 9 = .ok (.ireturn, 1) := by decide +kernel
theorem dX2_isAgroundOn_0 : decode cX2_isAgroundOn 0 = .ok (.aload_n 0, 1) := by decide +kernel
theorem dX2_isAgroundOn_1 : decode cX2_isAgroundOn 1 = .ok (.aload_n 1, 1) := by decide +kernel
theorem dX2_isAgroundOn_2 : decode cX2_isAgroundOn 2 = .ok (.invokevirtual 103, 3) := by decide +kernel
theorem dX2_isAgroundOn_5 : decode cX2_isAgroundOn 5 = .ok (.astore_n 3, 1) := by decide +kernel
theorem dX2_isAgroundOn_6 : decode cX2_isAgroundOn 6 = .ok (.aload_n 3, 1) := by decide +kernel
theorem dX2_isAgroundOn_7 : decode cX2_isAgroundOn 7 = .ok (.ifnull 24, 3) := by decide +kernel
theorem dX2_isAgroundOn_10 : decode cX2_isAgroundOn 10 = .ok (.aload_n 1, 1) := by decide +kernel
theorem dX2_isAgroundOn_11 : decode cX2_isAgroundOn 11 = .ok (.getfield 89, 3) := by decide +kernel
theorem dX2_isAgroundOn_14 : decode cX2_isAgroundOn 14 = .ok (.aload_n 3, 1) := by decide +kernel
theorem dX2_isAgroundOn_15 : decode cX2_isAgroundOn 15 = .ok (.getfield 92, 3) := by decide +kernel
theorem dX2_isAgroundOn_18 : decode cX2_isAgroundOn 18 = .ok (.aload_n 0, 1) := by decide +kernel
theorem dX2_isAgroundOn_19 : decode cX2_isAgroundOn 19 = .ok (.iload_n 2, 1) := by decide +kernel
theorem dX2_isAgroundOn_20 : decode cX2_isAgroundOn 20 = .ok (.invokevirtual 136, 3) := by decide +kernel
theorem dX2_isAgroundOn_23 : decode cX2_isAgroundOn 23 = .ok (.iadd, 1) := by decide +kernel
theorem dX2_isAgroundOn_24 : decode cX2_isAgroundOn 24 = .ok (.if_icmp .le 7, 3) := by decide +kernel
theorem dX2_isAgroundOn_27 : decode cX2_isAgroundOn 27 = .ok (.iconst 1, 1) := by decide +kernel
theorem dX2_isAgroundOn_28 : decode cX2_isAgroundOn 28 = .ok (.goto 4, 3) := by decide +kernel
theorem dX2_isAgroundOn_31 : decode cX2_isAgroundOn 31 = .ok (.iconst 0, 1) := by decide +kernel
theorem dX2_isAgroundOn_32 : decode cX2_isAgroundOn 32 = .ok (.ireturn, 1) := by decide +kernel
theorem dX2_countAground_0 : decode cX2_countAground 0 = .ok (.iconst 0, 1) := by decide +kernel
theorem dX2_countAground_1 : decode cX2_countAground 1 = .ok (.istore_n 1, 1) := by decide +kernel
theorem dX2_countAground_2 : decode cX2_countAground 2 = .ok (.iconst 0, 1) := by decide +kernel
theorem dX2_countAground_3 : decode cX2_countAground 3 = .ok (.istore_n 2, 1) := by decide +kernel
theorem dX2_countAground_4 : decode cX2_countAground 4 = .ok (.iload_n 2, 1) := by decide +kernel
theorem dX2_countAground_5 : decode cX2_countAground 5 = .ok (.aload_n 0, 1) := by decide +kernel
theorem dX2_countAground_6 : decode cX2_countAground 6 = .ok (.getfield 49, 3) := by decide +kernel
theorem dX2_countAground_9 : decode cX2_countAground 9 = .ok (.if_icmp .ge 25, 3) := by decide +kernel
theorem dX2_countAground_12 : decode cX2_countAground 12 = .ok (.aload_n 0, 1) := by decide +kernel
theorem dX2_countAground_13 : decode cX2_countAground 13 = .ok (.aload_n 0, 1) := by decide +kernel
theorem dX2_countAground_14 : decode cX2_countAground 14 = .ok (.getfield 19, 3) := by decide +kernel
theorem dX2_countAground_17 : decode cX2_countAground 17 = .ok (.iload_n 2, 1) := by decide +kernel
theorem dX2_countAground_18 : decode cX2_countAground 18 = .ok (.aaload, 1) := by decide +kernel
theorem dX2_countAground_19 : decode cX2_countAground 19 = .ok (.invokevirtual 139, 3) := by decide +kernel
theorem dX2_countAground_22 : decode cX2_countAground 22 = .ok (.ifCond .eq 6, 3) := by decide +kernel
theorem dX2_countAground_25 : decode cX2_countAground 25 = .ok (.iinc 1 1, 3) := by decide +kernel
theorem dX2_countAground_28 : decode cX2_countAground 28 = .ok (.iinc 2 1, 3) := by decide +kernel
theorem dX2_countAground_31 : decode cX2_countAground 31 = .ok (.goto (-27), 3) := by decide +kernel
theorem dX2_countAground_34 : decode cX2_countAground 34 = .ok (.iload_n 1, 1) := by decide +kernel
theorem dX2_countAground_35 : decode cX2_countAground 35 = .ok (.ireturn, 1) := by decide +kernel
theorem dX2_daysUntilAground_0 : decode cX2_daysUntilAground 0 = .ok (.iconst 0, 1) := by decide +kernel
theorem dX2_daysUntilAground_1 : decode cX2_daysUntilAground 1 = .ok (.istore_n 2, 1) := by decide +kernel
theorem dX2_daysUntilAground_2 : decode cX2_daysUntilAground 2 = .ok (.iload_n 2, 1) := by decide +kernel
theorem dX2_daysUntilAground_3 : decode cX2_daysUntilAground 3 = .ok (.aload_n 0, 1) := by decide +kernel
theorem dX2_daysUntilAground_4 : decode cX2_daysUntilAground 4 = .ok (.getfield 27, 3) := by decide +kernel
theorem dX2_daysUntilAground_7 : decode cX2_daysUntilAground 7 = .ok (.if_icmp .ge 25, 3) := by decide +kernel
theorem dX2_daysUntilAground_10 : decode cX2_daysUntilAground 10 = .ok (.aload_n 0, 1) := by decide +kernel
theorem dX2_daysUntilAground_11 : decode cX2_daysUntilAground 11 = .ok (.aload_n 1, 1) := by decide +kernel
theorem dX2_daysUntilAground_12 : decode cX2_daysUntilAground 12 = .ok (.aload_n 0, 1) := by decide +kernel
theorem dX2_daysUntilAground_13 : decode cX2_daysUntilAground 13 = .ok (.getfield 61, 3) := by decide +kernel
theorem dX2_daysUntilAground_16 : decode cX2_daysUntilAground 16 = .ok (.iload_n 2, 1) := by decide +kernel
theorem dX2_daysUntilAground_17 : decode cX2_daysUntilAground 17 = .ok (.iadd, 1) := by decide +kernel
theorem dX2_daysUntilAground_18 : decode cX2_daysUntilAground 18 = .ok (.invokevirtual 132, 3) := by decide +kernel
theorem dX2_daysUntilAground_21 : decode cX2_daysUntilAground 21 = .ok (.ifCond .eq 5, 3) := by decide +kernel
theorem dX2_daysUntilAground_24 : decode cX2_daysUntilAground 24 = .ok (.iload_n 2, 1) := by decide +kernel
theorem dX2_daysUntilAground_25 : decode cX2_daysUntilAground 25 = .ok (.ireturn, 1) := by decide +kernel
theorem dX2_daysUntilAground_26 : decode cX2_daysUntilAground 26 = .ok (.iinc 2 1, 3) := by decide +kernel
theorem dX2_daysUntilAground_29 : decode cX2_daysUntilAground 29 = .ok (.goto (-27), 3) := by decide +kernel
theorem dX2_daysUntilAground_32 : decode cX2_daysUntilAground 32 = .ok (.iconst (-1), 1) := by decide +kernel
theorem dX2_daysUntilAground_33 : decode cX2_daysUntilAground 33 = .ok (.ireturn, 1) := by decide +kernel
theorem dX2_clearanceForAll_0 : decode cX2_clearanceForAll 0 = .ok (.bipush 100, 2) := by decide +kernel
theorem dX2_clearanceForAll_2 : decode cX2_clearanceForAll 2 = .ok (.istore_n 1, 1) := by decide +kernel
theorem dX2_clearanceForAll_3 : decode cX2_clearanceForAll 3 = .ok (.iconst 0, 1) := by decide +kernel
theorem dX2_clearanceForAll_4 : decode cX2_clearanceForAll 4 = .ok (.istore_n 2, 1) := by decide +kernel
theorem dX2_clearanceForAll_5 : decode cX2_clearanceForAll 5 = .ok (.iload_n 2, 1) := by decide +kernel
theorem dX2_clearanceForAll_6 : decode cX2_clearanceForAll 6 = .ok (.aload_n 0, 1) := by decide +kernel
theorem dX2_clearanceForAll_7 : decode cX2_clearanceForAll 7 = .ok (.getfield 49, 3) := by decide +kernel
theorem dX2_clearanceForAll_10 : decode cX2_clearanceForAll 10 = .ok (.if_icmp .ge 48, 3) := by decide +kernel
theorem dX2_clearanceForAll_13 : decode cX2_clearanceForAll 13 = .ok (.aload_n 0, 1) := by decide +kernel
theorem dX2_clearanceForAll_14 : decode cX2_clearanceForAll 14 = .ok (.aload_n 0, 1) := by decide +kernel
theorem dX2_clearanceForAll_15 : decode cX2_clearanceForAll 15 = .ok (.getfield 19, 3) := by decide +kernel
theorem dX2_clearanceForAll_18 : decode cX2_clearanceForAll 18 = .ok (.iload_n 2, 1) := by decide +kernel
theorem dX2_clearanceForAll_19 : decode cX2_clearanceForAll 19 = .ok (.aaload, 1) := by decide +kernel
theorem dX2_clearanceForAll_20 : decode cX2_clearanceForAll 20 = .ok (.invokevirtual 103, 3) := by decide +kernel
theorem dX2_clearanceForAll_23 : decode cX2_clearanceForAll 23 = .ok (.astore_n 3, 1) := by decide +kernel
theorem dX2_clearanceForAll_24 : decode cX2_clearanceForAll 24 = .ok (.aload_n 3, 1) := by decide +kernel
theorem dX2_clearanceForAll_25 : decode cX2_clearanceForAll 25 = .ok (.ifnull 27, 3) := by decide +kernel
theorem dX2_clearanceForAll_28 : decode cX2_clearanceForAll 28 = .ok (.iload_n 1, 1) := by decide +kernel
theorem dX2_clearanceForAll_29 : decode cX2_clearanceForAll 29 = .ok (.aload_n 3, 1) := by decide +kernel
theorem dX2_clearanceForAll_30 : decode cX2_clearanceForAll 30 = .ok (.getfield 92, 3) := by decide +kernel
theorem dX2_clearanceForAll_33 : decode cX2_clearanceForAll 33 = .ok (.aload_n 0, 1) := by decide +kernel
theorem dX2_clearanceForAll_34 : decode cX2_clearanceForAll 34 = .ok (.getfield 55, 3) := by decide +kernel
theorem dX2_clearanceForAll_37 : decode cX2_clearanceForAll 37 = .ok (.iadd, 1) := by decide +kernel
theorem dX2_clearanceForAll_38 : decode cX2_clearanceForAll 38 = .ok (.aload_n 0, 1) := by decide +kernel
theorem dX2_clearanceForAll_39 : decode cX2_clearanceForAll 39 = .ok (.getfield 19, 3) := by decide +kernel
theorem dX2_clearanceForAll_42 : decode cX2_clearanceForAll 42 = .ok (.iload_n 2, 1) := by decide +kernel
theorem dX2_clearanceForAll_43 : decode cX2_clearanceForAll 43 = .ok (.aaload, 1) := by decide +kernel
theorem dX2_clearanceForAll_44 : decode cX2_clearanceForAll 44 = .ok (.getfield 89, 3) := by decide +kernel
theorem dX2_clearanceForAll_47 : decode cX2_clearanceForAll 47 = .ok (.isub, 1) := by decide +kernel
theorem dX2_clearanceForAll_48 : decode cX2_clearanceForAll 48 = .ok (.invokestatic 83, 3) := by decide +kernel
theorem dX2_clearanceForAll_51 : decode cX2_clearanceForAll 51 = .ok (.istore_n 1, 1) := by decide +kernel
theorem dX2_clearanceForAll_52 : decode cX2_clearanceForAll 52 = .ok (.iinc 2 1, 3) := by decide +kernel
theorem dX2_clearanceForAll_55 : decode cX2_clearanceForAll 55 = .ok (.goto (-50), 3) := by decide +kernel
theorem dX2_clearanceForAll_58 : decode cX2_clearanceForAll 58 = .ok (.iload_n 1, 1) := by decide +kernel
theorem dX2_clearanceForAll_59 : decode cX2_clearanceForAll 59 = .ok (.ifCond .ge 7, 3) := by decide +kernel
theorem dX2_clearanceForAll_62 : decode cX2_clearanceForAll 62 = .ok (.iconst (-1), 1) := by decide +kernel
theorem dX2_clearanceForAll_63 : decode cX2_clearanceForAll 63 = .ok (.goto 4, 3) := by decide +kernel
theorem dX2_clearanceForAll_66 : decode cX2_clearanceForAll 66 = .ok (.iload_n 1, 1) := by decide +kernel
theorem dX2_clearanceForAll_67 : decode cX2_clearanceForAll 67 = .ok (.ireturn, 1) := by decide +kernel
theorem dX2_beginToWait_0 : decode cX2_beginToWait 0 = .ok (.aload_n 1, 1) := by decide +kernel
theorem dX2_beginToWait_1 : decode cX2_beginToWait 1 = .ok (.iconst 2, 1) := by decide +kernel
theorem dX2_beginToWait_2 : decode cX2_beginToWait 2 = .ok (.iconst (-1), 1) := by decide +kernel
theorem dX2_beginToWait_3 : decode cX2_beginToWait 3 = .ok (.invokevirtual 143, 3) := by decide +kernel
theorem dX2_beginToWait_6 : decode cX2_beginToWait 6 = .ok (.aload_n 1, 1) := by decide +kernel
theorem dX2_beginToWait_7 : decode cX2_beginToWait 7 = .ok (.aload_n 0, 1) := by decide +kernel
theorem dX2_beginToWait_8 : decode cX2_beginToWait 8 = .ok (.getfield 61, 3) := by decide +kernel
theorem dX2_beginToWait_11 : decode cX2_beginToWait 11 = .ok (.putfield 147, 3) := by decide +kernel
theorem dX2_beginToWait_14 : decode cX2_beginToWait 14 = .ok (.aload_n 1, 1) := by decide +kernel
theorem dX2_beginToWait_15 : decode cX2_beginToWait 15 = .ok (.aload_n 0, 1) := by decide +kernel
theorem dX2_beginToWait_16 : decode cX2_beginToWait 16 = .ok (.getfield 72, 3) := by decide +kernel
theorem dX2_beginToWait_19 : decode cX2_beginToWait 19 = .ok (.putfield 150, 3) := by decide +kernel
theorem dX2_beginToWait_22 : decode cX2_beginToWait 22 = .ok (.aload_n 0, 1) := by decide +kernel
theorem dX2_beginToWait_23 : decode cX2_beginToWait 23 = .ok (.dup, 1) := by decide +kernel
theorem dX2_beginToWait_24 : decode cX2_beginToWait 24 = .ok (.getfield 72, 3) := by decide +kernel
theorem dX2_beginToWait_27 : decode cX2_beginToWait 27 = .ok (.iconst 1, 1) := by decide +kernel
theorem dX2_beginToWait_28 : decode cX2_beginToWait 28 = .ok (.iadd, 1) := by decide +kernel
theorem dX2_beginToWait_29 : decode cX2_beginToWait 29 = .ok (.putfield 72, 3) := by decide +kernel
theorem dX2_beginToWait_32 : decode cX2_beginToWait 32 = .ok (.return_, 1) := by decide +kernel
theorem dX2_points_0 : decode cX2_points 0 = .ok (.aload_n 0, 1) := by decide +kernel
theorem dX2_points_1 : decode cX2_points 1 = .ok (.getfield 61, 3) := by decide +kernel
theorem dX2_points_4 : decode cX2_points 4 = .ok (.aload_n 1, 1) := by decide +kernel
theorem dX2_points_5 : decode cX2_points 5 = .ok (.getfield 147, 3) := by decide +kernel
theorem dX2_points_8 : decode cX2_points 8 = .ok (.isub, 1) := by decide +kernel
theorem dX2_points_9 : decode cX2_points 9 = .ok (.aload_n 1, 1) := by decide +kernel
theorem dX2_points_10 : decode cX2_points 10 = .ok (.getfield 153, 3) := by decide +kernel
theorem dX2_points_13 : decode cX2_points 13 = .ok (.iadd, 1) := by decide +kernel
theorem dX2_points_14 : decode cX2_points 14 = .ok (.ireturn, 1) := by decide +kernel
theorem dX2_isAhead_0 : decode cX2_isAhead 0 = .ok (.aload_n 0, 1) := by decide +kernel
theorem dX2_isAhead_1 : decode cX2_isAhead 1 = .ok (.aload_n 1, 1) := by decide +kernel
theorem dX2_isAhead_2 : decode cX2_isAhead 2 = .ok (.invokevirtual 156, 3) := by decide +kernel
theorem dX2_isAhead_5 : decode cX2_isAhead 5 = .ok (.aload_n 0, 1) := by decide +kernel
theorem dX2_isAhead_6 : decode cX2_isAhead 6 = .ok (.aload_n 2, 1) := by decide +kernel
theorem dX2_isAhead_7 : decode cX2_isAhead 7 = .ok (.invokevirtual 156, 3) := by decide +kernel
theorem dX2_isAhead_10 : decode cX2_isAhead 10 = .ok (.isub, 1) := by decide +kernel
theorem dX2_isAhead_11 : decode cX2_isAhead 11 = .ok (.istore_n 3, 1) := by decide +kernel
theorem dX2_isAhead_12 : decode cX2_isAhead 12 = .ok (.iload_n 3, 1) := by decide +kernel
theorem dX2_isAhead_13 : decode cX2_isAhead 13 = .ok (.ifCond .gt 18, 3) := by decide +kernel
theorem dX2_isAhead_16 : decode cX2_isAhead 16 = .ok (.iload_n 3, 1) := by decide +kernel
theorem dX2_isAhead_17 : decode cX2_isAhead 17 = .ok (.ifCond .ne 18, 3) := by decide +kernel
theorem dX2_isAhead_20 : decode cX2_isAhead 20 = .ok (.aload_n 1, 1) := by decide +kernel
theorem dX2_isAhead_21 : decode cX2_isAhead 21 = .ok (.getfield 150, 3) := by decide +kernel
theorem dX2_isAhead_24 : decode cX2_isAhead 24 = .ok (.aload_n 2, 1) := by decide +kernel
theorem dX2_isAhead_25 : decode cX2_isAhead 25 = .ok (.getfield 150, 3) := by decide +kernel
theorem dX2_isAhead_28 : decode cX2_isAhead 28 = .ok (.if_icmp .ge 7, 3) := by decide +kernel
theorem dX2_isAhead_31 : decode cX2_isAhead 31 = .ok (.iconst 1, 1) := by decide +kernel
theorem dX2_isAhead_32 : decode cX2_isAhead 32 = .ok (.goto 4, 3) := by decide +kernel
theorem dX2_isAhead_35 : decode cX2_isAhead 35 = .ok (.iconst 0, 1) := by decide +kernel
theorem dX2_isAhead_36 : decode cX2_isAhead 36 = .ok (.ireturn, 1) := by decide +kernel
theorem dX2_countAheadOf_0 : decode cX2_countAheadOf 0 = .ok (.iconst 0, 1) := by decide +kernel
theorem dX2_countAheadOf_1 : decode cX2_countAheadOf 1 = .ok (.istore_n 2, 1) := by decide +kernel
theorem dX2_countAheadOf_2 : decode cX2_countAheadOf 2 = .ok (.iconst 0, 1) := by decide +kernel
theorem dX2_countAheadOf_3 : decode cX2_countAheadOf 3 = .ok (.istore_n 3, 1) := by decide +kernel
theorem dX2_countAheadOf_4 : decode cX2_countAheadOf 4 = .ok (.iload_n 3, 1) := by decide +kernel
theorem dX2_countAheadOf_5 : decode cX2_countAheadOf 5 = .ok (.aload_n 0, 1) := by decide +kernel
theorem dX2_countAheadOf_6 : decode cX2_countAheadOf 6 = .ok (.getfield 49, 3) := by decide +kernel
theorem dX2_countAheadOf_9 : decode cX2_countAheadOf 9 = .ok (.if_icmp .ge 39, 3) := by decide +kernel
theorem dX2_countAheadOf_12 : decode cX2_countAheadOf 12 = .ok (.aload_n 0, 1) := by decide +kernel
theorem dX2_countAheadOf_13 : decode cX2_countAheadOf 13 = .ok (.getfield 19, 3) := by decide +kernel
theorem dX2_countAheadOf_16 : decode cX2_countAheadOf 16 = .ok (.iload_n 3, 1) := by decide +kernel
theorem dX2_countAheadOf_17 : decode cX2_countAheadOf 17 = .ok (.aaload, 1) := by decide +kernel
theorem dX2_countAheadOf_18 : decode cX2_countAheadOf 18 = .ok (.getfield 121, 3) := by decide +kernel
theorem dX2_countAheadOf_21 : decode cX2_countAheadOf 21 = .ok (.iconst 2, 1) := by decide +kernel
theorem dX2_countAheadOf_22 : decode cX2_countAheadOf 22 = .ok (.if_icmp .ne 20, 3) := by decide +kernel
theorem dX2_countAheadOf_25 : decode cX2_countAheadOf 25 = .ok (.aload_n 0, 1) := by decide +kernel
theorem dX2_countAheadOf_26 : decode cX2_countAheadOf 26 = .ok (.aload_n 0, 1) := by decide +kernel
theorem dX2_countAheadOf_27 : decode cX2_countAheadOf 27 = .ok (.getfield 19, 3) := by decide +kernel
theorem dX2_countAheadOf_30 : decode cX2_countAheadOf 30 = .ok (.iload_n 3, 1) := by decide +kernel
theorem dX2_countAheadOf_31 : decode cX2_countAheadOf 31 = .ok (.aaload, 1) := by decide +kernel
theorem dX2_countAheadOf_32 : decode cX2_countAheadOf 32 = .ok (.aload_n 1, 1) := by decide +kernel
theorem dX2_countAheadOf_33 : decode cX2_countAheadOf 33 = .ok (.invokevirtual 160, 3) := by decide +kernel
theorem dX2_countAheadOf_36 : decode cX2_countAheadOf 36 = .ok (.ifCond .eq 6, 3) := by decide +kernel
theorem dX2_countAheadOf_39 : decode cX2_countAheadOf 39 = .ok (.iinc 2 1, 3) := by decide +kernel
theorem dX2_countAheadOf_42 : decode cX2_countAheadOf 42 = .ok (.iinc 3 1, 3) := by decide +kernel
theorem dX2_countAheadOf_45 : decode cX2_countAheadOf 45 = .ok (.goto (-41), 3) := by decide +kernel
theorem dX2_countAheadOf_48 : decode cX2_countAheadOf 48 = .ok (.iload_n 2, 1) := by decide +kernel
theorem dX2_countAheadOf_49 : decode cX2_countAheadOf 49 = .ok (.ireturn, 1) := by decide +kernel
theorem dX2_waitingAt_0 : decode cX2_waitingAt 0 = .ok (.iconst 0, 1) := by decide +kernel
theorem dX2_waitingAt_1 : decode cX2_waitingAt 1 = .ok (.istore_n 2, 1) := by decide +kernel
theorem dX2_waitingAt_2 : decode cX2_waitingAt 2 = .ok (.iload_n 2, 1) := by decide +kernel
theorem dX2_waitingAt_3 : decode cX2_waitingAt 3 = .ok (.aload_n 0, 1) := by decide +kernel
theorem dX2_waitingAt_4 : decode cX2_waitingAt 4 = .ok (.getfield 49, 3) := by decide +kernel
theorem dX2_waitingAt_7 : decode cX2_waitingAt 7 = .ok (.if_icmp .ge 38, 3) := by decide +kernel
theorem dX2_waitingAt_10 : decode cX2_waitingAt 10 = .ok (.aload_n 0, 1) := by decide +kernel
theorem dX2_waitingAt_11 : decode cX2_waitingAt 11 = .ok (.getfield 19, 3) := by decide +kernel
theorem dX2_waitingAt_14 : decode cX2_waitingAt 14 = .ok (.iload_n 2, 1) := by decide +kernel
theorem dX2_waitingAt_15 : decode cX2_waitingAt 15 = .ok (.aaload, 1) := by decide +kernel
theorem dX2_waitingAt_16 : decode cX2_waitingAt 16 = .ok (.getfield 121, 3) := by decide +kernel
theorem dX2_waitingAt_19 : decode cX2_waitingAt 19 = .ok (.iconst 2, 1) := by decide +kernel
theorem dX2_waitingAt_20 : decode cX2_waitingAt 20 = .ok (.if_icmp .ne 19, 3) := by decide +kernel
theorem dX2_waitingAt_23 : decode cX2_waitingAt 23 = .ok (.aload_n 0, 1) := by decide +kernel
theorem dX2_waitingAt_24 : decode cX2_waitingAt 24 = .ok (.aload_n 0, 1) := by decide +kernel
theorem dX2_waitingAt_25 : decode cX2_waitingAt 25 = .ok (.getfield 19, 3) := by decide +kernel
theorem dX2_waitingAt_28 : decode cX2_waitingAt 28 = .ok (.iload_n 2, 1) := by decide +kernel
theorem dX2_waitingAt_29 : decode cX2_waitingAt 29 = .ok (.aaload, 1) := by decide +kernel
theorem dX2_waitingAt_30 : decode cX2_waitingAt 30 = .ok (.invokevirtual 164, 3) := by decide +kernel
theorem dX2_waitingAt_33 : decode cX2_waitingAt 33 = .ok (.iload_n 1, 1) := by decide +kernel
theorem dX2_waitingAt_34 : decode cX2_waitingAt 34 = .ok (.if_icmp .ne 5, 3) := by decide +kernel
theorem dX2_waitingAt_37 : decode cX2_waitingAt 37 = .ok (.iload_n 2, 1) := by decide +kernel
theorem dX2_waitingAt_38 : decode cX2_waitingAt 38 = .ok (.ireturn, 1) := by decide +kernel
theorem dX2_waitingAt_39 : decode cX2_waitingAt 39 = .ok (.iinc 2 1, 3) := by decide +kernel
theorem dX2_waitingAt_42 : decode cX2_waitingAt 42 = .ok (.goto (-40), 3) := by decide +kernel
theorem dX2_waitingAt_45 : decode cX2_waitingAt 45 = .ok (.iconst (-1), 1) := by decide +kernel
theorem dX2_waitingAt_46 : decode cX2_waitingAt 46 = .ok (.ireturn, 1) := by decide +kernel
theorem dX2_firstWaitingFor_0 : decode cX2_firstWaitingFor 0 = .ok (.iconst (-1), 1) := by decide +kernel
theorem dX2_firstWaitingFor_1 : decode cX2_firstWaitingFor 1 = .ok (.istore_n 2, 1) := by decide +kernel
theorem dX2_firstWaitingFor_2 : decode cX2_firstWaitingFor 2 = .ok (.iconst 0, 1) := by decide +kernel
theorem dX2_firstWaitingFor_3 : decode cX2_firstWaitingFor 3 = .ok (.istore_n 3, 1) := by decide +kernel
theorem dX2_firstWaitingFor_4 : decode cX2_firstWaitingFor 4 = .ok (.iload_n 3, 1) := by decide +kernel
theorem dX2_firstWaitingFor_5 : decode cX2_firstWaitingFor 5 = .ok (.aload_n 0, 1) := by decide +kernel
theorem dX2_firstWaitingFor_6 : decode cX2_firstWaitingFor 6 = .ok (.getfield 49, 3) := by decide +kernel
theorem dX2_firstWaitingFor_9 : decode cX2_firstWaitingFor 9 = .ok (.if_icmp .ge 62, 3) := by decide +kernel
theorem dX2_firstWaitingFor_12 : decode cX2_firstWaitingFor 12 = .ok (.aload_n 0, 1) := by decide +kernel
theorem dX2_firstWaitingFor_13 : decode cX2_firstWaitingFor 13 = .ok (.getfield 19, 3) := by decide +kernel
theorem dX2_firstWaitingFor_16 : decode cX2_firstWaitingFor 16 = .ok (.iload_n 3, 1) := by decide +kernel
theorem dX2_firstWaitingFor_17 : decode cX2_firstWaitingFor 17 = .ok (.aaload, 1) := by decide +kernel
theorem dX2_firstWaitingFor_18 : decode cX2_firstWaitingFor 18 = .ok (.getfield 121, 3) := by decide +kernel
theorem dX2_firstWaitingFor_21 : decode cX2_firstWaitingFor 21 = .ok (.iconst 2, 1) := by decide +kernel
theorem dX2_firstWaitingFor_22 : decode cX2_firstWaitingFor 22 = .ok (.if_icmp .ne 43, 3) := by decide +kernel
theorem dX2_firstWaitingFor_25 : decode cX2_firstWaitingFor 25 = .ok (.aload_n 0, 1) := by decide +kernel
theorem dX2_firstWaitingFor_26 : decode cX2_firstWaitingFor 26 = .ok (.aload_n 0, 1) := by decide +kernel
theorem dX2_firstWaitingFor_27 : decode cX2_firstWaitingFor 27 = .ok (.getfield 19, 3) := by decide +kernel
theorem dX2_firstWaitingFor_30 : decode cX2_firstWaitingFor 30 = .ok (.iload_n 3, 1) := by decide +kernel
theorem dX2_firstWaitingFor_31 : decode cX2_firstWaitingFor 31 = .ok (.aaload, 1) := by decide +kernel
theorem dX2_firstWaitingFor_32 : decode cX2_firstWaitingFor 32 = .ok (.aload_n 1, 1) := by decide +kernel
theorem dX2_firstWaitingFor_33 : decode cX2_firstWaitingFor 33 = .ok (.invokevirtual 107, 3) := by decide +kernel
theorem dX2_firstWaitingFor_36 : decode cX2_firstWaitingFor 36 = .ok (.ifCond .eq 29, 3) := by decide +kernel
theorem dX2_firstWaitingFor_39 : decode cX2_firstWaitingFor 39 = .ok (.iload_n 2, 1) := by decide +kernel
theorem dX2_firstWaitingFor_40 : decode cX2_firstWaitingFor 40 = .ok (.iconst (-1), 1) := by decide +kernel
theorem dX2_firstWaitingFor_41 : decode cX2_firstWaitingFor 41 = .ok (.if_icmp .eq 22, 3) := by decide +kernel
theorem dX2_firstWaitingFor_44 : decode cX2_firstWaitingFor 44 = .ok (.aload_n 0, 1) := by decide +kernel
theorem dX2_firstWaitingFor_45 : decode cX2_firstWaitingFor 45 = .ok (.aload_n 0, 1) := by decide +kernel
theorem dX2_firstWaitingFor_46 : decode cX2_firstWaitingFor 46 = .ok (.getfield 19, 3) := by decide +kernel
theorem dX2_firstWaitingFor_49 : decode cX2_firstWaitingFor 49 = .ok (.iload_n 3, 1) := by decide +kernel
theorem dX2_firstWaitingFor_50 : decode cX2_firstWaitingFor 50 = .ok (.aaload, 1) := by decide +kernel
theorem dX2_firstWaitingFor_51 : decode cX2_firstWaitingFor 51 = .ok (.aload_n 0, 1) := by decide +kernel
theorem dX2_firstWaitingFor_52 : decode cX2_firstWaitingFor 52 = .ok (.getfield 19, 3) := by decide +kernel
theorem dX2_firstWaitingFor_55 : decode cX2_firstWaitingFor 55 = .ok (.iload_n 2, 1) := by decide +kernel
theorem dX2_firstWaitingFor_56 : decode cX2_firstWaitingFor 56 = .ok (.aaload, 1) := by decide +kernel
theorem dX2_firstWaitingFor_57 : decode cX2_firstWaitingFor 57 = .ok (.invokevirtual 160, 3) := by decide +kernel
theorem dX2_firstWaitingFor_60 : decode cX2_firstWaitingFor 60 = .ok (.ifCond .eq 5, 3) := by decide +kernel
theorem dX2_firstWaitingFor_63 : decode cX2_firstWaitingFor 63 = .ok (.iload_n 3, 1) := by decide +kernel
theorem dX2_firstWaitingFor_64 : decode cX2_firstWaitingFor 64 = .ok (.istore_n 2, 1) := by decide +kernel
theorem dX2_firstWaitingFor_65 : decode cX2_firstWaitingFor 65 = .ok (.iinc 3 1, 3) := by decide +kernel
theorem dX2_firstWaitingFor_68 : decode cX2_firstWaitingFor 68 = .ok (.goto (-64), 3) := by decide +kernel
theorem dX2_firstWaitingFor_71 : decode cX2_firstWaitingFor 71 = .ok (.iload_n 2, 1) := by decide +kernel
theorem dX2_firstWaitingFor_72 : decode cX2_firstWaitingFor 72 = .ok (.ireturn, 1) := by decide +kernel
theorem dX2_owedInAll_0 : decode cX2_owedInAll 0 = .ok (.lconst 0, 1) := by decide +kernel
theorem dX2_owedInAll_1 : decode cX2_owedInAll 1 = .ok (.lstore_n 1, 1) := by decide +kernel
theorem dX2_owedInAll_2 : decode cX2_owedInAll 2 = .ok (.iconst 0, 1) := by decide +kernel
theorem dX2_owedInAll_3 : decode cX2_owedInAll 3 = .ok (.istore_n 3, 1) := by decide +kernel
theorem dX2_owedInAll_4 : decode cX2_owedInAll 4 = .ok (.iload_n 3, 1) := by decide +kernel
theorem dX2_owedInAll_5 : decode cX2_owedInAll 5 = .ok (.aload_n 0, 1) := by decide +kernel
theorem dX2_owedInAll_6 : decode cX2_owedInAll 6 = .ok (.getfield 49, 3) := by decide +kernel
theorem dX2_owedInAll_9 : decode cX2_owedInAll 9 = .ok (.if_icmp .ge 22, 3) := by decide +kernel
theorem dX2_owedInAll_12 : decode cX2_owedInAll 12 = .ok (.lload_n 1, 1) := by decide +kernel
theorem dX2_owedInAll_13 : decode cX2_owedInAll 13 = .ok (.aload_n 0, 1) := by decide +kernel
theorem dX2_owedInAll_14 : decode cX2_owedInAll 14 = .ok (.getfield 19, 3) := by decide +kernel
theorem dX2_owedInAll_17 : decode cX2_owedInAll 17 = .ok (.iload_n 3, 1) := by decide +kernel
theorem dX2_owedInAll_18 : decode cX2_owedInAll 18 = .ok (.aaload, 1) := by decide +kernel
theorem dX2_owedInAll_19 : decode cX2_owedInAll 19 = .ok (.getfield 167, 3) := by decide +kernel
theorem dX2_owedInAll_22 : decode cX2_owedInAll 22 = .ok (.i2l, 1) := by decide +kernel
theorem dX2_owedInAll_23 : decode cX2_owedInAll 23 = .ok (.ladd, 1) := by decide +kernel
theorem dX2_owedInAll_24 : decode cX2_owedInAll 24 = .ok (.lstore_n 1, 1) := by decide +kernel
theorem dX2_owedInAll_25 : decode cX2_owedInAll 25 = .ok (.iinc 3 1, 3) := by decide +kernel
theorem dX2_owedInAll_28 : decode cX2_owedInAll 28 = .ok (.goto (-24), 3) := by decide +kernel
theorem dX2_owedInAll_31 : decode cX2_owedInAll 31 = .ok (.lload_n 1, 1) := by decide +kernel
theorem dX2_owedInAll_32 : decode cX2_owedInAll 32 = .ok (.lreturn, 1) := by decide +kernel
theorem dX2_letPass_0 : decode cX2_letPass 0 = .ok (.iconst 0, 1) := by decide +kernel
theorem dX2_letPass_1 : decode cX2_letPass 1 = .ok (.istore_n 3, 1) := by decide +kernel
theorem dX2_letPass_2 : decode cX2_letPass 2 = .ok (.iconst 0, 1) := by decide +kernel
theorem dX2_letPass_3 : decode cX2_letPass 3 = .ok (.istore 4, 2) := by decide +kernel
theorem dX2_letPass_5 : decode cX2_letPass 5 = .ok (.iload 4, 2) := by decide +kernel
theorem dX2_letPass_7 : decode cX2_letPass 7 = .ok (.iload_n 1, 1) := by decide +kernel
theorem dX2_letPass_8 : decode cX2_letPass 8 = .ok (.if_icmp .ge 88, 3) := by decide +kernel
theorem dX2_letPass_11 : decode cX2_letPass 11 = .ok (.aload_n 0, 1) := by decide +kernel
theorem dX2_letPass_12 : decode cX2_letPass 12 = .ok (.invokevirtual 170, 3) := by decide +kernel
theorem dX2_letPass_15 : decode cX2_letPass 15 = .ok (.ifCond .ne 5, 3) := by decide +kernel
theorem dX2_letPass_18 : decode cX2_letPass 18 = .ok (.iconst (-1), 1) := by decide +kernel
theorem dX2_letPass_19 : decode cX2_letPass 19 = .ok (.ireturn, 1) := by decide +kernel
theorem dX2_letPass_20 : decode cX2_letPass 20 = .ok (.aload_n 0, 1) := by decide +kernel
theorem dX2_letPass_21 : decode cX2_letPass 21 = .ok (.dup, 1) := by decide +kernel
theorem dX2_letPass_22 : decode cX2_letPass 22 = .ok (.getfield 61, 3) := by decide +kernel
theorem dX2_letPass_25 : decode cX2_letPass 25 = .ok (.iconst 1, 1) := by decide +kernel
theorem dX2_letPass_26 : decode cX2_letPass 26 = .ok (.iadd, 1) := by decide +kernel
theorem dX2_letPass_27 : decode cX2_letPass 27 = .ok (.putfield 61, 3) := by decide +kernel
theorem dX2_letPass_30 : decode cX2_letPass 30 = .ok (.aload_n 0, 1) := by decide +kernel
theorem dX2_letPass_31 : decode cX2_letPass 31 = .ok (.getfield 61, 3) := by decide +kernel
theorem dX2_letPass_34 : decode cX2_letPass 34 = .ok (.sipush 360, 3) := by decide +kernel
theorem dX2_letPass_37 : decode cX2_letPass 37 = .ok (.irem, 1) := by decide +kernel
theorem dX2_letPass_38 : decode cX2_letPass 38 = .ok (.istore 5, 2) := by decide +kernel
theorem dX2_letPass_40 : decode cX2_letPass 40 = .ok (.aload_n 0, 1) := by decide +kernel
theorem dX2_letPass_41 : decode cX2_letPass 41 = .ok (.getfield 64, 3) := by decide +kernel
theorem dX2_letPass_44 : decode cX2_letPass 44 = .ok (.ifCond .ne 23, 3) := by decide +kernel
theorem dX2_letPass_47 : decode cX2_letPass 47 = .ok (.iload 5, 2) := by decide +kernel
theorem dX2_letPass_49 : decode cX2_letPass 49 = .ok (.aload_n 0, 1) := by decide +kernel
theorem dX2_letPass_50 : decode cX2_letPass 50 = .ok (.getfield 34, 3) := by decide +kernel
theorem dX2_letPass_53 : decode cX2_letPass 53 = .ok (.if_icmp .ne 14, 3) := by decide +kernel
theorem dX2_letPass_56 : decode cX2_letPass 56 = .ok (.aload_n 0, 1) := by decide +kernel
theorem dX2_letPass_57 : decode cX2_letPass 57 = .ok (.aload_n 2, 1) := by decide +kernel
theorem dX2_letPass_58 : decode cX2_letPass 58 = .ok (.invokevirtual 174, 3) := by decide +kernel
theorem dX2_letPass_61 : decode cX2_letPass 61 = .ok (.iinc 3 1, 3) := by decide +kernel
theorem dX2_letPass_64 : decode cX2_letPass 64 = .ok (.goto 26, 3) := by decide +kernel
theorem dX2_letPass_67 : decode cX2_letPass 67 = .ok (.aload_n 0, 1) := by decide +kernel
theorem dX2_letPass_68 : decode cX2_letPass 68 = .ok (.getfield 64, 3) := by decide +kernel
theorem dX2_letPass_71 : decode cX2_letPass 71 = .ok (.ifCond .eq 19, 3) := by decide +kernel
theorem dX2_letPass_74 : decode cX2_letPass 74 = .ok (.iload 5, 2) := by decide +kernel
theorem dX2_letPass_76 : decode cX2_letPass 76 = .ok (.aload_n 0, 1) := by decide +kernel
theorem dX2_letPass_77 : decode cX2_letPass 77 = .ok (.getfield 37, 3) := by decide +kernel
theorem dX2_letPass_80 : decode cX2_letPass 80 = .ok (.if_icmp .ne 10, 3) := by decide +kernel
theorem dX2_letPass_83 : decode cX2_letPass 83 = .ok (.aload_n 0, 1) := by decide +kernel
theorem dX2_letPass_84 : decode cX2_letPass 84 = .ok (.invokevirtual 178, 3) := by decide +kernel
theorem dX2_letPass_87 : decode cX2_letPass 87 = .ok (.iinc 3 1, 3) := by decide +kernel
theorem dX2_letPass_90 : decode cX2_letPass 90 = .ok (.iinc 4 1, 3) := by decide +kernel
theorem dX2_letPass_93 : decode cX2_letPass 93 = .ok (.goto (-88), 3) := by decide +kernel
theorem dX2_letPass_96 : decode cX2_letPass 96 = .ok (.iload_n 3, 1) := by decide +kernel
theorem dX2_letPass_97 : decode cX2_letPass 97 = .ok (.ireturn, 1) := by decide +kernel
theorem dX2_chargeAll_0 : decode cX2_chargeAll 0 = .ok (.iconst 0, 1) := by decide +kernel
theorem dX2_chargeAll_1 : decode cX2_chargeAll 1 = .ok (.istore_n 1, 1) := by decide +kernel
theorem dX2_chargeAll_2 : decode cX2_chargeAll 2 = .ok (.iload_n 1, 1) := by decide +kernel
theorem dX2_chargeAll_3 : decode cX2_chargeAll 3 = .ok (.aload_n 0, 1) := by decide +kernel
theorem dX2_chargeAll_4 : decode cX2_chargeAll 4 = .ok (.getfield 49, 3) := by decide +kernel
theorem dX2_chargeAll_7 : decode cX2_chargeAll 7 = .ok (.if_icmp .ge 51, 3) := by decide +kernel
theorem dX2_chargeAll_10 : decode cX2_chargeAll 10 = .ok (.aload_n 0, 1) := by decide +kernel
theorem dX2_chargeAll_11 : decode cX2_chargeAll 11 = .ok (.aload_n 0, 1) := by decide +kernel
theorem dX2_chargeAll_12 : decode cX2_chargeAll 12 = .ok (.getfield 19, 3) := by decide +kernel
theorem dX2_chargeAll_15 : decode cX2_chargeAll 15 = .ok (.iload_n 1, 1) := by decide +kernel
theorem dX2_chargeAll_16 : decode cX2_chargeAll 16 = .ok (.aaload, 1) := by decide +kernel
theorem dX2_chargeAll_17 : decode cX2_chargeAll 17 = .ok (.invokevirtual 181, 3) := by decide +kernel
theorem dX2_chargeAll_20 : decode cX2_chargeAll 20 = .ok (.lstore_n 2, 1) := by decide +kernel
theorem dX2_chargeAll_21 : decode cX2_chargeAll 21 = .ok (.aload_n 0, 1) := by decide +kernel
theorem dX2_chargeAll_22 : decode cX2_chargeAll 22 = .ok (.getfield 19, 3) := by decide +kernel
theorem dX2_chargeAll_25 : decode cX2_chargeAll 25 = .ok (.iload_n 1, 1) := by decide +kernel
theorem dX2_chargeAll_26 : decode cX2_chargeAll 26 = .ok (.aaload, 1) := by decide +kernel
theorem dX2_chargeAll_27 : decode cX2_chargeAll 27 = .ok (.lload_n 2, 1) := by decide +kernel
theorem dX2_chargeAll_28 : decode cX2_chargeAll 28 = .ok (.invokevirtual 185, 3) := by decide +kernel
theorem dX2_chargeAll_31 : decode cX2_chargeAll 31 = .ok (.ifCond .ne 5, 3) := by decide +kernel
theorem dX2_chargeAll_34 : decode cX2_chargeAll 34 = .ok (.iconst 0, 1) := by decide +kernel
theorem dX2_chargeAll_35 : decode cX2_chargeAll 35 = .ok (.ireturn, 1) := by decide +kernel
theorem dX2_chargeAll_36 : decode cX2_chargeAll 36 = .ok (.aload_n 0, 1) := by decide +kernel
theorem dX2_chargeAll_37 : decode cX2_chargeAll 37 = .ok (.getfield 19, 3) := by decide +kernel
theorem dX2_chargeAll_40 : decode cX2_chargeAll 40 = .ok (.iload_n 1, 1) := by decide +kernel
theorem dX2_chargeAll_41 : decode cX2_chargeAll 41 = .ok (.aaload, 1) := by decide +kernel
theorem dX2_chargeAll_42 : decode cX2_chargeAll 42 = .ok (.dup, 1) := by decide +kernel
theorem dX2_chargeAll_43 : decode cX2_chargeAll 43 = .ok (.getfield 167, 3) := by decide +kernel
theorem dX2_chargeAll_46 : decode cX2_chargeAll 46 = .ok (.lload_n 2, 1) := by decide +kernel
theorem dX2_chargeAll_47 : decode cX2_chargeAll 47 = .ok (.l2i, 1) := by decide +kernel
theorem dX2_chargeAll_48 : decode cX2_chargeAll 48 = .ok (.iadd, 1) := by decide +kernel
theorem dX2_chargeAll_49 : decode cX2_chargeAll 49 = .ok (.putfield 167, 3) := by decide +kernel
theorem dX2_chargeAll_52 : decode cX2_chargeAll 52 = .ok (.iinc 1 1, 3) := by decide +kernel
theorem dX2_chargeAll_55 : decode cX2_chargeAll 55 = .ok (.goto (-53), 3) := by decide +kernel
theorem dX2_chargeAll_58 : decode cX2_chargeAll 58 = .ok (.iconst 1, 1) := by decide +kernel
theorem dX2_chargeAll_59 : decode cX2_chargeAll 59 = .ok (.ireturn, 1) := by decide +kernel
theorem dX2_feeOfDay_0 : decode cX2_feeOfDay 0 = .ok (.aload_n 0, 1) := by decide +kernel
theorem dX2_feeOfDay_1 : decode cX2_feeOfDay 1 = .ok (.aload_n 1, 1) := by decide +kernel
theorem dX2_feeOfDay_2 : decode cX2_feeOfDay 2 = .ok (.invokevirtual 103, 3) := by decide +kernel
theorem dX2_feeOfDay_5 : decode cX2_feeOfDay 5 = .ok (.astore_n 2, 1) := by decide +kernel
theorem dX2_feeOfDay_6 : decode cX2_feeOfDay 6 = .ok (.aload_n 2, 1) := by decide +kernel
theorem dX2_feeOfDay_7 : decode cX2_feeOfDay 7 = .ok (.ifnull 19, 3) := by decide +kernel
theorem dX2_feeOfDay_10 : decode cX2_feeOfDay 10 = .ok (.aload_n 1, 1) := by decide +kernel
theorem dX2_feeOfDay_11 : decode cX2_feeOfDay 11 = .ok (.getfield 95, 3) := by decide +kernel
theorem dX2_feeOfDay_14 : decode cX2_feeOfDay 14 = .ok (.i2l, 1) := by decide +kernel
theorem dX2_feeOfDay_15 : decode cX2_feeOfDay 15 = .ok (.aload_n 2, 1) := by decide +kernel
theorem dX2_feeOfDay_16 : decode cX2_feeOfDay 16 = .ok (.getfield 189, 3) := by decide +kernel
theorem dX2_feeOfDay_19 : decode cX2_feeOfDay 19 = .ok (.i2l, 1) := by decide +kernel
theorem dX2_feeOfDay_20 : decode cX2_feeOfDay 20 = .ok (.lmul, 1) := by decide +kernel
theorem dX2_feeOfDay_21 : decode cX2_feeOfDay 21 = .ok (.ldc2_w 192, 3) := by decide +kernel
theorem dX2_feeOfDay_24 : decode cX2_feeOfDay 24 = .ok (.ldiv, 1) := by decide +kernel
theorem dX2_feeOfDay_25 : decode cX2_feeOfDay 25 = .ok (.lreturn, 1) := by decide +kernel
theorem dX2_feeOfDay_26 : decode cX2_feeOfDay 26 = .ok (.aload_n 1, 1) := by decide +kernel
theorem dX2_feeOfDay_27 : decode cX2_feeOfDay 27 = .ok (.getfield 121, 3) := by decide +kernel
theorem dX2_feeOfDay_30 : decode cX2_feeOfDay 30 = .ok (.iconst 3, 1) := by decide +kernel
theorem dX2_feeOfDay_31 : decode cX2_feeOfDay 31 = .ok (.if_icmp .ne 21, 3) := by decide +kernel
theorem dX2_feeOfDay_34 : decode cX2_feeOfDay 34 = .ok (.aload_n 1, 1) := by decide +kernel
theorem dX2_feeOfDay_35 : decode cX2_feeOfDay 35 = .ok (.getfield 95, 3) := by decide +kernel
theorem dX2_feeOfDay_38 : decode cX2_feeOfDay 38 = .ok (.i2l, 1) := by decide +kernel
theorem dX2_feeOfDay_39 : decode cX2_feeOfDay 39 = .ok (.aload_n 0, 1) := by decide +kernel
theorem dX2_feeOfDay_40 : decode cX2_feeOfDay 40 = .ok (.getfield 58, 3) := by decide +kernel
theorem dX2_feeOfDay_43 : decode cX2_feeOfDay 43 = .ok (.i2l, 1) := by decide +kernel
theorem dX2_feeOfDay_44 : decode cX2_feeOfDay 44 = .ok (.lmul, 1) := by decide +kernel
theorem dX2_feeOfDay_45 : decode cX2_feeOfDay 45 = .ok (.ldc2_w 192, 3) := by decide +kernel
theorem dX2_feeOfDay_48 : decode cX2_feeOfDay 48 = .ok (.ldiv, 1) := by decide +kernel
theorem dX2_feeOfDay_49 : decode cX2_feeOfDay 49 = .ok (.goto 4, 3) := by decide +kernel
theorem dX2_feeOfDay_52 : decode cX2_feeOfDay 52 = .ok (.lconst 0, 1) := by decide +kernel
theorem dX2_feeOfDay_53 : decode cX2_feeOfDay 53 = .ok (.lreturn, 1) := by decide +kernel
theorem dX2_beginWinter_0 : decode cX2_beginWinter 0 = .ok (.aload_n 0, 1) := by decide +kernel
theorem dX2_beginWinter_1 : decode cX2_beginWinter 1 = .ok (.iconst 1, 1) := by decide +kernel
theorem dX2_beginWinter_2 : decode cX2_beginWinter 2 = .ok (.putfield 64, 3) := by decide +kernel
theorem dX2_beginWinter_5 : decode cX2_beginWinter 5 = .ok (.aload_n 1, 1) := by decide +kernel
theorem dX2_beginWinter_6 : decode cX2_beginWinter 6 = .ok (.invokevirtual 194, 3) := by decide +kernel
theorem dX2_beginWinter_9 : decode cX2_beginWinter 9 = .ok (.iconst 0, 1) := by decide +kernel
theorem dX2_beginWinter_10 : decode cX2_beginWinter 10 = .ok (.istore_n 2, 1) := by decide +kernel
theorem dX2_beginWinter_11 : decode cX2_beginWinter 11 = .ok (.iload_n 2, 1) := by decide +kernel
theorem dX2_beginWinter_12 : decode cX2_beginWinter 12 = .ok (.aload_n 0, 1) := by decide +kernel
theorem dX2_beginWinter_13 : decode cX2_beginWinter 13 = .ok (.getfield 49, 3) := by decide +kernel
theorem dX2_beginWinter_16 : decode cX2_beginWinter 16 = .ok (.if_icmp .ge 75, 3) := by decide +kernel
theorem dX2_beginWinter_19 : decode cX2_beginWinter 19 = .ok (.aload_n 0, 1) := by decide +kernel
theorem dX2_beginWinter_20 : decode cX2_beginWinter 20 = .ok (.aload_n 0, 1) := by decide +kernel
theorem dX2_beginWinter_21 : decode cX2_beginWinter 21 = .ok (.getfield 19, 3) := by decide +kernel
theorem dX2_beginWinter_24 : decode cX2_beginWinter 24 = .ok (.iload_n 2, 1) := by decide +kernel
theorem dX2_beginWinter_25 : decode cX2_beginWinter 25 = .ok (.aaload, 1) := by decide +kernel
theorem dX2_beginWinter_26 : decode cX2_beginWinter 26 = .ok (.invokevirtual 103, 3) := by decide +kernel
theorem dX2_beginWinter_29 : decode cX2_beginWinter 29 = .ok (.astore_n 3, 1) := by decide +kernel
theorem dX2_beginWinter_30 : decode cX2_beginWinter 30 = .ok (.aload_n 3, 1) := by decide +kernel
theorem dX2_beginWinter_31 : decode cX2_beginWinter 31 = .ok (.ifnull 54, 3) := by decide +kernel
theorem dX2_beginWinter_34 : decode cX2_beginWinter 34 = .ok (.aload_n 3, 1) := by decide +kernel
theorem dX2_beginWinter_35 : decode cX2_beginWinter 35 = .ok (.getfield 118, 3) := by decide +kernel
theorem dX2_beginWinter_38 : decode cX2_beginWinter 38 = .ok (.ifCond .eq 47, 3) := by decide +kernel
theorem dX2_beginWinter_41 : decode cX2_beginWinter 41 = .ok (.aload_n 0, 1) := by decide +kernel
theorem dX2_beginWinter_42 : decode cX2_beginWinter 42 = .ok (.getfield 19, 3) := by decide +kernel
theorem dX2_beginWinter_45 : decode cX2_beginWinter 45 = .ok (.iload_n 2, 1) := by decide +kernel
theorem dX2_beginWinter_46 : decode cX2_beginWinter 46 = .ok (.aaload, 1) := by decide +kernel
theorem dX2_beginWinter_47 : decode cX2_beginWinter 47 = .ok (.aload_n 0, 1) := by decide +kernel
theorem dX2_beginWinter_48 : decode cX2_beginWinter 48 = .ok (.getfield 19, 3) := by decide +kernel
theorem dX2_beginWinter_51 : decode cX2_beginWinter 51 = .ok (.iload_n 2, 1) := by decide +kernel
theorem dX2_beginWinter_52 : decode cX2_beginWinter 52 = .ok (.aaload, 1) := by decide +kernel
theorem dX2_beginWinter_53 : decode cX2_beginWinter 53 = .ok (.getfield 111, 3) := by decide +kernel
theorem dX2_beginWinter_56 : decode cX2_beginWinter 56 = .ok (.putfield 199, 3) := by decide +kernel
theorem dX2_beginWinter_59 : decode cX2_beginWinter 59 = .ok (.aload_n 0, 1) := by decide +kernel
theorem dX2_beginWinter_60 : decode cX2_beginWinter 60 = .ok (.getfield 19, 3) := by decide +kernel
theorem dX2_beginWinter_63 : decode cX2_beginWinter 63 = .ok (.iload_n 2, 1) := by decide +kernel
theorem dX2_beginWinter_64 : decode cX2_beginWinter 64 = .ok (.aaload, 1) := by decide +kernel
theorem dX2_beginWinter_65 : decode cX2_beginWinter 65 = .ok (.iconst 3, 1) := by decide +kernel
theorem dX2_beginWinter_66 : decode cX2_beginWinter 66 = .ok (.iconst (-1), 1) := by decide +kernel
theorem dX2_beginWinter_67 : decode cX2_beginWinter 67 = .ok (.invokevirtual 202, 3) := by decide +kernel
theorem dX2_beginWinter_70 : decode cX2_beginWinter 70 = .ok (.aload_n 1, 1) := by decide +kernel
theorem dX2_beginWinter_71 : decode cX2_beginWinter 71 = .ok (.iload_n 2, 1) := by decide +kernel
theorem dX2_beginWinter_72 : decode cX2_beginWinter 72 = .ok (.aload_n 0, 1) := by decide +kernel
theorem dX2_beginWinter_73 : decode cX2_beginWinter 73 = .ok (.aload_n 0, 1) := by decide +kernel
theorem dX2_beginWinter_74 : decode cX2_beginWinter 74 = .ok (.getfield 19, 3) := by decide +kernel
theorem dX2_beginWinter_77 : decode cX2_beginWinter 77 = .ok (.iload_n 2, 1) := by decide +kernel
theorem dX2_beginWinter_78 : decode cX2_beginWinter 78 = .ok (.aaload, 1) := by decide +kernel
theorem dX2_beginWinter_79 : decode cX2_beginWinter 79 = .ok (.invokevirtual 205, 3) := by decide +kernel
theorem dX2_beginWinter_82 : decode cX2_beginWinter 82 = .ok (.invokevirtual 208, 3) := by decide +kernel
theorem dX2_beginWinter_85 : decode cX2_beginWinter 85 = .ok (.iinc 2 1, 3) := by decide +kernel
theorem dX2_beginWinter_88 : decode cX2_beginWinter 88 = .ok (.goto (-77), 3) := by decide +kernel
theorem dX2_beginWinter_91 : decode cX2_beginWinter 91 = .ok (.iconst 0, 1) := by decide +kernel
theorem dX2_beginWinter_92 : decode cX2_beginWinter 92 = .ok (.istore_n 2, 1) := by decide +kernel
theorem dX2_beginWinter_93 : decode cX2_beginWinter 93 = .ok (.iload_n 2, 1) := by decide +kernel
theorem dX2_beginWinter_94 : decode cX2_beginWinter 94 = .ok (.aload_n 0, 1) := by decide +kernel
theorem dX2_beginWinter_95 : decode cX2_beginWinter 95 = .ok (.getfield 49, 3) := by decide +kernel
theorem dX2_beginWinter_98 : decode cX2_beginWinter 98 = .ok (.if_icmp .ge 31, 3) := by decide +kernel
theorem dX2_beginWinter_101 : decode cX2_beginWinter 101 = .ok (.aload_n 1, 1) := by decide +kernel
theorem dX2_beginWinter_102 : decode cX2_beginWinter 102 = .ok (.iload_n 2, 1) := by decide +kernel
theorem dX2_beginWinter_103 : decode cX2_beginWinter 103 = .ok (.invokevirtual 211, 3) := by decide +kernel
theorem dX2_beginWinter_106 : decode cX2_beginWinter 106 = .ok (.istore_n 3, 1) := by decide +kernel
theorem dX2_beginWinter_107 : decode cX2_beginWinter 107 = .ok (.iload_n 3, 1) := by decide +kernel
theorem dX2_beginWinter_108 : decode cX2_beginWinter 108 = .ok (.iconst (-1), 1) := by decide +kernel
theorem dX2_beginWinter_109 : decode cX2_beginWinter 109 = .ok (.if_icmp .eq 14, 3) := by decide +kernel
theorem dX2_beginWinter_112 : decode cX2_beginWinter 112 = .ok (.aload_n 0, 1) := by decide +kernel
theorem dX2_beginWinter_113 : decode cX2_beginWinter 113 = .ok (.getfield 19, 3) := by decide +kernel
theorem dX2_beginWinter_116 : decode cX2_beginWinter 116 = .ok (.iload_n 2, 1) := by decide +kernel
theorem dX2_beginWinter_117 : decode cX2_beginWinter 117 = .ok (.aaload, 1) := by decide +kernel
theorem dX2_beginWinter_118 : decode cX2_beginWinter 118 = .ok (.iconst 1, 1) := by decide +kernel
theorem dX2_beginWinter_119 : decode cX2_beginWinter 119 = .ok (.iload_n 3, 1) := by decide +kernel
theorem dX2_beginWinter_120 : decode cX2_beginWinter 120 = .ok (.invokevirtual 202, 3) := by decide +kernel
theorem dX2_beginWinter_123 : decode cX2_beginWinter 123 = .ok (.iinc 2 1, 3) := by decide +kernel
theorem dX2_beginWinter_126 : decode cX2_beginWinter 126 = .ok (.goto (-33), 3) := by decide +kernel
theorem dX2_beginWinter_129 : decode cX2_beginWinter 129 = .ok (.return_, 1) := by decide +kernel
theorem dX2_shelterFor_0 : decode cX2_shelterFor 0 = .ok (.iconst 0, 1) := by decide +kernel
theorem dX2_shelterFor_1 : decode cX2_shelterFor 1 = .ok (.istore_n 2, 1) := by decide +kernel
theorem dX2_shelterFor_2 : decode cX2_shelterFor 2 = .ok (.iconst 0, 1) := by decide +kernel
theorem dX2_shelterFor_3 : decode cX2_shelterFor 3 = .ok (.istore_n 3, 1) := by decide +kernel
theorem dX2_shelterFor_4 : decode cX2_shelterFor 4 = .ok (.iload_n 3, 1) := by decide +kernel
theorem dX2_shelterFor_5 : decode cX2_shelterFor 5 = .ok (.aload_n 0, 1) := by decide +kernel
theorem dX2_shelterFor_6 : decode cX2_shelterFor 6 = .ok (.getfield 42, 3) := by decide +kernel
theorem dX2_shelterFor_9 : decode cX2_shelterFor 9 = .ok (.if_icmp .ge 50, 3) := by decide +kernel
theorem dX2_shelterFor_12 : decode cX2_shelterFor 12 = .ok (.aload_n 0, 1) := by decide +kernel
theorem dX2_shelterFor_13 : decode cX2_shelterFor 13 = .ok (.getfield 11, 3) := by decide +kernel
theorem dX2_shelterFor_16 : decode cX2_shelterFor 16 = .ok (.iload_n 3, 1) := by decide +kernel
theorem dX2_shelterFor_17 : decode cX2_shelterFor 17 = .ok (.aaload, 1) := by decide +kernel
theorem dX2_shelterFor_18 : decode cX2_shelterFor 18 = .ok (.getfield 118, 3) := by decide +kernel
theorem dX2_shelterFor_21 : decode cX2_shelterFor 21 = .ok (.ifCond .ne 32, 3) := by decide +kernel
theorem dX2_shelterFor_24 : decode cX2_shelterFor 24 = .ok (.aload_n 0, 1) := by decide +kernel
theorem dX2_shelterFor_25 : decode cX2_shelterFor 25 = .ok (.iload_n 3, 1) := by decide +kernel
theorem dX2_shelterFor_26 : decode cX2_shelterFor 26 = .ok (.invokevirtual 114, 3) := by decide +kernel
theorem dX2_shelterFor_29 : decode cX2_shelterFor 29 = .ok (.iconst (-1), 1) := by decide +kernel
theorem dX2_shelterFor_30 : decode cX2_shelterFor 30 = .ok (.if_icmp .ne 23, 3) := by decide +kernel
theorem dX2_shelterFor_33 : decode cX2_shelterFor 33 = .ok (.aload_n 0, 1) := by decide +kernel
theorem dX2_shelterFor_34 : decode cX2_shelterFor 34 = .ok (.aload_n 1, 1) := by decide +kernel
theorem dX2_shelterFor_35 : decode cX2_shelterFor 35 = .ok (.aload_n 0, 1) := by decide +kernel
theorem dX2_shelterFor_36 : decode cX2_shelterFor 36 = .ok (.getfield 11, 3) := by decide +kernel
theorem dX2_shelterFor_39 : decode cX2_shelterFor 39 = .ok (.iload_n 3, 1) := by decide +kernel
theorem dX2_shelterFor_40 : decode cX2_shelterFor 40 = .ok (.aaload, 1) := by decide +kernel
theorem dX2_shelterFor_41 : decode cX2_shelterFor 41 = .ok (.invokevirtual 107, 3) := by decide +kernel
theorem dX2_shelterFor_44 : decode cX2_shelterFor 44 = .ok (.ifCond .eq 9, 3) := by decide +kernel
theorem dX2_shelterFor_47 : decode cX2_shelterFor 47 = .ok (.iload_n 2, 1) := by decide +kernel
theorem dX2_shelterFor_48 : decode cX2_shelterFor 48 = .ok (.iconst 1, 1) := by decide +kernel
theorem dX2_shelterFor_49 : decode cX2_shelterFor 49 = .ok (.iload_n 3, 1) := by decide +kernel
theorem dX2_shelterFor_50 : decode cX2_shelterFor 50 = .ok (.ishl, 1) := by decide +kernel
theorem dX2_shelterFor_51 : decode cX2_shelterFor 51 = .ok (.ior, 1) := by decide +kernel
theorem dX2_shelterFor_52 : decode cX2_shelterFor 52 = .ok (.istore_n 2, 1) := by decide +kernel
theorem dX2_shelterFor_53 : decode cX2_shelterFor 53 = .ok (.iinc 3 1, 3) := by decide +kernel
theorem dX2_shelterFor_56 : decode cX2_shelterFor 56 = .ok (.goto (-52), 3) := by decide +kernel
theorem dX2_shelterFor_59 : decode cX2_shelterFor 59 = .ok (.iload_n 2, 1) := by decide +kernel
theorem dX2_shelterFor_60 : decode cX2_shelterFor 60 = .ok (.ireturn, 1) := by decide +kernel
theorem dX2_beginSpring_0 : decode cX2_beginSpring 0 = .ok (.aload_n 0, 1) := by decide +kernel
theorem dX2_beginSpring_1 : decode cX2_beginSpring 1 = .ok (.iconst 0, 1) := by decide +kernel
theorem dX2_beginSpring_2 : decode cX2_beginSpring 2 = .ok (.putfield 64, 3) := by decide +kernel
theorem dX2_beginSpring_5 : decode cX2_beginSpring 5 = .ok (.iconst 0, 1) := by decide +kernel
theorem dX2_beginSpring_6 : decode cX2_beginSpring 6 = .ok (.istore_n 1, 1) := by decide +kernel
theorem dX2_beginSpring_7 : decode cX2_beginSpring 7 = .ok (.iload_n 1, 1) := by decide +kernel
theorem dX2_beginSpring_8 : decode cX2_beginSpring 8 = .ok (.aload_n 0, 1) := by decide +kernel
theorem dX2_beginSpring_9 : decode cX2_beginSpring 9 = .ok (.getfield 49, 3) := by decide +kernel
theorem dX2_beginSpring_12 : decode cX2_beginSpring 12 = .ok (.if_icmp .ge 86, 3) := by decide +kernel
theorem dX2_beginSpring_15 : decode cX2_beginSpring 15 = .ok (.aload_n 0, 1) := by decide +kernel
theorem dX2_beginSpring_16 : decode cX2_beginSpring 16 = .ok (.getfield 19, 3) := by decide +kernel
theorem dX2_beginSpring_19 : decode cX2_beginSpring 19 = .ok (.iload_n 1, 1) := by decide +kernel
theorem dX2_beginSpring_20 : decode cX2_beginSpring 20 = .ok (.aaload, 1) := by decide +kernel
theorem dX2_beginSpring_21 : decode cX2_beginSpring 21 = .ok (.astore_n 2, 1) := by decide +kernel
theorem dX2_beginSpring_22 : decode cX2_beginSpring 22 = .ok (.aload_n 2, 1) := by decide +kernel
theorem dX2_beginSpring_23 : decode cX2_beginSpring 23 = .ok (.getfield 199, 3) := by decide +kernel
theorem dX2_beginSpring_26 : decode cX2_beginSpring 26 = .ok (.istore_n 3, 1) := by decide +kernel
theorem dX2_beginSpring_27 : decode cX2_beginSpring 27 = .ok (.iload_n 3, 1) := by decide +kernel
theorem dX2_beginSpring_28 : decode cX2_beginSpring 28 = .ok (.ifCond .lt 64, 3) := by decide +kernel
theorem dX2_beginSpring_31 : decode cX2_beginSpring 31 = .ok (.iload_n 3, 1) := by decide +kernel
theorem dX2_beginSpring_32 : decode cX2_beginSpring 32 = .ok (.aload_n 0, 1) := by decide +kernel
theorem dX2_beginSpring_33 : decode cX2_beginSpring 33 = .ok (.getfield 42, 3) := by decide +kernel
theorem dX2_beginSpring_36 : decode cX2_beginSpring 36 = .ok (.if_icmp .lt 6, 3) := by decide +kernel
theorem dX2_beginSpring_39 : decode cX2_beginSpring 39 = .ok (.goto 53, 3) := by decide +kernel
theorem dX2_beginSpring_42 : decode cX2_beginSpring 42 = .ok (.aload_n 0, 1) := by decide +kernel
theorem dX2_beginSpring_43 : decode cX2_beginSpring 43 = .ok (.iload_n 3, 1) := by decide +kernel
theorem dX2_beginSpring_44 : decode cX2_beginSpring 44 = .ok (.invokevirtual 114, 3) := by decide +kernel
theorem dX2_beginSpring_47 : decode cX2_beginSpring 47 = .ok (.iconst (-1), 1) := by decide +kernel
theorem dX2_beginSpring_48 : decode cX2_beginSpring 48 = .ok (.if_icmp .ne 26, 3) := by decide +kernel
theorem dX2_beginSpring_51 : decode cX2_beginSpring 51 = .ok (.aload_n 0, 1) := by decide +kernel
theorem dX2_beginSpring_52 : decode cX2_beginSpring 52 = .ok (.aload_n 2, 1) := by decide +kernel
theorem dX2_beginSpring_53 : decode cX2_beginSpring 53 = .ok (.aload_n 0, 1) := by decide +kernel
theorem dX2_beginSpring_54 : decode cX2_beginSpring 54 = .ok (.getfield 11, 3) := by decide +kernel
theorem dX2_beginSpring_57 : decode cX2_beginSpring 57 = .ok (.iload_n 3, 1) := by decide +kernel
theorem dX2_beginSpring_58 : decode cX2_beginSpring 58 = .ok (.aaload, 1) := by decide +kernel
theorem dX2_beginSpring_59 : decode cX2_beginSpring 59 = .ok (.invokevirtual 107, 3) := by decide +kernel
theorem dX2_beginSpring_62 : decode cX2_beginSpring 62 = .ok (.ifCond .eq 12, 3) := by decide +kernel
theorem dX2_beginSpring_65 : decode cX2_beginSpring 65 = .ok (.aload_n 2, 1) := by decide +kernel
theorem dX2_beginSpring_66 : decode cX2_beginSpring 66 = .ok (.iconst 1, 1) := by decide +kernel
theorem dX2_beginSpring_67 : decode cX2_beginSpring 67 = .ok (.iload_n 3, 1) := by decide +kernel
theorem dX2_beginSpring_68 : decode cX2_beginSpring 68 = .ok (.invokevirtual 202, 3) := by decide +kernel
theorem dX2_beginSpring_71 : decode cX2_beginSpring 71 = .ok (.goto 16, 3) := by decide +kernel
theorem dX2_beginSpring_74 : decode cX2_beginSpring 74 = .ok (.aload_n 2, 1) := by decide +kernel
theorem dX2_beginSpring_75 : decode cX2_beginSpring 75 = .ok (.getfield 121, 3) := by decide +kernel
theorem dX2_beginSpring_78 : decode cX2_beginSpring 78 = .ok (.iconst 3, 1) := by decide +kernel
theorem dX2_beginSpring_79 : decode cX2_beginSpring 79 = .ok (.if_icmp .ne 8, 3) := by decide +kernel
theorem dX2_beginSpring_82 : decode cX2_beginSpring 82 = .ok (.aload_n 0, 1) := by decide +kernel
theorem dX2_beginSpring_83 : decode cX2_beginSpring 83 = .ok (.aload_n 2, 1) := by decide +kernel
theorem dX2_beginSpring_84 : decode cX2_beginSpring 84 = .ok (.invokevirtual 214, 3) := by decide +kernel
theorem dX2_beginSpring_87 : decode cX2_beginSpring 87 = .ok (.aload_n 2, 1) := by decide +kernel
theorem dX2_beginSpring_88 : decode cX2_beginSpring 88 = .ok (.iconst (-1), 1) := by decide +kernel
theorem dX2_beginSpring_89 : decode cX2_beginSpring 89 = .ok (.putfield 199, 3) := by decide +kernel
theorem dX2_beginSpring_92 : decode cX2_beginSpring 92 = .ok (.iinc 1 1, 3) := by decide +kernel
theorem dX2_beginSpring_95 : decode cX2_beginSpring 95 = .ok (.goto (-88), 3) := by decide +kernel
theorem dX2_beginSpring_98 : decode cX2_beginSpring 98 = .ok (.return_, 1) := by decide +kernel
theorem dX3_init_0 : decode cX3_init 0 = .ok (.aload_n 0, 1) := by decide +kernel
theorem dX3_init_1 : decode cX3_init 1 = .ok (.invokespecial 3, 3) := by decide +kernel
theorem dX3_init_4 : decode cX3_init 4 = .ok (.aload_n 0, 1) := by decide +kernel
theorem dX3_init_5 : decode cX3_init 5 = .ok (.bipush 70, 2) := by decide +kernel
theorem dX3_init_7 : decode cX3_init 7 = .ok (.newarray .char, 2) := by decide +kernel
theorem dX3_init_9 : decode cX3_init 9 = .ok (.putfield 9, 3) := by decide +kernel
theorem dX3_init_12 : decode cX3_init 12 = .ok (.aload_n 0, 1) := by decide +kernel
theorem dX3_init_13 : decode cX3_init 13 = .ok (.bipush 14, 2) := by decide +kernel
theorem dX3_init_15 : decode cX3_init 15 = .ok (.newarray .int, 2) := by decide +kernel
theorem dX3_init_17 : decode cX3_init 17 = .ok (.putfield 15, 3) := by decide +kernel
theorem dX3_init_20 : decode cX3_init 20 = .ok (.return_, 1) := by decide +kernel
theorem dX3_append_0 : decode cX3_append 0 = .ok (.aload_n 0, 1) := by decide +kernel
theorem dX3_append_1 : decode cX3_append 1 = .ok (.getfield 9, 3) := by decide +kernel
theorem dX3_append_4 : decode cX3_append 4 = .ok (.aload_n 0, 1) := by decide +kernel
theorem dX3_append_5 : decode cX3_append 5 = .ok (.getfield 19, 3) := by decide +kernel
theorem dX3_append_8 : decode cX3_append 8 = .ok (.iload_n 1, 1) := by decide +kernel
theorem dX3_append_9 : decode cX3_append 9 = .ok (.castore, 1) := by decide +kernel
theorem dX3_append_10 : decode cX3_append 10 = .ok (.aload_n 0, 1) := by decide +kernel
theorem dX3_append_11 : decode cX3_append 11 = .ok (.dup, 1) := by decide +kernel
theorem dX3_append_12 : decode cX3_append 12 = .ok (.getfield 19, 3) := by decide +kernel
theorem dX3_append_15 : decode cX3_append 15 = .ok (.iconst 1, 1) := by decide +kernel
theorem dX3_append_16 : decode cX3_append 16 = .ok (.iadd, 1) := by decide +kernel
theorem dX3_append_17 : decode cX3_append 17 = .ok (.putfield 19, 3) := by decide +kernel
theorem dX3_append_20 : decode cX3_append 20 = .ok (.return_, 1) := by decide +kernel
theorem dX3_findFault_0 : decode cX3_findFault 0 = .ok (.iconst (-1), 1) := by decide +kernel
theorem dX3_findFault_1 : decode cX3_findFault 1 = .ok (.istore_n 1, 1) := by decide +kernel
theorem dX3_findFault_2 : decode cX3_findFault 2 = .ok (.iconst 0, 1) := by decide +kernel
theorem dX3_findFault_3 : decode cX3_findFault 3 = .ok (.istore_n 2, 1) := by decide +kernel
theorem dX3_findFault_4 : decode cX3_findFault 4 = .ok (.aload_n 0, 1) := by decide +kernel
theorem dX3_findFault_5 : decode cX3_findFault 5 = .ok (.iconst 0, 1) := by decide +kernel
theorem dX3_findFault_6 : decode cX3_findFault 6 = .ok (.putfield 23, 3) := by decide +kernel
theorem dX3_findFault_9 : decode cX3_findFault 9 = .ok (.aload_n 0, 1) := by decide +kernel
theorem dX3_findFault_10 : decode cX3_findFault 10 = .ok (.getfield 23, 3) := by decide +kernel
theorem dX3_findFault_13 : decode cX3_findFault 13 = .ok (.bipush 14, 2) := by decide +kernel
theorem dX3_findFault_15 : decode cX3_findFault 15 = .ok (.if_icmp .ge 132, 3) := by decide +kernel
theorem dX3_findFault_18 : decode cX3_findFault 18 = .ok (.iload_n 2, 1) := by decide +kernel
theorem dX3_findFault_19 : decode cX3_findFault 19 = .ok (.istore_n 3, 1) := by decide +kernel
theorem dX3_findFault_20 : decode cX3_findFault 20 = .ok (.aload_n 0, 1) := by decide +kernel
theorem dX3_findFault_21 : decode cX3_findFault 21 = .ok (.iload_n 2, 1) := by decide +kernel
theorem dX3_findFault_22 : decode cX3_findFault 22 = .ok (.bipush 45, 2) := by decide +kernel
theorem dX3_findFault_24 : decode cX3_findFault 24 = .ok (.invokevirtual 26, 3) := by decide +kernel
theorem dX3_findFault_27 : decode cX3_findFault 27 = .ok (.ifCond .eq 6, 3) := by decide +kernel
theorem dX3_findFault_30 : decode cX3_findFault 30 = .ok (.iinc 2 1, 3) := by decide +kernel
theorem dX3_findFault_33 : decode cX3_findFault 33 = .ok (.aload_n 0, 1) := by decide +kernel
theorem dX3_findFault_34 : decode cX3_findFault 34 = .ok (.iload_n 2, 1) := by decide +kernel
theorem dX3_findFault_35 : decode cX3_findFault 35 = .ok (.invokevirtual 30, 3) := by decide +kernel
theorem dX3_findFault_38 : decode cX3_findFault 38 = .ok (.istore 4, 2) := by decide +kernel
theorem dX3_findFault_40 : decode cX3_findFault 40 = .ok (.iload 4, 2) := by decide +kernel
theorem dX3_findFault_42 : decode cX3_findFault 42 = .ok (.iload_n 2, 1) := by decide +kernel
theorem dX3_findFault_43 : decode cX3_findFault 43 = .ok (.if_icmp .ne 5, 3) := by decide +kernel
theorem dX3_findFault_46 : decode cX3_findFault 46 = .ok (.iload_n 2, 1) := by decide +kernel
theorem dX3_findFault_47 : decode cX3_findFault 47 = .ok (.ireturn, 1) := by decide +kernel
theorem dX3_findFault_48 : decode cX3_findFault 48 = .ok (.aload_n 0, 1) := by decide +kernel
theorem dX3_findFault_49 : decode cX3_findFault 49 = .ok (.iload_n 2, 1) := by decide +kernel
theorem dX3_findFault_50 : decode cX3_findFault 50 = .ok (.iload 4, 2) := by decide +kernel
theorem dX3_findFault_52 : decode cX3_findFault 52 = .ok (.invokevirtual 34, 3) := by decide +kernel
theorem dX3_findFault_55 : decode cX3_findFault 55 = .ok (.istore 5, 2) := by decide +kernel
theorem dX3_findFault_57 : decode cX3_findFault 57 = .ok (.aload_n 0, 1) := by decide +kernel
theorem dX3_findFault_58 : decode cX3_findFault 58 = .ok (.getfield 15, 3) := by decide +kernel
theorem dX3_findFault_61 : decode cX3_findFault 61 = .ok (.aload_n 0, 1) := by decide +kernel
theorem dX3_findFault_62 : decode cX3_findFault 62 = .ok (.getfield 23, 3) := by decide +kernel
theorem dX3_findFault_65 : decode cX3_findFault 65 = .ok (.iload_n 2, 1) := by decide +kernel
theorem dX3_findFault_66 : decode cX3_findFault 66 = .ok (.iload_n 3, 1) := by decide +kernel
theorem dX3_findFault_67 : decode cX3_findFault 67 = .ok (.if_icmp .le 9, 3) := by decide +kernel
theorem dX3_findFault_70 : decode cX3_findFault 70 = .ok (.iload 5, 2) := by decide +kernel
theorem dX3_findFault_72 : decode cX3_findFault 72 = .ok (.ineg, 1) := by decide +kernel
theorem dX3_findFault_73 : decode cX3_findFault 73 = .ok (.goto 5, 3) := by decide +kernel
theorem dX3_findFault_76 : decode cX3_findFault 76 = .ok (.iload 5, 2) := by decide +kernel
theorem dX3_findFault_78 : decode cX3_findFault 78 = .ok (.iastore, 1) := by decide +kernel
theorem dX3_findFault_79 : decode cX3_findFault 79 = .ok (.iload 5, 2) := by decide +kernel
theorem dX3_findFault_81 : decode cX3_findFault 81 = .ok (.sipush 300, 3) := by decide +kernel
theorem dX3_findFault_84 : decode cX3_findFault 84 = .ok (.if_icmp .le 10, 3) := by decide +kernel
theorem dX3_findFault_87 : decode cX3_findFault 87 = .ok (.iload_n 1, 1) := by decide +kernel
theorem dX3_findFault_88 : decode cX3_findFault 88 = .ok (.iconst (-1), 1) := by decide +kernel
theorem dX3_findFault_89 : decode cX3_findFault 89 = .ok (.if_icmp .ne 5, 3) := by decide +kernel
theorem dX3_findFault_92 : decode cX3_findFault 92 = .ok (.iload_n 3, 1) := by decide +kernel
theorem dX3_findFault_93 : decode cX3_findFault 93 = .ok (.istore_n 1, 1) := by decide +kernel
theorem dX3_findFault_94 : decode cX3_findFault 94 = .ok (.iload 4, 2) := by decide +kernel
theorem dX3_findFault_96 : decode cX3_findFault 96 = .ok (.aload_n 0, 1) := by decide +kernel
theorem dX3_findFault_97 : decode cX3_findFault 97 = .ok (.getfield 19, 3) := by decide +kernel
theorem dX3_findFault_100 : decode cX3_findFault 100 = .ok (.if_icmp .ne 15, 3) := by decide +kernel
theorem dX3_findFault_103 : decode cX3_findFault 103 = .ok (.aload_n 0, 1) := by decide +kernel
theorem dX3_findFault_104 : decode cX3_findFault 104 = .ok (.dup, 1) := by decide +kernel
theorem dX3_findFault_105 : decode cX3_findFault 105 = .ok (.getfield 23, 3) := by decide +kernel
theorem dX3_findFault_108 : decode cX3_findFault 108 = .ok (.iconst 1, 1) := by decide +kernel
theorem dX3_findFault_109 : decode cX3_findFault 109 = .ok (.iadd, 1) := by decide +kernel
theorem dX3_findFault_110 : decode cX3_findFault 110 = .ok (.putfield 23, 3) := by decide +kernel
theorem dX3_findFault_113 : decode cX3_findFault 113 = .ok (.iload_n 1, 1) := by decide +kernel
theorem dX3_findFault_114 : decode cX3_findFault 114 = .ok (.ireturn, 1) := by decide +kernel
theorem dX3_findFault_115 : decode cX3_findFault 115 = .ok (.aload_n 0, 1) := by decide +kernel
theorem dX3_findFault_116 : decode cX3_findFault 116 = .ok (.iload 4, 2) := by decide +kernel
theorem dX3_findFault_118 : decode cX3_findFault 118 = .ok (.bipush 44, 2) := by decide +kernel
theorem dX3_findFault_120 : decode cX3_findFault 120 = .ok (.invokevirtual 26, 3) := by decide +kernel
theorem dX3_findFault_123 : decode cX3_findFault 123 = .ok (.ifCond .ne 6, 3) := by decide +kernel
theorem dX3_findFault_126 : decode cX3_findFault 126 = .ok (.iload 4, 2) := by decide +kernel
theorem dX3_findFault_128 : decode cX3_findFault 128 = .ok (.ireturn, 1) := by decide +kernel
theorem dX3_findFault_129 : decode cX3_findFault 129 = .ok (.iload 4, 2) := by decide +kernel
theorem dX3_findFault_131 : decode cX3_findFault 131 = .ok (.iconst 1, 1) := by decide +kernel
theorem dX3_findFault_132 : decode cX3_findFault 132 = .ok (.iadd, 1) := by decide +kernel
theorem dX3_findFault_133 : decode cX3_findFault 133 = .ok (.istore_n 2, 1) := by decide +kernel
theorem dX3_findFault_134 : decode cX3_findFault 134 = .ok (.aload_n 0, 1) := by decide +kernel
theorem dX3_findFault_135 : decode cX3_findFault 135 = .ok (.dup, 1) := by decide +kernel
theorem dX3_findFault_136 : decode cX3_findFault 136 = .ok (.getfield 23, 3) := by decide +kernel
theorem dX3_findFault_139 : decode cX3_findFault 139 = .ok (.iconst 1, 1) := by decide +kernel
theorem dX3_findFault_140 : decode cX3_findFault 140 = .ok (.iadd, 1) := by decide +kernel
theorem dX3_findFault_141 : decode cX3_findFault 141 = .ok (.putfield 23, 3) := by decide +kernel
theorem dX3_findFault_144 : decode cX3_findFault 144 = .ok (.goto (-135), 3) := by decide +kernel
theorem dX3_findFault_147 : decode cX3_findFault 147 = .ok (.iload_n 2, 1) := by decide +kernel
theorem dX3_findFault_148 : decode cX3_findFault 148 = .ok (.iconst 1, 1) := by decide +kernel
theorem dX3_findFault_149 : decode cX3_findFault 149 = .ok (.isub, 1) := by decide +kernel
theorem dX3_findFault_150 : decode cX3_findFault 150 = .ok (.ireturn, 1) := by decide +kernel
theorem dX3_isAt_0 : decode cX3_isAt 0 = .ok (.iload_n 1, 1) := by decide +kernel
theorem dX3_isAt_1 : decode cX3_isAt 1 = .ok (.aload_n 0, 1) := by decide +kernel
theorem dX3_isAt_2 : decode cX3_isAt 2 = .ok (.getfield 19, 3) := by decide +kernel
theorem dX3_isAt_5 : decode cX3_isAt 5 = .ok (.if_icmp .ge 17, 3) := by decide +kernel
theorem dX3_isAt_8 : decode cX3_isAt 8 = .ok (.aload_n 0, 1) := by decide +kernel
theorem dX3_isAt_9 : decode cX3_isAt 9 = .ok (.getfield 9, 3) := by decide +kernel
theorem dX3_isAt_12 : decode cX3_isAt 12 = .ok (.iload_n 1, 1) := by decide +kernel
theorem dX3_isAt_13 : decode cX3_isAt 13 = .ok (.caload, 1) := by decide +kernel
theorem dX3_isAt_14 : decode cX3_isAt 14 = .ok (.iload_n 2, 1) := by decide +kernel
theorem dX3_isAt_15 : decode cX3_isAt 15 = .ok (.if_icmp .ne 7, 3) := by decide +kernel
theorem dX3_isAt_18 : decode cX3_isAt 18 = .ok (.iconst 1, 1) := by decide +kernel
theorem dX3_isAt_19 : decode cX3_isAt 19 = .ok (.goto 4, 3) := by decide +kernel
theorem dX3_isAt_22 : decode cX3_isAt 22 = .ok (.iconst 0, 1) := by decide +kernel
theorem dX3_isAt_23 : decode cX3_isAt 23 = .ok (.ireturn, 1) := by decide +kernel
theorem dX3_endOfDigits_0 : decode cX3_endOfDigits 0 = .ok (.iload_n 1, 1) := by decide +kernel
theorem dX3_endOfDigits_1 : decode cX3_endOfDigits 1 = .ok (.istore_n 2, 1) := by decide +kernel
theorem dX3_endOfDigits_2 : decode cX3_endOfDigits 2 = .ok (.iload_n 2, 1) := by decide +kernel
theorem dX3_endOfDigits_3 : decode cX3_endOfDigits 3 = .ok (.iload_n 1, 1) := by decide +kernel
theorem dX3_endOfDigits_4 : decode cX3_endOfDigits 4 = .ok (.iconst 3, 1) := by decide +kernel
theorem dX3_endOfDigits_5 : decode cX3_endOfDigits 5 = .ok (.iadd, 1) := by decide +kernel
theorem dX3_endOfDigits_6 : decode cX3_endOfDigits 6 = .ok (.if_icmp .ge 39, 3) := by decide +kernel
theorem dX3_endOfDigits_9 : decode cX3_endOfDigits 9 = .ok (.iload_n 2, 1) := by decide +kernel
theorem dX3_endOfDigits_10 : decode cX3_endOfDigits 10 = .ok (.aload_n 0, 1) := by decide +kernel
theorem dX3_endOfDigits_11 : decode cX3_endOfDigits 11 = .ok (.getfield 19, 3) := by decide +kernel
theorem dX3_endOfDigits_14 : decode cX3_endOfDigits 14 = .ok (.if_icmp .ge 31, 3) := by decide +kernel
theorem dX3_endOfDigits_17 : decode cX3_endOfDigits 17 = .ok (.aload_n 0, 1) := by decide +kernel
theorem dX3_endOfDigits_18 : decode cX3_endOfDigits 18 = .ok (.getfield 9, 3) := by decide +kernel
theorem dX3_endOfDigits_21 : decode cX3_endOfDigits 21 = .ok (.iload_n 2, 1) := by decide +kernel
theorem dX3_endOfDigits_22 : decode cX3_endOfDigits 22 = .ok (.caload, 1) := by decide +kernel
theorem dX3_endOfDigits_23 : decode cX3_endOfDigits 23 = .ok (.bipush 48, 2) := by decide +kernel
theorem dX3_endOfDigits_25 : decode cX3_endOfDigits 25 = .ok (.if_icmp .lt 20, 3) := by decide +kernel
theorem dX3_endOfDigits_28 : decode cX3_endOfDigits 28 = .ok (.aload_n 0, 1) := by decide +kernel
theorem dX3_endOfDigits_29 : decode cX3_endOfDigits 29 = .ok (.getfield 9, 3) := by decide +kernel
theorem dX3_endOfDigits_32 : decode cX3_endOfDigits 32 = .ok (.iload_n 2, 1) := by decide +kernel
theorem dX3_endOfDigits_33 : decode cX3_endOfDigits 33 = .ok (.caload, 1) := by decide +kernel
theorem dX3_endOfDigits_34 : decode cX3_endOfDigits 34 = .ok (.bipush 57, 2) := by decide +kernel
theorem dX3_endOfDigits_36 : decode cX3_endOfDigits 36 = .ok (.if_icmp .gt 9, 3) := by decide +kernel
theorem dX3_endOfDigits_39 : decode cX3_endOfDigits 39 = .ok (.iinc 2 1, 3) := by decide +kernel
theorem dX3_endOfDigits_42 : decode cX3_endOfDigits 42 = .ok (.goto (-40), 3) := by decide +kernel
theorem dX3_endOfDigits_45 : decode cX3_endOfDigits 45 = .ok (.iload_n 2, 1) := by decide +kernel
theorem dX3_endOfDigits_46 : decode cX3_endOfDigits 46 = .ok (.ireturn, 1) := by decide +kernel
theorem dX3_valueOf_0 : decode cX3_valueOf 0 = .ok (.iconst 0, 1) := by decide +kernel
theorem dX3_valueOf_1 : decode cX3_valueOf 1 = .ok (.istore_n 3, 1) := by decide +kernel
theorem dX3_valueOf_2 : decode cX3_valueOf 2 = .ok (.iload_n 1, 1) := by decide +kernel
theorem dX3_valueOf_3 : decode cX3_valueOf 3 = .ok (.istore 4, 2) := by decide +kernel
theorem dX3_valueOf_5 : decode cX3_valueOf 5 = .ok (.iload 4, 2) := by decide +kernel
theorem dX3_valueOf_7 : decode cX3_valueOf 7 = .ok (.iload_n 2, 1) := by decide +kernel
theorem dX3_valueOf_8 : decode cX3_valueOf 8 = .ok (.if_icmp .ge 25, 3) := by decide +kernel
theorem dX3_valueOf_11 : decode cX3_valueOf 11 = .ok (.bipush 10, 2) := by decide +kernel
theorem dX3_valueOf_13 : decode cX3_valueOf 13 = .ok (.iload_n 3, 1) := by decide +kernel
theorem dX3_valueOf_14 : decode cX3_valueOf 14 = .ok (.imul, 1) := by decide +kernel
theorem dX3_valueOf_15 : decode cX3_valueOf 15 = .ok (.aload_n 0, 1) := by decide +kernel
theorem dX3_valueOf_16 : decode cX3_valueOf 16 = .ok (.getfield 9, 3) := by decide +kernel
theorem dX3_valueOf_19 : decode cX3_valueOf 19 = .ok (.iload 4, 2) := by decide +kernel
theorem dX3_valueOf_21 : decode cX3_valueOf 21 = .ok (.caload, 1) := by decide +kernel
theorem dX3_valueOf_22 : decode cX3_valueOf 22 = .ok (.bipush 48, 2) := by decide +kernel
theorem dX3_valueOf_24 : decode cX3_valueOf 24 = .ok (.isub, 1) := by decide +kernel
theorem dX3_valueOf_25 : decode cX3_valueOf 25 = .ok (.iadd, 1) := by decide +kernel
theorem dX3_valueOf_26 : decode cX3_valueOf 26 = .ok (.istore_n 3, 1) := by decide +kernel
theorem dX3_valueOf_27 : decode cX3_valueOf 27 = .ok (.iinc 4 1, 3) := by decide +kernel
theorem dX3_valueOf_30 : decode cX3_valueOf 30 = .ok (.goto (-25), 3) := by decide +kernel
theorem dX3_valueOf_33 : decode cX3_valueOf 33 = .ok (.iload_n 3, 1) := by decide +kernel
theorem dX3_valueOf_34 : decode cX3_valueOf 34 = .ok (.ireturn, 1) := by decide +kernel
theorem dX4_init_0 : decode cX4_init 0 = .ok (.aload_n 0, 1) := by decide +kernel
theorem dX4_init_1 : decode cX4_init 1 = .ok (.invokespecial 3, 3) := by decide +kernel
theorem dX4_init_4 : decode cX4_init 4 = .ok (.aload_n 0, 1) := by decide +kernel
theorem dX4_init_5 : decode cX4_init 5 = .ok (.bipush 20, 2) := by decide +kernel
theorem dX4_init_7 : decode cX4_init 7 = .ok (.newarray .int, 2) := by decide +kernel
theorem dX4_init_9 : decode cX4_init 9 = .ok (.putfield 9, 3) := by decide +kernel
theorem dX4_init_12 : decode cX4_init 12 = .ok (.aload_n 0, 1) := by decide +kernel
theorem dX4_init_13 : decode cX4_init 13 = .ok (.bipush 16, 2) := by decide +kernel
theorem dX4_init_15 : decode cX4_init 15 = .ok (.newarray .int, 2) := by decide +kernel
theorem dX4_init_17 : decode cX4_init 17 = .ok (.putfield 15, 3) := by decide +kernel
theorem dX4_init_20 : decode cX4_init 20 = .ok (.return_, 1) := by decide +kernel
theorem dX4_clear_0 : decode cX4_clear 0 = .ok (.aload_n 0, 1) := by decide +kernel
theorem dX4_clear_1 : decode cX4_clear 1 = .ok (.ldc 18, 2) := by decide +kernel
theorem dX4_clear_3 : decode cX4_clear 3 = .ok (.putfield 19, 3) := by decide +kernel
theorem dX4_clear_6 : decode cX4_clear 6 = .ok (.iconst 0, 1) := by decide +kernel
theorem dX4_clear_7 : decode cX4_clear 7 = .ok (.istore_n 1, 1) := by decide +kernel
theorem dX4_clear_8 : decode cX4_clear 8 = .ok (.iload_n 1, 1) := by decide +kernel
theorem dX4_clear_9 : decode cX4_clear 9 = .ok (.bipush 20, 2) := by decide +kernel
theorem dX4_clear_11 : decode cX4_clear 11 = .ok (.if_icmp .ge 16, 3) := by decide +kernel
theorem dX4_clear_14 : decode cX4_clear 14 = .ok (.aload_n 0, 1) := by decide +kernel
theorem dX4_clear_15 : decode cX4_clear 15 = .ok (.getfield 9, 3) := by decide +kernel
theorem dX4_clear_18 : decode cX4_clear 18 = .ok (.iload_n 1, 1) := by decide +kernel
theorem dX4_clear_19 : decode cX4_clear 19 = .ok (.iconst 0, 1) := by decide +kernel
theorem dX4_clear_20 : decode cX4_clear 20 = .ok (.iastore, 1) := by decide +kernel
theorem dX4_clear_21 : decode cX4_clear 21 = .ok (.iinc 1 1, 3) := by decide +kernel
theorem dX4_clear_24 : decode cX4_clear 24 = .ok (.goto (-16), 3) := by decide +kernel
theorem dX4_clear_27 : decode cX4_clear 27 = .ok (.return_, 1) := by decide +kernel
theorem dX4_ask_0 : decode cX4_ask 0 = .ok (.aload_n 0, 1) := by decide +kernel
theorem dX4_ask_1 : decode cX4_ask 1 = .ok (.getfield 9, 3) := by decide +kernel
theorem dX4_ask_4 : decode cX4_ask 4 = .ok (.iload_n 1, 1) := by decide +kernel
theorem dX4_ask_5 : decode cX4_ask 5 = .ok (.iload_n 2, 1) := by decide +kernel
theorem dX4_ask_6 : decode cX4_ask 6 = .ok (.iastore, 1) := by decide +kernel
theorem dX4_ask_7 : decode cX4_ask 7 = .ok (.return_, 1) := by decide +kernel
theorem dX4_giveTo_0 : decode cX4_giveTo 0 = .ok (.aload_n 0, 1) := by decide +kernel
theorem dX4_giveTo_1 : decode cX4_giveTo 1 = .ok (.iload_n 1, 1) := by decide +kernel
theorem dX4_giveTo_2 : decode cX4_giveTo 2 = .ok (.invokevirtual 23, 3) := by decide +kernel
theorem dX4_giveTo_5 : decode cX4_giveTo 5 = .ok (.istore_n 2, 1) := by decide +kernel
theorem dX4_giveTo_6 : decode cX4_giveTo 6 = .ok (.iconst 0, 1) := by decide +kernel
theorem dX4_giveTo_7 : decode cX4_giveTo 7 = .ok (.istore_n 3, 1) := by decide +kernel
theorem dX4_giveTo_8 : decode cX4_giveTo 8 = .ok (.iload_n 3, 1) := by decide +kernel
theorem dX4_giveTo_9 : decode cX4_giveTo 9 = .ok (.bipush 16, 2) := by decide +kernel
theorem dX4_giveTo_11 : decode cX4_giveTo 11 = .ok (.if_icmp .ge 73, 3) := by decide +kernel
theorem dX4_giveTo_14 : decode cX4_giveTo 14 = .ok (.iconst 1, 1) := by decide +kernel
theorem dX4_giveTo_15 : decode cX4_giveTo 15 = .ok (.iload_n 3, 1) := by decide +kernel
theorem dX4_giveTo_16 : decode cX4_giveTo 16 = .ok (.ishl, 1) := by decide +kernel
theorem dX4_giveTo_17 : decode cX4_giveTo 17 = .ok (.istore 4, 2) := by decide +kernel
theorem dX4_giveTo_19 : decode cX4_giveTo 19 = .ok (.aload_n 0, 1) := by decide +kernel
theorem dX4_giveTo_20 : decode cX4_giveTo 20 = .ok (.getfield 9, 3) := by decide +kernel
theorem dX4_giveTo_23 : decode cX4_giveTo 23 = .ok (.iload_n 1, 1) := by decide +kernel
theorem dX4_giveTo_24 : decode cX4_giveTo 24 = .ok (.iaload, 1) := by decide +kernel
theorem dX4_giveTo_25 : decode cX4_giveTo 25 = .ok (.aload_n 0, 1) := by decide +kernel
theorem dX4_giveTo_26 : decode cX4_giveTo 26 = .ok (.getfield 19, 3) := by decide +kernel
theorem dX4_giveTo_29 : decode cX4_giveTo 29 = .ok (.iand, 1) := by decide +kernel
theorem dX4_giveTo_30 : decode cX4_giveTo 30 = .ok (.iload 4, 2) := by decide +kernel
theorem dX4_giveTo_32 : decode cX4_giveTo 32 = .ok (.iand, 1) := by decide +kernel
theorem dX4_giveTo_33 : decode cX4_giveTo 33 = .ok (.ifCond .ne 6, 3) := by decide +kernel
theorem dX4_giveTo_36 : decode cX4_giveTo 36 = .ok (.goto 42, 3) := by decide +kernel
theorem dX4_giveTo_39 : decode cX4_giveTo 39 = .ok (.aload_n 0, 1) := by decide +kernel
theorem dX4_giveTo_40 : decode cX4_giveTo 40 = .ok (.dup, 1) := by decide +kernel
theorem dX4_giveTo_41 : decode cX4_giveTo 41 = .ok (.getfield 19, 3) := by decide +kernel
theorem dX4_giveTo_44 : decode cX4_giveTo 44 = .ok (.iload 4, 2) := by decide +kernel
theorem dX4_giveTo_46 : decode cX4_giveTo 46 = .ok (.iconst (-1), 1) := by decide +kernel
theorem dX4_giveTo_47 : decode cX4_giveTo 47 = .ok (.ixor, 1) := by decide +kernel
theorem dX4_giveTo_48 : decode cX4_giveTo 48 = .ok (.iand, 1) := by decide +kernel
theorem dX4_giveTo_49 : decode cX4_giveTo 49 = .ok (.putfield 19, 3) := by decide +kernel
theorem dX4_giveTo_52 : decode cX4_giveTo 52 = .ok (.aload_n 0, 1) := by decide +kernel
theorem dX4_giveTo_53 : decode cX4_giveTo 53 = .ok (.iload_n 1, 1) := by decide +kernel
theorem dX4_giveTo_54 : decode cX4_giveTo 54 = .ok (.iconst 1, 1) := by decide +kernel
theorem dX4_giveTo_55 : decode cX4_giveTo 55 = .ok (.iadd, 1) := by decide +kernel
theorem dX4_giveTo_56 : decode cX4_giveTo 56 = .ok (.invokevirtual 23, 3) := by decide +kernel
theorem dX4_giveTo_59 : decode cX4_giveTo 59 = .ok (.iconst 1, 1) := by decide +kernel
theorem dX4_giveTo_60 : decode cX4_giveTo 60 = .ok (.iadd, 1) := by decide +kernel
theorem dX4_giveTo_61 : decode cX4_giveTo 61 = .ok (.iload_n 2, 1) := by decide +kernel
theorem dX4_giveTo_62 : decode cX4_giveTo 62 = .ok (.if_icmp .ne 5, 3) := by decide +kernel
theorem dX4_giveTo_65 : decode cX4_giveTo 65 = .ok (.iload_n 3, 1) := by decide +kernel
theorem dX4_giveTo_66 : decode cX4_giveTo 66 = .ok (.ireturn, 1) := by decide +kernel
theorem dX4_giveTo_67 : decode cX4_giveTo 67 = .ok (.aload_n 0, 1) := by decide +kernel
theorem dX4_giveTo_68 : decode cX4_giveTo 68 = .ok (.dup, 1) := by decide +kernel
theorem dX4_giveTo_69 : decode cX4_giveTo 69 = .ok (.getfield 19, 3) := by decide +kernel
theorem dX4_giveTo_72 : decode cX4_giveTo 72 = .ok (.iload 4, 2) := by decide +kernel
theorem dX4_giveTo_74 : decode cX4_giveTo 74 = .ok (.ior, 1) := by decide +kernel
theorem dX4_giveTo_75 : decode cX4_giveTo 75 = .ok (.putfield 19, 3) := by decide +kernel
theorem dX4_giveTo_78 : decode cX4_giveTo 78 = .ok (.iinc 3 1, 3) := by decide +kernel
theorem dX4_giveTo_81 : decode cX4_giveTo 81 = .ok (.goto (-73), 3) := by decide +kernel
theorem dX4_giveTo_84 : decode cX4_giveTo 84 = .ok (.iconst (-1), 1) := by decide +kernel
theorem dX4_giveTo_85 : decode cX4_giveTo 85 = .ok (.ireturn, 1) := by decide +kernel
theorem dX4_mostFrom_0 : decode cX4_mostFrom 0 = .ok (.iconst 0, 1) := by decide +kernel
theorem dX4_mostFrom_1 : decode cX4_mostFrom 1 = .ok (.istore_n 2, 1) := by decide +kernel
theorem dX4_mostFrom_2 : decode cX4_mostFrom 2 = .ok (.iload_n 2, 1) := by decide +kernel
theorem dX4_mostFrom_3 : decode cX4_mostFrom 3 = .ok (.bipush 16, 2) := by decide +kernel
theorem dX4_mostFrom_5 : decode cX4_mostFrom 5 = .ok (.if_icmp .ge 16, 3) := by decide +kernel
theorem dX4_mostFrom_8 : decode cX4_mostFrom 8 = .ok (.aload_n 0, 1) := by decide +kernel
theorem dX4_mostFrom_9 : decode cX4_mostFrom 9 = .ok (.getfield 15, 3) := by decide +kernel
theorem dX4_mostFrom_12 : decode cX4_mostFrom 12 = .ok (.iload_n 2, 1) := by decide +kernel
theorem dX4_mostFrom_13 : decode cX4_mostFrom 13 = .ok (.iconst (-1), 1) := by decide +kernel
theorem dX4_mostFrom_14 : decode cX4_mostFrom 14 = .ok (.iastore, 1) := by decide +kernel
theorem dX4_mostFrom_15 : decode cX4_mostFrom 15 = .ok (.iinc 2 1, 3) := by decide +kernel
theorem dX4_mostFrom_18 : decode cX4_mostFrom 18 = .ok (.goto (-16), 3) := by decide +kernel
theorem dX4_mostFrom_21 : decode cX4_mostFrom 21 = .ok (.iconst 0, 1) := by decide +kernel
theorem dX4_mostFrom_22 : decode cX4_mostFrom 22 = .ok (.istore_n 2, 1) := by decide +kernel
theorem dX4_mostFrom_23 : decode cX4_mostFrom 23 = .ok (.iload_n 1, 1) := by decide +kernel
theorem dX4_mostFrom_24 : decode cX4_mostFrom 24 = .ok (.istore_n 3, 1) := by decide +kernel
theorem dX4_mostFrom_25 : decode cX4_mostFrom 25 = .ok (.iload_n 3, 1) := by decide +kernel
theorem dX4_mostFrom_26 : decode cX4_mostFrom 26 = .ok (.bipush 20, 2) := by decide +kernel
theorem dX4_mostFrom_28 : decode cX4_mostFrom 28 = .ok (.if_icmp .ge 26, 3) := by decide +kernel
theorem dX4_mostFrom_31 : decode cX4_mostFrom 31 = .ok (.aload_n 0, 1) := by decide +kernel
theorem dX4_mostFrom_32 : decode cX4_mostFrom 32 = .ok (.iconst 0, 1) := by decide +kernel
theorem dX4_mostFrom_33 : decode cX4_mostFrom 33 = .ok (.putfield 27, 3) := by decide +kernel
theorem dX4_mostFrom_36 : decode cX4_mostFrom 36 = .ok (.aload_n 0, 1) := by decide +kernel
theorem dX4_mostFrom_37 : decode cX4_mostFrom 37 = .ok (.iload_n 3, 1) := by decide +kernel
theorem dX4_mostFrom_38 : decode cX4_mostFrom 38 = .ok (.iconst 0, 1) := by decide +kernel
theorem dX4_mostFrom_39 : decode cX4_mostFrom 39 = .ok (.invokestatic 30, 3) := by decide +kernel
theorem dX4_mostFrom_42 : decode cX4_mostFrom 42 = .ok (.ifCond .eq 6, 3) := by decide +kernel
theorem dX4_mostFrom_45 : decode cX4_mostFrom 45 = .ok (.iinc 2 1, 3) := by decide +kernel
theorem dX4_mostFrom_48 : decode cX4_mostFrom 48 = .ok (.iinc 3 1, 3) := by decide +kernel
theorem dX4_mostFrom_51 : decode cX4_mostFrom 51 = .ok (.goto (-26), 3) := by decide +kernel
theorem dX4_mostFrom_54 : decode cX4_mostFrom 54 = .ok (.iload_n 2, 1) := by decide +kernel
theorem dX4_mostFrom_55 : decode cX4_mostFrom 55 = .ok (.ireturn, 1) := by decide +kernel
theorem dX4_findsBerth_0 : decode cX4_findsBerth 0 = .ok (.iload_n 1, 1) := by decide +kernel
theorem dX4_findsBerth_1 : decode cX4_findsBerth 1 = .ok (.ifCond .lt 15, 3) := by decide +kernel
theorem dX4_findsBerth_4 : decode cX4_findsBerth 4 = .ok (.iload_n 1, 1) := by decide +kernel
theorem dX4_findsBerth_5 : decode cX4_findsBerth 5 = .ok (.bipush 20, 2) := by decide +kernel
theorem dX4_findsBerth_7 : decode cX4_findsBerth 7 = .ok (.if_icmp .ge 9, 3) := by decide +kernel
theorem dX4_findsBerth_10 : decode cX4_findsBerth 10 = .ok (.iload_n 2, 1) := by decide +kernel
theorem dX4_findsBerth_11 : decode cX4_findsBerth 11 = .ok (.bipush 16, 2) := by decide +kernel
theorem dX4_findsBerth_13 : decode cX4_findsBerth 13 = .ok (.if_icmp .le 5, 3) := by decide +kernel
theorem dX4_findsBerth_16 : decode cX4_findsBerth 16 = .ok (.iconst 0, 1) := by decide +kernel
theorem dX4_findsBerth_17 : decode cX4_findsBerth 17 = .ok (.ireturn, 1) := by decide +kernel
theorem dX4_findsBerth_18 : decode cX4_findsBerth 18 = .ok (.iconst 0, 1) := by decide +kernel
theorem dX4_findsBerth_19 : decode cX4_findsBerth 19 = .ok (.istore_n 3, 1) := by decide +kernel
theorem dX4_findsBerth_20 : decode cX4_findsBerth 20 = .ok (.iload_n 3, 1) := by decide +kernel
theorem dX4_findsBerth_21 : decode cX4_findsBerth 21 = .ok (.bipush 16, 2) := by decide +kernel
theorem dX4_findsBerth_23 : decode cX4_findsBerth 23 = .ok (.if_icmp .ge 87, 3) := by decide +kernel
theorem dX4_findsBerth_26 : decode cX4_findsBerth 26 = .ok (.iconst 1, 1) := by decide +kernel
theorem dX4_findsBerth_27 : decode cX4_findsBerth 27 = .ok (.iload_n 3, 1) := by decide +kernel
theorem dX4_findsBerth_28 : decode cX4_findsBerth 28 = .ok (.ishl, 1) := by decide +kernel
theorem dX4_findsBerth_29 : decode cX4_findsBerth 29 = .ok (.istore 4, 2) := by decide +kernel
theorem dX4_findsBerth_31 : decode cX4_findsBerth 31 = .ok (.aload_n 0, 1) := by decide +kernel
theorem dX4_findsBerth_32 : decode cX4_findsBerth 32 = .ok (.getfield 9, 3) := by decide +kernel
theorem dX4_findsBerth_35 : decode cX4_findsBerth 35 = .ok (.iload_n 1, 1) := by decide +kernel
theorem dX4_findsBerth_36 : decode cX4_findsBerth 36 = .ok (.iaload, 1) := by decide +kernel
theorem dX4_findsBerth_37 : decode cX4_findsBerth 37 = .ok (.aload_n 0, 1) := by decide +kernel
theorem dX4_findsBerth_38 : decode cX4_findsBerth 38 = .ok (.getfield 19, 3) := by decide +kernel
theorem dX4_findsBerth_41 : decode cX4_findsBerth 41 = .ok (.iand, 1) := by decide +kernel
theorem dX4_findsBerth_42 : decode cX4_findsBerth 42 = .ok (.aload_n 0, 1) := by decide +kernel
theorem dX4_findsBerth_43 : decode cX4_findsBerth 43 = .ok (.getfield 27, 3) := by decide +kernel
theorem dX4_findsBerth_46 : decode cX4_findsBerth 46 = .ok (.iconst (-1), 1) := by decide +kernel
theorem dX4_findsBerth_47 : decode cX4_findsBerth 47 = .ok (.ixor, 1) := by decide +kernel
theorem dX4_findsBerth_48 : decode cX4_findsBerth 48 = .ok (.iand, 1) := by decide +kernel
theorem dX4_findsBerth_49 : decode cX4_findsBerth 49 = .ok (.iload 4, 2) := by decide +kernel
theorem dX4_findsBerth_51 : decode cX4_findsBerth 51 = .ok (.iand, 1) := by decide +kernel
theorem dX4_findsBerth_52 : decode cX4_findsBerth 52 = .ok (.ifCond .ne 6, 3) := by decide +kernel
theorem dX4_findsBerth_55 : decode cX4_findsBerth 55 = .ok (.goto 49, 3) := by decide +kernel
theorem dX4_findsBerth_58 : decode cX4_findsBerth 58 = .ok (.aload_n 0, 1) := by decide +kernel
theorem dX4_findsBerth_59 : decode cX4_findsBerth 59 = .ok (.dup, 1) := by decide +kernel
theorem dX4_findsBerth_60 : decode cX4_findsBerth 60 = .ok (.getfield 27, 3) := by decide +kernel
theorem dX4_findsBerth_63 : decode cX4_findsBerth 63 = .ok (.iload 4, 2) := by decide +kernel
theorem dX4_findsBerth_65 : decode cX4_findsBerth 65 = .ok (.ior, 1) := by decide +kernel
theorem dX4_findsBerth_66 : decode cX4_findsBerth 66 = .ok (.putfield 27, 3) := by decide +kernel
theorem dX4_findsBerth_69 : decode cX4_findsBerth 69 = .ok (.aload_n 0, 1) := by decide +kernel
theorem dX4_findsBerth_70 : decode cX4_findsBerth 70 = .ok (.getfield 15, 3) := by decide +kernel
theorem dX4_findsBerth_73 : decode cX4_findsBerth 73 = .ok (.iload_n 3, 1) := by decide +kernel
theorem dX4_findsBerth_74 : decode cX4_findsBerth 74 = .ok (.iaload, 1) := by decide +kernel
theorem dX4_findsBerth_75 : decode cX4_findsBerth 75 = .ok (.iconst (-1), 1) := by decide +kernel
theorem dX4_findsBerth_76 : decode cX4_findsBerth 76 = .ok (.if_icmp .eq 19, 3) := by decide +kernel
theorem dX4_findsBerth_79 : decode cX4_findsBerth 79 = .ok (.aload_n 0, 1) := by decide +kernel
theorem dX4_findsBerth_80 : decode cX4_findsBerth 80 = .ok (.aload_n 0, 1) := by decide +kernel
theorem dX4_findsBerth_81 : decode cX4_findsBerth 81 = .ok (.getfield 15, 3) := by decide +kernel
theorem dX4_findsBerth_84 : decode cX4_findsBerth 84 = .ok (.iload_n 3, 1) := by decide +kernel
theorem dX4_findsBerth_85 : decode cX4_findsBerth 85 = .ok (.iaload, 1) := by decide +kernel
theorem dX4_findsBerth_86 : decode cX4_findsBerth 86 = .ok (.iload_n 2, 1) := by decide +kernel
theorem dX4_findsBerth_87 : decode cX4_findsBerth 87 = .ok (.iconst 1, 1) := by decide +kernel
theorem dX4_findsBerth_88 : decode cX4_findsBerth 88 = .ok (.iadd, 1) := by decide +kernel
theorem dX4_findsBerth_89 : decode cX4_findsBerth 89 = .ok (.invokestatic 30, 3) := by decide +kernel
theorem dX4_findsBerth_92 : decode cX4_findsBerth 92 = .ok (.ifCond .eq 12, 3) := by decide +kernel
theorem dX4_findsBerth_95 : decode cX4_findsBerth 95 = .ok (.aload_n 0, 1) := by decide +kernel
theorem dX4_findsBerth_96 : decode cX4_findsBerth 96 = .ok (.getfield 15, 3) := by decide +kernel
theorem dX4_findsBerth_99 : decode cX4_findsBerth 99 = .ok (.iload_n 3, 1) := by decide +kernel
theorem dX4_findsBerth_100 : decode cX4_findsBerth 100 = .ok (.iload_n 1, 1) := by decide +kernel
theorem dX4_findsBerth_101 : decode cX4_findsBerth 101 = .ok (.iastore, 1) := by decide +kernel
theorem dX4_findsBerth_102 : decode cX4_findsBerth 102 = .ok (.iconst 1, 1) := by decide +kernel
theorem dX4_findsBerth_103 : decode cX4_findsBerth 103 = .ok (.ireturn, 1) := by decide +kernel
theorem dX4_findsBerth_104 : decode cX4_findsBerth 104 = .ok (.iinc 3 1, 3) := by decide +kernel
theorem dX4_findsBerth_107 : decode cX4_findsBerth 107 = .ok (.goto (-87), 3) := by decide +kernel
theorem dX4_findsBerth_110 : decode cX4_findsBerth 110 = .ok (.iconst 0, 1) := by decide +kernel
theorem dX4_findsBerth_111 : decode cX4_findsBerth 111 = .ok (.ireturn, 1) := by decide +kernel
end
section
theorem dX5_init_0 : decode cX5_init 0 = .ok (.aload_n 0, 1) := by decide +kernel
theorem dX5_init_1 : decode cX5_init 1 = .ok (.invokespecial 1, 3) := by decide +kernel
theorem dX5_init_4 : decode cX5_init 4 = .ok (.aload_n 0, 1) := by decide +kernel
theorem dX5_init_5 : decode cX5_init 5 = .ok (.new 7, 3) := by decide +kernel
theorem dX5_init_8 : decode cX5_init 8 = .ok (.dup, 1) := by decide +kernel
theorem dX5_init_9 : decode cX5_init 9 = .ok (.invokespecial 9, 3) := by decide +kernel
theorem dX5_init_12 : decode cX5_init 12 = .ok (.putfield 10, 3) := by decide +kernel
theorem dX5_init_15 : decode cX5_init 15 = .ok (.aload_n 0, 1) := by decide +kernel
theorem dX5_init_16 : decode cX5_init 16 = .ok (.new 7, 3) := by decide +kernel
theorem dX5_init_19 : decode cX5_init 19 = .ok (.dup, 1) := by decide +kernel
theorem dX5_init_20 : decode cX5_init 20 = .ok (.invokespecial 9, 3) := by decide +kernel
theorem dX5_init_23 : decode cX5_init 23 = .ok (.putfield 16, 3) := by decide +kernel
theorem dX5_init_26 : decode cX5_init 26 = .ok (.aload_n 0, 1) := by decide +kernel
theorem dX5_init_27 : decode cX5_init 27 = .ok (.iconst 4, 1) := by decide +kernel
theorem dX5_init_28 : decode cX5_init 28 = .ok (.anewarray 7, 3) := by decide +kernel
theorem dX5_init_31 : decode cX5_init 31 = .ok (.putfield 19, 3) := by decide +kernel
theorem dX5_init_34 : decode cX5_init 34 = .ok (.aload_n 0, 1) := by decide +kernel
theorem dX5_init_35 : decode cX5_init 35 = .ok (.new 23, 3) := by decide +kernel
theorem dX5_init_38 : decode cX5_init 38 = .ok (.dup, 1) := by decide +kernel
theorem dX5_init_39 : decode cX5_init 39 = .ok (.invokespecial 25, 3) := by decide +kernel
theorem dX5_init_42 : decode cX5_init 42 = .ok (.putfield 26, 3) := by decide +kernel
theorem dX5_init_45 : decode cX5_init 45 = .ok (.aload_n 0, 1) := by decide +kernel
theorem dX5_init_46 : decode cX5_init 46 = .ok (.new 30, 3) := by decide +kernel
theorem dX5_init_49 : decode cX5_init 49 = .ok (.dup, 1) := by decide +kernel
theorem dX5_init_50 : decode cX5_init 50 = .ok (.invokespecial 32, 3) := by decide +kernel
theorem dX5_init_53 : decode cX5_init 53 = .ok (.putfield 33, 3) := by decide +kernel
theorem dX5_init_56 : decode cX5_init 56 = .ok (.iconst 0, 1) := by decide +kernel
theorem dX5_init_57 : decode cX5_init 57 = .ok (.istore_n 1, 1) := by decide +kernel
theorem dX5_init_58 : decode cX5_init 58 = .ok (.iload_n 1, 1) := by decide +kernel
theorem dX5_init_59 : decode cX5_init 59 = .ok (.iconst 4, 1) := by decide +kernel
theorem dX5_init_60 : decode cX5_init 60 = .ok (.if_icmp .ge 22, 3) := by decide +kernel
theorem dX5_init_63 : decode cX5_init 63 = .ok (.aload_n 0, 1) := by decide +kernel
theorem dX5_init_64 : decode cX5_init 64 = .ok (.getfield 19, 3) := by decide +kernel
theorem dX5_init_67 : decode cX5_init 67 = .ok (.iload_n 1, 1) := by decide +kernel
theorem dX5_init_68 : decode cX5_init 68 = .ok (.new 7, 3) := by decide +kernel
theorem dX5_init_71 : decode cX5_init 71 = .ok (.dup, 1) := by decide +kernel
theorem dX5_init_72 : decode cX5_init 72 = .ok (.invokespecial 9, 3) := by decide +kernel
theorem dX5_init_75 : decode cX5_init 75 = .ok (.aastore, 1) := by decide +kernel
theorem dX5_init_76 : decode cX5_init 76 = .ok (.iinc 1 1, 3) := by decide +kernel
theorem dX5_init_79 : decode cX5_init 79 = .ok (.goto (-21), 3) := by decide +kernel
theorem dX5_init_82 : decode cX5_init 82 = .ok (.return_, 1) := by decide +kernel
theorem dX5_setTable_0 : decode cX5_setTable 0 = .ok (.aload_n 0, 1) := by decide +kernel
theorem dX5_setTable_1 : decode cX5_setTable 1 = .ok (.getfield 33, 3) := by decide +kernel
theorem dX5_setTable_4 : decode cX5_setTable 4 = .ok (.invokevirtual 37, 3) := by decide +kernel
theorem dX5_setTable_7 : decode cX5_setTable 7 = .ok (.iconst (-1), 1) := by decide +kernel
theorem dX5_setTable_8 : decode cX5_setTable 8 = .ok (.if_icmp .eq 13, 3) := by decide +kernel
theorem dX5_setTable_11 : decode cX5_setTable 11 = .ok (.new 41, 3) := by decide +kernel
theorem dX5_setTable_14 : decode cX5_setTable 14 = .ok (.dup, 1) := by decide +kernel
theorem dX5_setTable_15 : decode cX5_setTable 15 = .ok (.ldc 43, 2) := by decide +kernel
theorem dX5_setTable_17 : decode cX5_setTable 17 = .ok (.invokespecial 45, 3) := by decide +kernel
theorem dX5_setTable_20 : decode cX5_setTable 20 = .ok (.athrow, 1) := by decide +kernel
theorem dX5_setTable_21 : decode cX5_setTable 21 = .ok (.aload_n 0, 1) := by decide +kernel
theorem dX5_setTable_22 : decode cX5_setTable 22 = .ok (.invokevirtual 48, 3) := by decide +kernel
theorem dX5_setTable_25 : decode cX5_setTable 25 = .ok (.aload_n 0, 1) := by decide +kernel
theorem dX5_setTable_26 : decode cX5_setTable 26 = .ok (.getfield 10, 3) := by decide +kernel
theorem dX5_setTable_29 : decode cX5_setTable 29 = .ok (.aload_n 0, 1) := by decide +kernel
theorem dX5_setTable_30 : decode cX5_setTable 30 = .ok (.getfield 33, 3) := by decide +kernel
theorem dX5_setTable_33 : decode cX5_setTable 33 = .ok (.invokevirtual 51, 3) := by decide +kernel
theorem dX5_setTable_36 : decode cX5_setTable 36 = .ok (.aload_n 0, 1) := by decide +kernel
theorem dX5_setTable_37 : decode cX5_setTable 37 = .ok (.getfield 10, 3) := by decide +kernel
theorem dX5_setTable_40 : decode cX5_setTable 40 = .ok (.getfield 55, 3) := by decide +kernel
theorem dX5_setTable_43 : decode cX5_setTable 43 = .ok (.ireturn, 1) := by decide +kernel
theorem dX5_low_0 : decode cX5_low 0 = .ok (.iload_n 1, 1) := by decide +kernel
theorem dX5_low_1 : decode cX5_low 1 = .ok (.ifCond .ge 13, 3) := by decide +kernel
theorem dX5_low_4 : decode cX5_low 4 = .ok (.new 41, 3) := by decide +kernel
theorem dX5_low_7 : decode cX5_low 7 = .ok (.dup, 1) := by decide +kernel
theorem dX5_low_8 : decode cX5_low 8 = .ok (.ldc 59, 2) := by decide +kernel
theorem dX5_low_10 : decode cX5_low 10 = .ok (.invokespecial 45, 3) := by decide +kernel
theorem dX5_low_13 : decode cX5_low 13 = .ok (.athrow, 1) := by decide +kernel
theorem dX5_low_14 : decode cX5_low 14 = .ok (.aload_n 0, 1) := by decide +kernel
theorem dX5_low_15 : decode cX5_low 15 = .ok (.getfield 10, 3) := by decide +kernel
theorem dX5_low_18 : decode cX5_low 18 = .ok (.iload_n 1, 1) := by decide +kernel
theorem dX5_low_19 : decode cX5_low 19 = .ok (.invokevirtual 61, 3) := by decide +kernel
theorem dX5_low_22 : decode cX5_low 22 = .ok (.ireturn, 1) := by decide +kernel
theorem dX5_addBerth_0 : decode cX5_addBerth 0 = .ok (.iload_n 1, 1) := by decide +kernel
theorem dX5_addBerth_1 : decode cX5_addBerth 1 = .ok (.bipush 50, 2) := by decide +kernel
theorem dX5_addBerth_3 : decode cX5_addBerth 3 = .ok (.sipush 900, 3) := by decide +kernel
theorem dX5_addBerth_6 : decode cX5_addBerth 6 = .ok (.invokestatic 65, 3) := by decide +kernel
theorem dX5_addBerth_9 : decode cX5_addBerth 9 = .ok (.ifCond .eq 23, 3) := by decide +kernel
theorem dX5_addBerth_12 : decode cX5_addBerth 12 = .ok (.iload_n 2, 1) := by decide +kernel
theorem dX5_addBerth_13 : decode cX5_addBerth 13 = .ok (.bipush 30, 2) := by decide +kernel
theorem dX5_addBerth_15 : decode cX5_addBerth 15 = .ok (.sipush 400, 3) := by decide +kernel
theorem dX5_addBerth_18 : decode cX5_addBerth 18 = .ok (.invokestatic 65, 3) := by decide +kernel
theorem dX5_addBerth_21 : decode cX5_addBerth 21 = .ok (.ifCond .eq 11, 3) := by decide +kernel
theorem dX5_addBerth_24 : decode cX5_addBerth 24 = .ok (.iload 4, 2) := by decide +kernel
theorem dX5_addBerth_26 : decode cX5_addBerth 26 = .ok (.invokestatic 69, 3) := by decide +kernel
theorem dX5_addBerth_29 : decode cX5_addBerth 29 = .ok (.ifCond .ne 13, 3) := by decide +kernel
theorem dX5_addBerth_32 : decode cX5_addBerth 32 = .ok (.new 41, 3) := by decide +kernel
theorem dX5_addBerth_35 : decode cX5_addBerth 35 = .ok (.dup, 1) := by decide +kernel
theorem dX5_addBerth_36 : decode cX5_addBerth 36 = .ok (.ldc 73, 2) := by decide +kernel
theorem dX5_addBerth_38 : decode cX5_addBerth 38 = .ok (.invokespecial 45, 3) := by decide +kernel
theorem dX5_addBerth_41 : decode cX5_addBerth 41 = .ok (.athrow, 1) := by decide +kernel
theorem dX5_addBerth_42 : decode cX5_addBerth 42 = .ok (.aload_n 0, 1) := by decide +kernel
theorem dX5_addBerth_43 : decode cX5_addBerth 43 = .ok (.getfield 10, 3) := by decide +kernel
theorem dX5_addBerth_46 : decode cX5_addBerth 46 = .ok (.getfield 75, 3) := by decide +kernel
theorem dX5_addBerth_49 : decode cX5_addBerth 49 = .ok (.bipush 16, 2) := by decide +kernel
theorem dX5_addBerth_51 : decode cX5_addBerth 51 = .ok (.if_icmp .lt 13, 3) := by decide +kernel
theorem dX5_addBerth_54 : decode cX5_addBerth 54 = .ok (.new 78, 3) := by decide +kernel
theorem dX5_addBerth_57 : decode cX5_addBerth 57 = .ok (.dup, 1) := by decide +kernel
theorem dX5_addBerth_58 : decode cX5_addBerth 58 = .ok (.ldc 80, 2) := by decide +kernel
theorem dX5_addBerth_60 : decode cX5_addBerth 60 = .ok (.invokespecial 82, 3) := by decide +kernel
theorem dX5_addBerth_63 : decode cX5_addBerth 63 = .ok (.athrow, 1) := by decide +kernel
theorem dX5_addBerth_64 : decode cX5_addBerth 64 = .ok (.aload_n 0, 1) := by decide +kernel
theorem dX5_addBerth_65 : decode cX5_addBerth 65 = .ok (.invokevirtual 48, 3) := by decide +kernel
theorem dX5_addBerth_68 : decode cX5_addBerth 68 = .ok (.aload_n 0, 1) := by decide +kernel
theorem dX5_addBerth_69 : decode cX5_addBerth 69 = .ok (.getfield 10, 3) := by decide +kernel
theorem dX5_addBerth_72 : decode cX5_addBerth 72 = .ok (.getfield 75, 3) := by decide +kernel
theorem dX5_addBerth_75 : decode cX5_addBerth 75 = .ok (.istore 5, 2) := by decide +kernel
theorem dX5_addBerth_77 : decode cX5_addBerth 77 = .ok (.aload_n 0, 1) := by decide +kernel
theorem dX5_addBerth_78 : decode cX5_addBerth 78 = .ok (.getfield 10, 3) := by decide +kernel
theorem dX5_addBerth_81 : decode cX5_addBerth 81 = .ok (.getfield 83, 3) := by decide +kernel
theorem dX5_addBerth_84 : decode cX5_addBerth 84 = .ok (.iload 5, 2) := by decide +kernel
theorem dX5_addBerth_86 : decode cX5_addBerth 86 = .ok (.aaload, 1) := by decide +kernel
theorem dX5_addBerth_87 : decode cX5_addBerth 87 = .ok (.iload_n 1, 1) := by decide +kernel
theorem dX5_addBerth_88 : decode cX5_addBerth 88 = .ok (.iload_n 2, 1) := by decide +kernel
theorem dX5_addBerth_89 : decode cX5_addBerth 89 = .ok (.iload_n 3, 1) := by decide +kernel
theorem dX5_addBerth_90 : decode cX5_addBerth 90 = .ok (.iload 4, 2) := by decide +kernel
theorem dX5_addBerth_92 : decode cX5_addBerth 92 = .ok (.invokevirtual 87, 3) := by decide +kernel
theorem dX5_addBerth_95 : decode cX5_addBerth 95 = .ok (.aload_n 0, 1) := by decide +kernel
theorem dX5_addBerth_96 : decode cX5_addBerth 96 = .ok (.getfield 10, 3) := by decide +kernel
theorem dX5_addBerth_99 : decode cX5_addBerth 99 = .ok (.iload 5, 2) := by decide +kernel
theorem dX5_addBerth_101 : decode cX5_addBerth 101 = .ok (.iconst 1, 1) := by decide +kernel
theorem dX5_addBerth_102 : decode cX5_addBerth 102 = .ok (.iadd, 1) := by decide +kernel
theorem dX5_addBerth_103 : decode cX5_addBerth 103 = .ok (.putfield 75, 3) := by decide +kernel
theorem dX5_addBerth_106 : decode cX5_addBerth 106 = .ok (.iload 5, 2) := by decide +kernel
theorem dX5_addBerth_108 : decode cX5_addBerth 108 = .ok (.ireturn, 1) := by decide +kernel
theorem dX5_addBoat_0 : decode cX5_addBoat 0 = .ok (.iload_n 1, 1) := by decide +kernel
theorem dX5_addBoat_1 : decode cX5_addBoat 1 = .ok (.bipush 30, 2) := by decide +kernel
theorem dX5_addBoat_3 : decode cX5_addBoat 3 = .ok (.sipush 400, 3) := by decide +kernel
theorem dX5_addBoat_6 : decode cX5_addBoat 6 = .ok (.invokestatic 65, 3) := by decide +kernel
theorem dX5_addBoat_9 : decode cX5_addBoat 9 = .ok (.ifCond .eq 25, 3) := by decide +kernel
theorem dX5_addBoat_12 : decode cX5_addBoat 12 = .ok (.iload_n 2, 1) := by decide +kernel
theorem dX5_addBoat_13 : decode cX5_addBoat 13 = .ok (.bipush 20, 2) := by decide +kernel
theorem dX5_addBoat_15 : decode cX5_addBoat 15 = .ok (.sipush 500, 3) := by decide +kernel
theorem dX5_addBoat_18 : decode cX5_addBoat 18 = .ok (.invokestatic 65, 3) := by decide +kernel
theorem dX5_addBoat_21 : decode cX5_addBoat 21 = .ok (.ifCond .eq 13, 3) := by decide +kernel
theorem dX5_addBoat_24 : decode cX5_addBoat 24 = .ok (.iload_n 3, 1) := by decide +kernel
theorem dX5_addBoat_25 : decode cX5_addBoat 25 = .ok (.iconst 0, 1) := by decide +kernel
theorem dX5_addBoat_26 : decode cX5_addBoat 26 = .ok (.bipush 99, 2) := by decide +kernel
theorem dX5_addBoat_28 : decode cX5_addBoat 28 = .ok (.invokestatic 65, 3) := by decide +kernel
theorem dX5_addBoat_31 : decode cX5_addBoat 31 = .ok (.ifCond .ne 13, 3) := by decide +kernel
theorem dX5_addBoat_34 : decode cX5_addBoat 34 = .ok (.new 41, 3) := by decide +kernel
theorem dX5_addBoat_37 : decode cX5_addBoat 37 = .ok (.dup, 1) := by decide +kernel
theorem dX5_addBoat_38 : decode cX5_addBoat 38 = .ok (.ldc 93, 2) := by decide +kernel
theorem dX5_addBoat_40 : decode cX5_addBoat 40 = .ok (.invokespecial 45, 3) := by decide +kernel
theorem dX5_addBoat_43 : decode cX5_addBoat 43 = .ok (.athrow, 1) := by decide +kernel
theorem dX5_addBoat_44 : decode cX5_addBoat 44 = .ok (.aload_n 0, 1) := by decide +kernel
theorem dX5_addBoat_45 : decode cX5_addBoat 45 = .ok (.getfield 10, 3) := by decide +kernel
theorem dX5_addBoat_48 : decode cX5_addBoat 48 = .ok (.getfield 95, 3) := by decide +kernel
theorem dX5_addBoat_51 : decode cX5_addBoat 51 = .ok (.bipush 20, 2) := by decide +kernel
theorem dX5_addBoat_53 : decode cX5_addBoat 53 = .ok (.if_icmp .lt 13, 3) := by decide +kernel
theorem dX5_addBoat_56 : decode cX5_addBoat 56 = .ok (.new 78, 3) := by decide +kernel
theorem dX5_addBoat_59 : decode cX5_addBoat 59 = .ok (.dup, 1) := by decide +kernel
theorem dX5_addBoat_60 : decode cX5_addBoat 60 = .ok (.ldc 98, 2) := by decide +kernel
theorem dX5_addBoat_62 : decode cX5_addBoat 62 = .ok (.invokespecial 82, 3) := by decide +kernel
theorem dX5_addBoat_65 : decode cX5_addBoat 65 = .ok (.athrow, 1) := by decide +kernel
theorem dX5_addBoat_66 : decode cX5_addBoat 66 = .ok (.aload_n 0, 1) := by decide +kernel
theorem dX5_addBoat_67 : decode cX5_addBoat 67 = .ok (.invokevirtual 48, 3) := by decide +kernel
theorem dX5_addBoat_70 : decode cX5_addBoat 70 = .ok (.aload_n 0, 1) := by decide +kernel
theorem dX5_addBoat_71 : decode cX5_addBoat 71 = .ok (.getfield 10, 3) := by decide +kernel
theorem dX5_addBoat_74 : decode cX5_addBoat 74 = .ok (.getfield 95, 3) := by decide +kernel
theorem dX5_addBoat_77 : decode cX5_addBoat 77 = .ok (.istore 4, 2) := by decide +kernel
theorem dX5_addBoat_79 : decode cX5_addBoat 79 = .ok (.aload_n 0, 1) := by decide +kernel
theorem dX5_addBoat_80 : decode cX5_addBoat 80 = .ok (.getfield 10, 3) := by decide +kernel
theorem dX5_addBoat_83 : decode cX5_addBoat 83 = .ok (.getfield 100, 3) := by decide +kernel
theorem dX5_addBoat_86 : decode cX5_addBoat 86 = .ok (.iload 4, 2) := by decide +kernel
theorem dX5_addBoat_88 : decode cX5_addBoat 88 = .ok (.aaload, 1) := by decide +kernel
theorem dX5_addBoat_89 : decode cX5_addBoat 89 = .ok (.iload_n 1, 1) := by decide +kernel
theorem dX5_addBoat_90 : decode cX5_addBoat 90 = .ok (.iload_n 2, 1) := by decide +kernel
theorem dX5_addBoat_91 : decode cX5_addBoat 91 = .ok (.iload_n 3, 1) := by decide +kernel
theorem dX5_addBoat_92 : decode cX5_addBoat 92 = .ok (.invokevirtual 104, 3) := by decide +kernel
theorem dX5_addBoat_95 : decode cX5_addBoat 95 = .ok (.aload_n 0, 1) := by decide +kernel
theorem dX5_addBoat_96 : decode cX5_addBoat 96 = .ok (.getfield 10, 3) := by decide +kernel
theorem dX5_addBoat_99 : decode cX5_addBoat 99 = .ok (.iload 4, 2) := by decide +kernel
theorem dX5_addBoat_101 : decode cX5_addBoat 101 = .ok (.iconst 1, 1) := by decide +kernel
theorem dX5_addBoat_102 : decode cX5_addBoat 102 = .ok (.iadd, 1) := by decide +kernel
theorem dX5_addBoat_103 : decode cX5_addBoat 103 = .ok (.putfield 95, 3) := by decide +kernel
theorem dX5_addBoat_106 : decode cX5_addBoat 106 = .ok (.iload 4, 2) := by decide +kernel
theorem dX5_addBoat_108 : decode cX5_addBoat 108 = .ok (.ireturn, 1) := by decide +kernel
theorem dX5_set_0 : decode cX5_set 0 = .ok (.aload_n 0, 1) := by decide +kernel
theorem dX5_set_1 : decode cX5_set 1 = .ok (.iload_n 1, 1) := by decide +kernel
theorem dX5_set_2 : decode cX5_set 2 = .ok (.iload_n 2, 1) := by decide +kernel
theorem dX5_set_3 : decode cX5_set 3 = .ok (.invokevirtual 109, 3) := by decide +kernel
theorem dX5_set_6 : decode cX5_set 6 = .ok (.ifCond .ne 13, 3) := by decide +kernel
theorem dX5_set_9 : decode cX5_set 9 = .ok (.new 41, 3) := by decide +kernel
theorem dX5_set_12 : decode cX5_set 12 = .ok (.dup, 1) := by decide +kernel
theorem dX5_set_13 : decode cX5_set 13 = .ok (.ldc 113, 2) := by decide +kernel
theorem dX5_set_15 : decode cX5_set 15 = .ok (.invokespecial 45, 3) := by decide +kernel
theorem dX5_set_18 : decode cX5_set 18 = .ok (.athrow, 1) := by decide +kernel
theorem dX5_set_19 : decode cX5_set 19 = .ok (.aload_n 0, 1) := by decide +kernel
theorem dX5_set_20 : decode cX5_set 20 = .ok (.iload_n 1, 1) := by decide +kernel
theorem dX5_set_21 : decode cX5_set 21 = .ok (.invokevirtual 115, 3) := by decide +kernel
theorem dX5_set_24 : decode cX5_set 24 = .ok (.istore_n 3, 1) := by decide +kernel
theorem dX5_set_25 : decode cX5_set 25 = .ok (.aload_n 0, 1) := by decide +kernel
theorem dX5_set_26 : decode cX5_set 26 = .ok (.invokevirtual 48, 3) := by decide +kernel
theorem dX5_set_29 : decode cX5_set 29 = .ok (.iload_n 1, 1) := by decide +kernel
theorem dX5_set_30 : decode cX5_set 30 = .ok (.tableswitch 59 0 2 #[26, 37, 48], 26) := by decide +kernel
theorem dX5_set_56 : decode cX5_set 56 = .ok (.aload_n 0, 1) := by decide +kernel
theorem dX5_set_57 : decode cX5_set 57 = .ok (.getfield 10, 3) := by decide +kernel
theorem dX5_set_60 : decode cX5_set 60 = .ok (.iload_n 2, 1) := by decide +kernel
theorem dX5_set_61 : decode cX5_set 61 = .ok (.putfield 118, 3) := by decide +kernel
theorem dX5_set_64 : decode cX5_set 64 = .ok (.goto 33, 3) := by decide +kernel
theorem dX5_set_67 : decode cX5_set 67 = .ok (.aload_n 0, 1) := by decide +kernel
theorem dX5_set_68 : decode cX5_set 68 = .ok (.getfield 10, 3) := by decide +kernel
theorem dX5_set_71 : decode cX5_set 71 = .ok (.iload_n 2, 1) := by decide +kernel
theorem dX5_set_72 : decode cX5_set 72 = .ok (.putfield 121, 3) := by decide +kernel
theorem dX5_set_75 : decode cX5_set 75 = .ok (.goto 22, 3) := by decide +kernel
theorem dX5_set_78 : decode cX5_set 78 = .ok (.aload_n 0, 1) := by decide +kernel
theorem dX5_set_79 : decode cX5_set 79 = .ok (.getfield 10, 3) := by decide +kernel
theorem dX5_set_82 : decode cX5_set 82 = .ok (.iload_n 2, 1) := by decide +kernel
theorem dX5_set_83 : decode cX5_set 83 = .ok (.putfield 124, 3) := by decide +kernel
theorem dX5_set_86 : decode cX5_set 86 = .ok (.goto 11, 3) := by decide +kernel
theorem dX5_set_89 : decode cX5_set 89 = .ok (.aload_n 0, 1) := by decide +kernel
theorem dX5_set_90 : decode cX5_set 90 = .ok (.getfield 10, 3) := by decide +kernel
theorem dX5_set_93 : decode cX5_set 93 = .ok (.iload_n 2, 1) := by decide +kernel
theorem dX5_set_94 : decode cX5_set 94 = .ok (.putfield 127, 3) := by decide +kernel
theorem dX5_set_97 : decode cX5_set 97 = .ok (.iload_n 3, 1) := by decide +kernel
theorem dX5_set_98 : decode cX5_set 98 = .ok (.ireturn, 1) := by decide +kernel
theorem dX5_setRate_0 : decode cX5_setRate 0 = .ok (.aload_n 0, 1) := by decide +kernel
theorem dX5_setRate_1 : decode cX5_setRate 1 = .ok (.iload_n 1, 1) := by decide +kernel
theorem dX5_setRate_2 : decode cX5_setRate 2 = .ok (.invokevirtual 130, 3) := by decide +kernel
theorem dX5_setRate_5 : decode cX5_setRate 5 = .ok (.iload_n 2, 1) := by decide +kernel
theorem dX5_setRate_6 : decode cX5_setRate 6 = .ok (.invokestatic 69, 3) := by decide +kernel
theorem dX5_setRate_9 : decode cX5_setRate 9 = .ok (.ifCond .ne 13, 3) := by decide +kernel
theorem dX5_setRate_12 : decode cX5_setRate 12 = .ok (.new 41, 3) := by decide +kernel
theorem dX5_setRate_15 : decode cX5_setRate 15 = .ok (.dup, 1) := by decide +kernel
theorem dX5_setRate_16 : decode cX5_setRate 16 = .ok (.ldc 134, 2) := by decide +kernel
theorem dX5_setRate_18 : decode cX5_setRate 18 = .ok (.invokespecial 45, 3) := by decide +kernel
theorem dX5_setRate_21 : decode cX5_setRate 21 = .ok (.athrow, 1) := by decide +kernel
theorem dX5_setRate_22 : decode cX5_setRate 22 = .ok (.aload_n 0, 1) := by decide +kernel
theorem dX5_setRate_23 : decode cX5_setRate 23 = .ok (.invokevirtual 48, 3) := by decide +kernel
theorem dX5_setRate_26 : decode cX5_setRate 26 = .ok (.aload_n 0, 1) := by decide +kernel
theorem dX5_setRate_27 : decode cX5_setRate 27 = .ok (.getfield 10, 3) := by decide +kernel
theorem dX5_setRate_30 : decode cX5_setRate 30 = .ok (.getfield 83, 3) := by decide +kernel
theorem dX5_setRate_33 : decode cX5_setRate 33 = .ok (.iload_n 1, 1) := by decide +kernel
theorem dX5_setRate_34 : decode cX5_setRate 34 = .ok (.aaload, 1) := by decide +kernel
theorem dX5_setRate_35 : decode cX5_setRate 35 = .ok (.getfield 136, 3) := by decide +kernel
theorem dX5_setRate_38 : decode cX5_setRate 38 = .ok (.istore_n 3, 1) := by decide +kernel
theorem dX5_setRate_39 : decode cX5_setRate 39 = .ok (.aload_n 0, 1) := by decide +kernel
theorem dX5_setRate_40 : decode cX5_setRate 40 = .ok (.getfield 10, 3) := by decide +kernel
theorem dX5_setRate_43 : decode cX5_setRate 43 = .ok (.getfield 83, 3) := by decide +kernel
theorem dX5_setRate_46 : decode cX5_setRate 46 = .ok (.iload_n 1, 1) := by decide +kernel
theorem dX5_setRate_47 : decode cX5_setRate 47 = .ok (.aaload, 1) := by decide +kernel
theorem dX5_setRate_48 : decode cX5_setRate 48 = .ok (.iload_n 2, 1) := by decide +kernel
theorem dX5_setRate_49 : decode cX5_setRate 49 = .ok (.putfield 136, 3) := by decide +kernel
theorem dX5_setRate_52 : decode cX5_setRate 52 = .ok (.iload_n 3, 1) := by decide +kernel
theorem dX5_setRate_53 : decode cX5_setRate 53 = .ok (.ireturn, 1) := by decide +kernel
theorem dX5_berth_0 : decode cX5_berth 0 = .ok (.aload_n 0, 1) := by decide +kernel
theorem dX5_berth_1 : decode cX5_berth 1 = .ok (.iload_n 1, 1) := by decide +kernel
theorem dX5_berth_2 : decode cX5_berth 2 = .ok (.invokevirtual 130, 3) := by decide +kernel
theorem dX5_berth_5 : decode cX5_berth 5 = .ok (.aload_n 0, 1) := by decide +kernel
theorem dX5_berth_6 : decode cX5_berth 6 = .ok (.getfield 10, 3) := by decide +kernel
theorem dX5_berth_9 : decode cX5_berth 9 = .ok (.getfield 83, 3) := by decide +kernel
theorem dX5_berth_12 : decode cX5_berth 12 = .ok (.iload_n 1, 1) := by decide +kernel
theorem dX5_berth_13 : decode cX5_berth 13 = .ok (.aaload, 1) := by decide +kernel
theorem dX5_berth_14 : decode cX5_berth 14 = .ok (.astore_n 3, 1) := by decide +kernel
theorem dX5_berth_15 : decode cX5_berth 15 = .ok (.iload_n 2, 1) := by decide +kernel
theorem dX5_berth_16 : decode cX5_berth 16 = .ok (.tableswitch 103 0 6 #[44, 49, 54, 67, 72, 81, 94], 44) := by decide +kernel
theorem dX5_berth_60 : decode cX5_berth 60 = .ok (.aload_n 3, 1) := by decide +kernel
theorem dX5_berth_61 : decode cX5_berth 61 = .ok (.getfield 139, 3) := by decide +kernel
theorem dX5_berth_64 : decode cX5_berth 64 = .ok (.ireturn, 1) := by decide +kernel
theorem dX5_berth_65 : decode cX5_berth 65 = .ok (.aload_n 3, 1) := by decide +kernel
theorem dX5_berth_66 : decode cX5_berth 66 = .ok (.getfield 142, 3) := by decide +kernel
theorem dX5_berth_69 : decode cX5_berth 69 = .ok (.ireturn, 1) := by decide +kernel
theorem dX5_berth_70 : decode cX5_berth 70 = .ok (.aload_n 3, 1) := by decide +kernel
theorem dX5_berth_71 : decode cX5_berth 71 = .ok (.getfield 145, 3) := by decide +kernel
theorem dX5_berth_74 : decode cX5_berth 74 = .ok (.ifCond .eq 7, 3) := by decide +kernel
theorem dX5_berth_77 : decode cX5_berth 77 = .ok (.iconst 1, 1) := by decide +kernel
theorem dX5_berth_78 : decode cX5_berth 78 = .ok (.goto 4, 3) := by decide +kernel
theorem dX5_berth_81 : decode cX5_berth 81 = .ok (.iconst 0, 1) := by decide +kernel
theorem dX5_berth_82 : decode cX5_berth 82 = .ok (.ireturn, 1) := by decide +kernel
theorem dX5_berth_83 : decode cX5_berth 83 = .ok (.aload_n 3, 1) := by decide +kernel
theorem dX5_berth_84 : decode cX5_berth 84 = .ok (.getfield 136, 3) := by decide +kernel
theorem dX5_berth_87 : decode cX5_berth 87 = .ok (.ireturn, 1) := by decide +kernel
theorem dX5_berth_88 : decode cX5_berth 88 = .ok (.aload_n 0, 1) := by decide +kernel
theorem dX5_berth_89 : decode cX5_berth 89 = .ok (.getfield 10, 3) := by decide +kernel
theorem dX5_berth_92 : decode cX5_berth 92 = .ok (.iload_n 1, 1) := by decide +kernel
theorem dX5_berth_93 : decode cX5_berth 93 = .ok (.invokevirtual 149, 3) := by decide +kernel
theorem dX5_berth_96 : decode cX5_berth 96 = .ok (.ireturn, 1) := by decide +kernel
theorem dX5_berth_97 : decode cX5_berth 97 = .ok (.aload_n 3, 1) := by decide +kernel
theorem dX5_berth_98 : decode cX5_berth 98 = .ok (.getfield 139, 3) := by decide +kernel
theorem dX5_berth_101 : decode cX5_berth 101 = .ok (.aload_n 0, 1) := by decide +kernel
theorem dX5_berth_102 : decode cX5_berth 102 = .ok (.getfield 10, 3) := by decide +kernel
theorem dX5_berth_105 : decode cX5_berth 105 = .ok (.getfield 152, 3) := by decide +kernel
theorem dX5_berth_108 : decode cX5_berth 108 = .ok (.iadd, 1) := by decide +kernel
theorem dX5_berth_109 : decode cX5_berth 109 = .ok (.ireturn, 1) := by decide +kernel
theorem dX5_berth_110 : decode cX5_berth 110 = .ok (.aload_n 0, 1) := by decide +kernel
theorem dX5_berth_111 : decode cX5_berth 111 = .ok (.getfield 10, 3) := by decide +kernel
theorem dX5_berth_114 : decode cX5_berth 114 = .ok (.aload_n 3, 1) := by decide +kernel
theorem dX5_berth_115 : decode cX5_berth 115 = .ok (.invokevirtual 155, 3) := by decide +kernel
theorem dX5_berth_118 : decode cX5_berth 118 = .ok (.ireturn, 1) := by decide +kernel
theorem dX5_berth_119 : decode cX5_berth 119 = .ok (.new 41, 3) := by decide +kernel
theorem dX5_berth_122 : decode cX5_berth 122 = .ok (.dup, 1) := by decide +kernel
theorem dX5_berth_123 : decode cX5_berth 123 = .ok (.ldc 159, 2) := by decide +kernel
theorem dX5_berth_125 : decode cX5_berth 125 = .ok (.invokespecial 45, 3) := by decide +kernel
theorem dX5_berth_128 : decode cX5_berth 128 = .ok (.athrow, 1) := by decide +kernel
theorem dX5_boat_0 : decode cX5_boat 0 = .ok (.aload_n 0, 1) := by decide +kernel
theorem dX5_boat_1 : decode cX5_boat 1 = .ok (.iload_n 1, 1) := by decide +kernel
theorem dX5_boat_2 : decode cX5_boat 2 = .ok (.invokevirtual 161, 3) := by decide +kernel
theorem dX5_boat_5 : decode cX5_boat 5 = .ok (.aload_n 0, 1) := by decide +kernel
theorem dX5_boat_6 : decode cX5_boat 6 = .ok (.getfield 10, 3) := by decide +kernel
theorem dX5_boat_9 : decode cX5_boat 9 = .ok (.getfield 100, 3) := by decide +kernel
theorem dX5_boat_12 : decode cX5_boat 12 = .ok (.iload_n 1, 1) := by decide +kernel
theorem dX5_boat_13 : decode cX5_boat 13 = .ok (.aaload, 1) := by decide +kernel
theorem dX5_boat_14 : decode cX5_boat 14 = .ok (.astore_n 3, 1) := by decide +kernel
theorem dX5_boat_15 : decode cX5_boat 15 = .ok (.iload_n 2, 1) := by decide +kernel
theorem dX5_boat_16 : decode cX5_boat 16 = .ok (.tableswitch 146 0 9 #[56, 61, 66, 71, 76, 81, 102, 107, 112, 129], 56) := by decide +kernel
theorem dX5_boat_72 : decode cX5_boat 72 = .ok (.aload_n 3, 1) := by decide +kernel
theorem dX5_boat_73 : decode cX5_boat 73 = .ok (.getfield 164, 3) := by decide +kernel
theorem dX5_boat_76 : decode cX5_boat 76 = .ok (.ireturn, 1) := by decide +kernel
theorem dX5_boat_77 : decode cX5_boat 77 = .ok (.aload_n 3, 1) := by decide +kernel
theorem dX5_boat_78 : decode cX5_boat 78 = .ok (.getfield 165, 3) := by decide +kernel
theorem dX5_boat_81 : decode cX5_boat 81 = .ok (.ireturn, 1) := by decide +kernel
theorem dX5_boat_82 : decode cX5_boat 82 = .ok (.aload_n 3, 1) := by decide +kernel
theorem dX5_boat_83 : decode cX5_boat 83 = .ok (.getfield 168, 3) := by decide +kernel
theorem dX5_boat_86 : decode cX5_boat 86 = .ok (.ireturn, 1) := by decide +kernel
theorem dX5_boat_87 : decode cX5_boat 87 = .ok (.aload_n 3, 1) := by decide +kernel
theorem dX5_boat_88 : decode cX5_boat 88 = .ok (.getfield 171, 3) := by decide +kernel
theorem dX5_boat_91 : decode cX5_boat 91 = .ok (.ireturn, 1) := by decide +kernel
theorem dX5_boat_92 : decode cX5_boat 92 = .ok (.aload_n 3, 1) := by decide +kernel
theorem dX5_boat_93 : decode cX5_boat 93 = .ok (.getfield 174, 3) := by decide +kernel
theorem dX5_boat_96 : decode cX5_boat 96 = .ok (.ireturn, 1) := by decide +kernel
theorem dX5_boat_97 : decode cX5_boat 97 = .ok (.aload_n 3, 1) := by decide +kernel
theorem dX5_boat_98 : decode cX5_boat 98 = .ok (.getfield 171, 3) := by decide +kernel
theorem dX5_boat_101 : decode cX5_boat 101 = .ok (.iconst 2, 1) := by decide +kernel
theorem dX5_boat_102 : decode cX5_boat 102 = .ok (.if_icmp .ne 14, 3) := by decide +kernel
theorem dX5_boat_105 : decode cX5_boat 105 = .ok (.aload_n 0, 1) := by decide +kernel
theorem dX5_boat_106 : decode cX5_boat 106 = .ok (.getfield 10, 3) := by decide +kernel
theorem dX5_boat_109 : decode cX5_boat 109 = .ok (.aload_n 3, 1) := by decide +kernel
theorem dX5_boat_110 : decode cX5_boat 110 = .ok (.invokevirtual 177, 3) := by decide +kernel
theorem dX5_boat_113 : decode cX5_boat 113 = .ok (.goto 4, 3) := by decide +kernel
theorem dX5_boat_116 : decode cX5_boat 116 = .ok (.iconst (-1), 1) := by decide +kernel
theorem dX5_boat_117 : decode cX5_boat 117 = .ok (.ireturn, 1) := by decide +kernel
theorem dX5_boat_118 : decode cX5_boat 118 = .ok (.aload_n 3, 1) := by decide +kernel
theorem dX5_boat_119 : decode cX5_boat 119 = .ok (.getfield 181, 3) := by decide +kernel
theorem dX5_boat_122 : decode cX5_boat 122 = .ok (.ireturn, 1) := by decide +kernel
theorem dX5_boat_123 : decode cX5_boat 123 = .ok (.aload_n 3, 1) := by decide +kernel
theorem dX5_boat_124 : decode cX5_boat 124 = .ok (.getfield 184, 3) := by decide +kernel
theorem dX5_boat_127 : decode cX5_boat 127 = .ok (.ireturn, 1) := by decide +kernel
theorem dX5_boat_128 : decode cX5_boat 128 = .ok (.aload_n 0, 1) := by decide +kernel
theorem dX5_boat_129 : decode cX5_boat 129 = .ok (.getfield 10, 3) := by decide +kernel
theorem dX5_boat_132 : decode cX5_boat 132 = .ok (.aload_n 3, 1) := by decide +kernel
theorem dX5_boat_133 : decode cX5_boat 133 = .ok (.invokevirtual 187, 3) := by decide +kernel
theorem dX5_boat_136 : decode cX5_boat 136 = .ok (.ifCond .eq 7, 3) := by decide +kernel
theorem dX5_boat_139 : decode cX5_boat 139 = .ok (.iconst 1, 1) := by decide +kernel
theorem dX5_boat_140 : decode cX5_boat 140 = .ok (.goto 4, 3) := by decide +kernel
theorem dX5_boat_143 : decode cX5_boat 143 = .ok (.iconst 0, 1) := by decide +kernel
theorem dX5_boat_144 : decode cX5_boat 144 = .ok (.ireturn, 1) := by decide +kernel
theorem dX5_boat_145 : decode cX5_boat 145 = .ok (.aload_n 0, 1) := by decide +kernel
theorem dX5_boat_146 : decode cX5_boat 146 = .ok (.getfield 10, 3) := by decide +kernel
theorem dX5_boat_149 : decode cX5_boat 149 = .ok (.aload_n 3, 1) := by decide +kernel
theorem dX5_boat_150 : decode cX5_boat 150 = .ok (.invokevirtual 191, 3) := by decide +kernel
theorem dX5_boat_153 : decode cX5_boat 153 = .ok (.ifCond .eq 7, 3) := by decide +kernel
theorem dX5_boat_156 : decode cX5_boat 156 = .ok (.iconst 1, 1) := by decide +kernel
theorem dX5_boat_157 : decode cX5_boat 157 = .ok (.goto 4, 3) := by decide +kernel
theorem dX5_boat_160 : decode cX5_boat 160 = .ok (.iconst 0, 1) := by decide +kernel
theorem dX5_boat_161 : decode cX5_boat 161 = .ok (.ireturn, 1) := by decide +kernel
theorem dX5_boat_162 : decode cX5_boat 162 = .ok (.new 41, 3) := by decide +kernel
theorem dX5_boat_165 : decode cX5_boat 165 = .ok (.dup, 1) := by decide +kernel
theorem dX5_boat_166 : decode cX5_boat 166 = .ok (.ldc 194, 2) := by decide +kernel
theorem dX5_boat_168 : decode cX5_boat 168 = .ok (.invokespecial 45, 3) := by decide +kernel
theorem dX5_boat_171 : decode cX5_boat 171 = .ok (.athrow, 1) := by decide +kernel
theorem dX5_fits_0 : decode cX5_fits 0 = .ok (.aload_n 0, 1) := by decide +kernel
theorem dX5_fits_1 : decode cX5_fits 1 = .ok (.iload_n 1, 1) := by decide +kernel
theorem dX5_fits_2 : decode cX5_fits 2 = .ok (.invokevirtual 161, 3) := by decide +kernel
theorem dX5_fits_5 : decode cX5_fits 5 = .ok (.aload_n 0, 1) := by decide +kernel
theorem dX5_fits_6 : decode cX5_fits 6 = .ok (.iload_n 2, 1) := by decide +kernel
theorem dX5_fits_7 : decode cX5_fits 7 = .ok (.invokevirtual 130, 3) := by decide +kernel
theorem dX5_fits_10 : decode cX5_fits 10 = .ok (.aload_n 0, 1) := by decide +kernel
theorem dX5_fits_11 : decode cX5_fits 11 = .ok (.getfield 10, 3) := by decide +kernel
theorem dX5_fits_14 : decode cX5_fits 14 = .ok (.aload_n 0, 1) := by decide +kernel
theorem dX5_fits_15 : decode cX5_fits 15 = .ok (.getfield 10, 3) := by decide +kernel
theorem dX5_fits_18 : decode cX5_fits 18 = .ok (.getfield 100, 3) := by decide +kernel
theorem dX5_fits_21 : decode cX5_fits 21 = .ok (.iload_n 1, 1) := by decide +kernel
theorem dX5_fits_22 : decode cX5_fits 22 = .ok (.aaload, 1) := by decide +kernel
theorem dX5_fits_23 : decode cX5_fits 23 = .ok (.aload_n 0, 1) := by decide +kernel
theorem dX5_fits_24 : decode cX5_fits 24 = .ok (.getfield 10, 3) := by decide +kernel
theorem dX5_fits_27 : decode cX5_fits 27 = .ok (.getfield 83, 3) := by decide +kernel
theorem dX5_fits_30 : decode cX5_fits 30 = .ok (.iload_n 2, 1) := by decide +kernel
theorem dX5_fits_31 : decode cX5_fits 31 = .ok (.aaload, 1) := by decide +kernel
theorem dX5_fits_32 : decode cX5_fits 32 = .ok (.invokevirtual 196, 3) := by decide +kernel
theorem dX5_fits_35 : decode cX5_fits 35 = .ok (.ireturn, 1) := by decide +kernel
theorem dX5_info_0 : decode cX5_info 0 = .ok (.iload_n 1, 1) := by decide +kernel
theorem dX5_info_1 : decode cX5_info 1 = .ok (.tableswitch 202 0 13 #[71, 79, 87, 95, 103, 111, 127, 135, 143, 160, 169, 178, 186, 194], 71) := by decide +kernel
theorem dX5_info_72 : decode cX5_info 72 = .ok (.aload_n 0, 1) := by decide +kernel
theorem dX5_info_73 : decode cX5_info 73 = .ok (.getfield 10, 3) := by decide +kernel
theorem dX5_info_76 : decode cX5_info 76 = .ok (.getfield 118, 3) := by decide +kernel
theorem dX5_info_79 : decode cX5_info 79 = .ok (.ireturn, 1) := by decide +kernel
theorem dX5_info_80 : decode cX5_info 80 = .ok (.aload_n 0, 1) := by decide +kernel
theorem dX5_info_81 : decode cX5_info 81 = .ok (.getfield 10, 3) := by decide +kernel
theorem dX5_info_84 : decode cX5_info 84 = .ok (.getfield 121, 3) := by decide +kernel
theorem dX5_info_87 : decode cX5_info 87 = .ok (.ireturn, 1) := by decide +kernel
theorem dX5_info_88 : decode cX5_info 88 = .ok (.aload_n 0, 1) := by decide +kernel
theorem dX5_info_89 : decode cX5_info 89 = .ok (.getfield 10, 3) := by decide +kernel
theorem dX5_info_92 : decode cX5_info 92 = .ok (.getfield 124, 3) := by decide +kernel
theorem dX5_info_95 : decode cX5_info 95 = .ok (.ireturn, 1) := by decide +kernel
theorem dX5_info_96 : decode cX5_info 96 = .ok (.aload_n 0, 1) := by decide +kernel
theorem dX5_info_97 : decode cX5_info 97 = .ok (.getfield 10, 3) := by decide +kernel
theorem dX5_info_100 : decode cX5_info 100 = .ok (.getfield 127, 3) := by decide +kernel
theorem dX5_info_103 : decode cX5_info 103 = .ok (.ireturn, 1) := by decide +kernel
theorem dX5_info_104 : decode cX5_info 104 = .ok (.aload_n 0, 1) := by decide +kernel
theorem dX5_info_105 : decode cX5_info 105 = .ok (.getfield 10, 3) := by decide +kernel
theorem dX5_info_108 : decode cX5_info 108 = .ok (.getfield 200, 3) := by decide +kernel
theorem dX5_info_111 : decode cX5_info 111 = .ok (.ireturn, 1) := by decide +kernel
theorem dX5_info_112 : decode cX5_info 112 = .ok (.aload_n 0, 1) := by decide +kernel
theorem dX5_info_113 : decode cX5_info 113 = .ok (.getfield 10, 3) := by decide +kernel
theorem dX5_info_116 : decode cX5_info 116 = .ok (.getfield 203, 3) := by decide +kernel
theorem dX5_info_119 : decode cX5_info 119 = .ok (.ifCond .eq 7, 3) := by decide +kernel
theorem dX5_info_122 : decode cX5_info 122 = .ok (.iconst 1, 1) := by decide +kernel
theorem dX5_info_123 : decode cX5_info 123 = .ok (.goto 4, 3) := by decide +kernel
theorem dX5_info_126 : decode cX5_info 126 = .ok (.iconst 0, 1) := by decide +kernel
theorem dX5_info_127 : decode cX5_info 127 = .ok (.ireturn, 1) := by decide +kernel
theorem dX5_info_128 : decode cX5_info 128 = .ok (.aload_n 0, 1) := by decide +kernel
theorem dX5_info_129 : decode cX5_info 129 = .ok (.getfield 10, 3) := by decide +kernel
theorem dX5_info_132 : decode cX5_info 132 = .ok (.getfield 75, 3) := by decide +kernel
theorem dX5_info_135 : decode cX5_info 135 = .ok (.ireturn, 1) := by decide +kernel
theorem dX5_info_136 : decode cX5_info 136 = .ok (.aload_n 0, 1) := by decide +kernel
theorem dX5_info_137 : decode cX5_info 137 = .ok (.getfield 10, 3) := by decide +kernel
theorem dX5_info_140 : decode cX5_info 140 = .ok (.getfield 95, 3) := by decide +kernel
theorem dX5_info_143 : decode cX5_info 143 = .ok (.ireturn, 1) := by decide +kernel
theorem dX5_info_144 : decode cX5_info 144 = .ok (.aload_n 0, 1) := by decide +kernel
theorem dX5_info_145 : decode cX5_info 145 = .ok (.getfield 10, 3) := by decide +kernel
theorem dX5_info_148 : decode cX5_info 148 = .ok (.getfield 75, 3) := by decide +kernel
theorem dX5_info_151 : decode cX5_info 151 = .ok (.aload_n 0, 1) := by decide +kernel
theorem dX5_info_152 : decode cX5_info 152 = .ok (.getfield 10, 3) := by decide +kernel
theorem dX5_info_155 : decode cX5_info 155 = .ok (.iconst 1, 1) := by decide +kernel
theorem dX5_info_156 : decode cX5_info 156 = .ok (.invokevirtual 206, 3) := by decide +kernel
theorem dX5_info_159 : decode cX5_info 159 = .ok (.isub, 1) := by decide +kernel
theorem dX5_info_160 : decode cX5_info 160 = .ok (.ireturn, 1) := by decide +kernel
theorem dX5_info_161 : decode cX5_info 161 = .ok (.aload_n 0, 1) := by decide +kernel
theorem dX5_info_162 : decode cX5_info 162 = .ok (.getfield 10, 3) := by decide +kernel
theorem dX5_info_165 : decode cX5_info 165 = .ok (.iconst 2, 1) := by decide +kernel
theorem dX5_info_166 : decode cX5_info 166 = .ok (.invokevirtual 206, 3) := by decide +kernel
theorem dX5_info_169 : decode cX5_info 169 = .ok (.ireturn, 1) := by decide +kernel
theorem dX5_info_170 : decode cX5_info 170 = .ok (.aload_n 0, 1) := by decide +kernel
theorem dX5_info_171 : decode cX5_info 171 = .ok (.getfield 10, 3) := by decide +kernel
theorem dX5_info_174 : decode cX5_info 174 = .ok (.iconst 3, 1) := by decide +kernel
theorem dX5_info_175 : decode cX5_info 175 = .ok (.invokevirtual 206, 3) := by decide +kernel
theorem dX5_info_178 : decode cX5_info 178 = .ok (.ireturn, 1) := by decide +kernel
theorem dX5_info_179 : decode cX5_info 179 = .ok (.aload_n 0, 1) := by decide +kernel
theorem dX5_info_180 : decode cX5_info 180 = .ok (.getfield 10, 3) := by decide +kernel
theorem dX5_info_183 : decode cX5_info 183 = .ok (.invokevirtual 209, 3) := by decide +kernel
theorem dX5_info_186 : decode cX5_info 186 = .ok (.ireturn, 1) := by decide +kernel
theorem dX5_info_187 : decode cX5_info 187 = .ok (.aload_n 0, 1) := by decide +kernel
theorem dX5_info_188 : decode cX5_info 188 = .ok (.getfield 10, 3) := by decide +kernel
theorem dX5_info_191 : decode cX5_info 191 = .ok (.getfield 152, 3) := by decide +kernel
theorem dX5_info_194 : decode cX5_info 194 = .ok (.ireturn, 1) := by decide +kernel
theorem dX5_info_195 : decode cX5_info 195 = .ok (.aload_n 0, 1) := by decide +kernel
theorem dX5_info_196 : decode cX5_info 196 = .ok (.getfield 10, 3) := by decide +kernel
theorem dX5_info_199 : decode cX5_info 199 = .ok (.getfield 55, 3) := by decide +kernel
theorem dX5_info_202 : decode cX5_info 202 = .ok (.ireturn, 1) := by decide +kernel
theorem dX5_info_203 : decode cX5_info 203 = .ok (.new 41, 3) := by decide +kernel
theorem dX5_info_206 : decode cX5_info 206 = .ok (.dup, 1) := by decide +kernel
theorem dX5_info_207 : decode cX5_info 207 = .ok (.ldc 212, 2) := by decide +kernel
theorem dX5_info_209 : decode cX5_info 209 = .ok (.invokespecial 45, 3) := by decide +kernel
theorem dX5_info_212 : decode cX5_info 212 = .ok (.athrow, 1) := by decide +kernel
theorem dX5_place_0 : decode cX5_place 0 = .ok (.aload_n 0, 1) := by decide +kernel
theorem dX5_place_1 : decode cX5_place 1 = .ok (.iload_n 1, 1) := by decide +kernel
theorem dX5_place_2 : decode cX5_place 2 = .ok (.invokevirtual 161, 3) := by decide +kernel
theorem dX5_place_5 : decode cX5_place 5 = .ok (.aload_n 0, 1) := by decide +kernel
theorem dX5_place_6 : decode cX5_place 6 = .ok (.iload_n 2, 1) := by decide +kernel
theorem dX5_place_7 : decode cX5_place 7 = .ok (.invokevirtual 130, 3) := by decide +kernel
theorem dX5_place_10 : decode cX5_place 10 = .ok (.aload_n 0, 1) := by decide +kernel
theorem dX5_place_11 : decode cX5_place 11 = .ok (.getfield 10, 3) := by decide +kernel
theorem dX5_place_14 : decode cX5_place 14 = .ok (.getfield 100, 3) := by decide +kernel
theorem dX5_place_17 : decode cX5_place 17 = .ok (.iload_n 1, 1) := by decide +kernel
theorem dX5_place_18 : decode cX5_place 18 = .ok (.aaload, 1) := by decide +kernel
theorem dX5_place_19 : decode cX5_place 19 = .ok (.astore_n 3, 1) := by decide +kernel
theorem dX5_place_20 : decode cX5_place 20 = .ok (.aload_n 0, 1) := by decide +kernel
theorem dX5_place_21 : decode cX5_place 21 = .ok (.getfield 10, 3) := by decide +kernel
theorem dX5_place_24 : decode cX5_place 24 = .ok (.iload_n 2, 1) := by decide +kernel
theorem dX5_place_25 : decode cX5_place 25 = .ok (.invokevirtual 214, 3) := by decide +kernel
theorem dX5_place_28 : decode cX5_place 28 = .ok (.ifCond .eq 23, 3) := by decide +kernel
theorem dX5_place_31 : decode cX5_place 31 = .ok (.aload_n 0, 1) := by decide +kernel
theorem dX5_place_32 : decode cX5_place 32 = .ok (.getfield 10, 3) := by decide +kernel
theorem dX5_place_35 : decode cX5_place 35 = .ok (.aload_n 3, 1) := by decide +kernel
theorem dX5_place_36 : decode cX5_place 36 = .ok (.aload_n 0, 1) := by decide +kernel
theorem dX5_place_37 : decode cX5_place 37 = .ok (.getfield 10, 3) := by decide +kernel
theorem dX5_place_40 : decode cX5_place 40 = .ok (.getfield 83, 3) := by decide +kernel
theorem dX5_place_43 : decode cX5_place 43 = .ok (.iload_n 2, 1) := by decide +kernel
theorem dX5_place_44 : decode cX5_place 44 = .ok (.aaload, 1) := by decide +kernel
theorem dX5_place_45 : decode cX5_place 45 = .ok (.invokevirtual 196, 3) := by decide +kernel
theorem dX5_place_48 : decode cX5_place 48 = .ok (.ifCond .ne 13, 3) := by decide +kernel
theorem dX5_place_51 : decode cX5_place 51 = .ok (.new 78, 3) := by decide +kernel
theorem dX5_place_54 : decode cX5_place 54 = .ok (.dup, 1) := by decide +kernel
theorem dX5_place_55 : decode cX5_place 55 = .ok (.ldc 217, 2) := by decide +kernel
theorem dX5_place_57 : decode cX5_place 57 = .ok (.invokespecial 82, 3) := by decide +kernel
theorem dX5_place_60 : decode cX5_place 60 = .ok (.athrow, 1) := by decide +kernel
theorem dX5_place_61 : decode cX5_place 61 = .ok (.aload_n 0, 1) := by decide +kernel
theorem dX5_place_62 : decode cX5_place 62 = .ok (.invokevirtual 48, 3) := by decide +kernel
theorem dX5_place_65 : decode cX5_place 65 = .ok (.aload_n 3, 1) := by decide +kernel
theorem dX5_place_66 : decode cX5_place 66 = .ok (.getfield 174, 3) := by decide +kernel
theorem dX5_place_69 : decode cX5_place 69 = .ok (.istore 4, 2) := by decide +kernel
theorem dX5_place_71 : decode cX5_place 71 = .ok (.aload_n 3, 1) := by decide +kernel
theorem dX5_place_72 : decode cX5_place 72 = .ok (.iconst 1, 1) := by decide +kernel
theorem dX5_place_73 : decode cX5_place 73 = .ok (.iload_n 2, 1) := by decide +kernel
theorem dX5_place_74 : decode cX5_place 74 = .ok (.invokevirtual 219, 3) := by decide +kernel
theorem dX5_place_77 : decode cX5_place 77 = .ok (.iload 4, 2) := by decide +kernel
theorem dX5_place_79 : decode cX5_place 79 = .ok (.ireturn, 1) := by decide +kernel
theorem dX5_leave_0 : decode cX5_leave 0 = .ok (.aload_n 0, 1) := by decide +kernel
theorem dX5_leave_1 : decode cX5_leave 1 = .ok (.iload_n 1, 1) := by decide +kernel
theorem dX5_leave_2 : decode cX5_leave 2 = .ok (.invokevirtual 161, 3) := by decide +kernel
theorem dX5_leave_5 : decode cX5_leave 5 = .ok (.aload_n 0, 1) := by decide +kernel
theorem dX5_leave_6 : decode cX5_leave 6 = .ok (.getfield 10, 3) := by decide +kernel
theorem dX5_leave_9 : decode cX5_leave 9 = .ok (.getfield 100, 3) := by decide +kernel
theorem dX5_leave_12 : decode cX5_leave 12 = .ok (.iload_n 1, 1) := by decide +kernel
theorem dX5_leave_13 : decode cX5_leave 13 = .ok (.aaload, 1) := by decide +kernel
theorem dX5_leave_14 : decode cX5_leave 14 = .ok (.astore_n 2, 1) := by decide +kernel
theorem dX5_leave_15 : decode cX5_leave 15 = .ok (.aload_n 2, 1) := by decide +kernel
theorem dX5_leave_16 : decode cX5_leave 16 = .ok (.getfield 171, 3) := by decide +kernel
theorem dX5_leave_19 : decode cX5_leave 19 = .ok (.ifCond .eq 10, 3) := by decide +kernel
theorem dX5_leave_22 : decode cX5_leave 22 = .ok (.aload_n 2, 1) := by decide +kernel
theorem dX5_leave_23 : decode cX5_leave 23 = .ok (.getfield 184, 3) := by decide +kernel
theorem dX5_leave_26 : decode cX5_leave 26 = .ok (.ifCond .le 13, 3) := by decide +kernel
theorem dX5_leave_29 : decode cX5_leave 29 = .ok (.new 78, 3) := by decide +kernel
theorem dX5_leave_32 : decode cX5_leave 32 = .ok (.dup, 1) := by decide +kernel
theorem dX5_leave_33 : decode cX5_leave 33 = .ok (.ldc 223, 2) := by decide +kernel
theorem dX5_leave_35 : decode cX5_leave 35 = .ok (.invokespecial 82, 3) := by decide +kernel
theorem dX5_leave_38 : decode cX5_leave 38 = .ok (.athrow, 1) := by decide +kernel
theorem dX5_leave_39 : decode cX5_leave 39 = .ok (.aload_n 0, 1) := by decide +kernel
theorem dX5_leave_40 : decode cX5_leave 40 = .ok (.invokevirtual 48, 3) := by decide +kernel
theorem dX5_leave_43 : decode cX5_leave 43 = .ok (.aload_n 2, 1) := by decide +kernel
theorem dX5_leave_44 : decode cX5_leave 44 = .ok (.getfield 171, 3) := by decide +kernel
theorem dX5_leave_47 : decode cX5_leave 47 = .ok (.istore_n 3, 1) := by decide +kernel
theorem dX5_leave_48 : decode cX5_leave 48 = .ok (.aload_n 2, 1) := by decide +kernel
theorem dX5_leave_49 : decode cX5_leave 49 = .ok (.iconst 0, 1) := by decide +kernel
theorem dX5_leave_50 : decode cX5_leave 50 = .ok (.iconst (-1), 1) := by decide +kernel
theorem dX5_leave_51 : decode cX5_leave 51 = .ok (.invokevirtual 219, 3) := by decide +kernel
theorem dX5_leave_54 : decode cX5_leave 54 = .ok (.iload_n 3, 1) := by decide +kernel
theorem dX5_leave_55 : decode cX5_leave 55 = .ok (.ireturn, 1) := by decide +kernel
theorem dX5_change_0 : decode cX5_change 0 = .ok (.aload_n 0, 1) := by decide +kernel
theorem dX5_change_1 : decode cX5_change 1 = .ok (.iload_n 1, 1) := by decide +kernel
theorem dX5_change_2 : decode cX5_change 2 = .ok (.invokevirtual 161, 3) := by decide +kernel
theorem dX5_change_5 : decode cX5_change 5 = .ok (.aload_n 0, 1) := by decide +kernel
theorem dX5_change_6 : decode cX5_change 6 = .ok (.iload_n 2, 1) := by decide +kernel
theorem dX5_change_7 : decode cX5_change 7 = .ok (.invokevirtual 161, 3) := by decide +kernel
theorem dX5_change_10 : decode cX5_change 10 = .ok (.iload_n 1, 1) := by decide +kernel
theorem dX5_change_11 : decode cX5_change 11 = .ok (.iload_n 2, 1) := by decide +kernel
theorem dX5_change_12 : decode cX5_change 12 = .ok (.if_icmp .ne 13, 3) := by decide +kernel
theorem dX5_change_15 : decode cX5_change 15 = .ok (.new 41, 3) := by decide +kernel
theorem dX5_change_18 : decode cX5_change 18 = .ok (.dup, 1) := by decide +kernel
theorem dX5_change_19 : decode cX5_change 19 = .ok (.ldc 225, 2) := by decide +kernel
theorem dX5_change_21 : decode cX5_change 21 = .ok (.invokespecial 45, 3) := by decide +kernel
theorem dX5_change_24 : decode cX5_change 24 = .ok (.athrow, 1) := by decide +kernel
theorem dX5_change_25 : decode cX5_change 25 = .ok (.aload_n 0, 1) := by decide +kernel
theorem dX5_change_26 : decode cX5_change 26 = .ok (.getfield 10, 3) := by decide +kernel
theorem dX5_change_29 : decode cX5_change 29 = .ok (.getfield 100, 3) := by decide +kernel
theorem dX5_change_32 : decode cX5_change 32 = .ok (.iload_n 1, 1) := by decide +kernel
theorem dX5_change_33 : decode cX5_change 33 = .ok (.aaload, 1) := by decide +kernel
theorem dX5_change_34 : decode cX5_change 34 = .ok (.astore_n 3, 1) := by decide +kernel
theorem dX5_change_35 : decode cX5_change 35 = .ok (.aload_n 0, 1) := by decide +kernel
theorem dX5_change_36 : decode cX5_change 36 = .ok (.getfield 10, 3) := by decide +kernel
theorem dX5_change_39 : decode cX5_change 39 = .ok (.getfield 100, 3) := by decide +kernel
theorem dX5_change_42 : decode cX5_change 42 = .ok (.iload_n 2, 1) := by decide +kernel
theorem dX5_change_43 : decode cX5_change 43 = .ok (.aaload, 1) := by decide +kernel
theorem dX5_change_44 : decode cX5_change 44 = .ok (.astore 4, 2) := by decide +kernel
theorem dX5_change_46 : decode cX5_change 46 = .ok (.aload_n 0, 1) := by decide +kernel
theorem dX5_change_47 : decode cX5_change 47 = .ok (.getfield 10, 3) := by decide +kernel
theorem dX5_change_50 : decode cX5_change 50 = .ok (.aload_n 3, 1) := by decide +kernel
theorem dX5_change_51 : decode cX5_change 51 = .ok (.aload 4, 2) := by decide +kernel
theorem dX5_change_53 : decode cX5_change 53 = .ok (.invokevirtual 227, 3) := by decide +kernel
theorem dX5_change_56 : decode cX5_change 56 = .ok (.ifCond .eq 16, 3) := by decide +kernel
theorem dX5_change_59 : decode cX5_change 59 = .ok (.aload_n 0, 1) := by decide +kernel
theorem dX5_change_60 : decode cX5_change 60 = .ok (.getfield 10, 3) := by decide +kernel
theorem dX5_change_63 : decode cX5_change 63 = .ok (.aload 4, 2) := by decide +kernel
theorem dX5_change_65 : decode cX5_change 65 = .ok (.aload_n 3, 1) := by decide +kernel
theorem dX5_change_66 : decode cX5_change 66 = .ok (.invokevirtual 227, 3) := by decide +kernel
theorem dX5_change_69 : decode cX5_change 69 = .ok (.ifCond .ne 13, 3) := by decide +kernel
theorem dX5_change_72 : decode cX5_change 72 = .ok (.new 78, 3) := by decide +kernel
theorem dX5_change_75 : decode cX5_change 75 = .ok (.dup, 1) := by decide +kernel
theorem dX5_change_76 : decode cX5_change 76 = .ok (.ldc 231, 2) := by decide +kernel
theorem dX5_change_78 : decode cX5_change 78 = .ok (.invokespecial 82, 3) := by decide +kernel
theorem dX5_change_81 : decode cX5_change 81 = .ok (.athrow, 1) := by decide +kernel
theorem dX5_change_82 : decode cX5_change 82 = .ok (.aload_n 0, 1) := by decide +kernel
theorem dX5_change_83 : decode cX5_change 83 = .ok (.invokevirtual 48, 3) := by decide +kernel
theorem dX5_change_86 : decode cX5_change 86 = .ok (.aload_n 3, 1) := by decide +kernel
theorem dX5_change_87 : decode cX5_change 87 = .ok (.getfield 174, 3) := by decide +kernel
theorem dX5_change_90 : decode cX5_change 90 = .ok (.istore 5, 2) := by decide +kernel
theorem dX5_change_92 : decode cX5_change 92 = .ok (.aload_n 3, 1) := by decide +kernel
theorem dX5_change_93 : decode cX5_change 93 = .ok (.iconst 1, 1) := by decide +kernel
theorem dX5_change_94 : decode cX5_change 94 = .ok (.aload 4, 2) := by decide +kernel
theorem dX5_change_96 : decode cX5_change 96 = .ok (.getfield 174, 3) := by decide +kernel
theorem dX5_change_99 : decode cX5_change 99 = .ok (.invokevirtual 219, 3) := by decide +kernel
theorem dX5_change_102 : decode cX5_change 102 = .ok (.aload 4, 2) := by decide +kernel
theorem dX5_change_104 : decode cX5_change 104 = .ok (.iconst 1, 1) := by decide +kernel
theorem dX5_change_105 : decode cX5_change 105 = .ok (.iload 5, 2) := by decide +kernel
theorem dX5_change_107 : decode cX5_change 107 = .ok (.invokevirtual 219, 3) := by decide +kernel
theorem dX5_change_110 : decode cX5_change 110 = .ok (.aload_n 3, 1) := by decide +kernel
theorem dX5_change_111 : decode cX5_change 111 = .ok (.getfield 174, 3) := by decide +kernel
theorem dX5_change_114 : decode cX5_change 114 = .ok (.ireturn, 1) := by decide +kernel
theorem dX5_await_0 : decode cX5_await 0 = .ok (.aload_n 0, 1) := by decide +kernel
theorem dX5_await_1 : decode cX5_await 1 = .ok (.iload_n 1, 1) := by decide +kernel
theorem dX5_await_2 : decode cX5_await 2 = .ok (.invokevirtual 161, 3) := by decide +kernel
theorem dX5_await_5 : decode cX5_await 5 = .ok (.aload_n 0, 1) := by decide +kernel
theorem dX5_await_6 : decode cX5_await 6 = .ok (.getfield 10, 3) := by decide +kernel
theorem dX5_await_9 : decode cX5_await 9 = .ok (.getfield 100, 3) := by decide +kernel
theorem dX5_await_12 : decode cX5_await 12 = .ok (.iload_n 1, 1) := by decide +kernel
theorem dX5_await_13 : decode cX5_await 13 = .ok (.aaload, 1) := by decide +kernel
theorem dX5_await_14 : decode cX5_await 14 = .ok (.astore_n 2, 1) := by decide +kernel
theorem dX5_await_15 : decode cX5_await 15 = .ok (.aload_n 2, 1) := by decide +kernel
theorem dX5_await_16 : decode cX5_await 16 = .ok (.getfield 171, 3) := by decide +kernel
theorem dX5_await_19 : decode cX5_await 19 = .ok (.ifCond .eq 13, 3) := by decide +kernel
theorem dX5_await_22 : decode cX5_await 22 = .ok (.new 78, 3) := by decide +kernel
theorem dX5_await_25 : decode cX5_await 25 = .ok (.dup, 1) := by decide +kernel
theorem dX5_await_26 : decode cX5_await 26 = .ok (.ldc 233, 2) := by decide +kernel
theorem dX5_await_28 : decode cX5_await 28 = .ok (.invokespecial 82, 3) := by decide +kernel
theorem dX5_await_31 : decode cX5_await 31 = .ok (.athrow, 1) := by decide +kernel
theorem dX5_await_32 : decode cX5_await 32 = .ok (.aload_n 0, 1) := by decide +kernel
theorem dX5_await_33 : decode cX5_await 33 = .ok (.invokevirtual 48, 3) := by decide +kernel
theorem dX5_await_36 : decode cX5_await 36 = .ok (.aload_n 0, 1) := by decide +kernel
theorem dX5_await_37 : decode cX5_await 37 = .ok (.getfield 10, 3) := by decide +kernel
theorem dX5_await_40 : decode cX5_await 40 = .ok (.aload_n 2, 1) := by decide +kernel
theorem dX5_await_41 : decode cX5_await 41 = .ok (.invokevirtual 235, 3) := by decide +kernel
theorem dX5_await_44 : decode cX5_await 44 = .ok (.aload_n 0, 1) := by decide +kernel
theorem dX5_await_45 : decode cX5_await 45 = .ok (.getfield 10, 3) := by decide +kernel
theorem dX5_await_48 : decode cX5_await 48 = .ok (.aload_n 2, 1) := by decide +kernel
theorem dX5_await_49 : decode cX5_await 49 = .ok (.invokevirtual 239, 3) := by decide +kernel
theorem dX5_await_52 : decode cX5_await 52 = .ok (.ireturn, 1) := by decide +kernel
theorem dX5_offer_0 : decode cX5_offer 0 = .ok (.aload_n 0, 1) := by decide +kernel
theorem dX5_offer_1 : decode cX5_offer 1 = .ok (.iload_n 1, 1) := by decide +kernel
theorem dX5_offer_2 : decode cX5_offer 2 = .ok (.invokevirtual 130, 3) := by decide +kernel
theorem dX5_offer_5 : decode cX5_offer 5 = .ok (.aload_n 0, 1) := by decide +kernel
theorem dX5_offer_6 : decode cX5_offer 6 = .ok (.getfield 10, 3) := by decide +kernel
theorem dX5_offer_9 : decode cX5_offer 9 = .ok (.iload_n 1, 1) := by decide +kernel
theorem dX5_offer_10 : decode cX5_offer 10 = .ok (.invokevirtual 214, 3) := by decide +kernel
theorem dX5_offer_13 : decode cX5_offer 13 = .ok (.ifCond .ne 13, 3) := by decide +kernel
theorem dX5_offer_16 : decode cX5_offer 16 = .ok (.new 78, 3) := by decide +kernel
theorem dX5_offer_19 : decode cX5_offer 19 = .ok (.dup, 1) := by decide +kernel
theorem dX5_offer_20 : decode cX5_offer 20 = .ok (.ldc 242, 2) := by decide +kernel
theorem dX5_offer_22 : decode cX5_offer 22 = .ok (.invokespecial 82, 3) := by decide +kernel
theorem dX5_offer_25 : decode cX5_offer 25 = .ok (.athrow, 1) := by decide +kernel
theorem dX5_offer_26 : decode cX5_offer 26 = .ok (.aload_n 0, 1) := by decide +kernel
theorem dX5_offer_27 : decode cX5_offer 27 = .ok (.invokevirtual 48, 3) := by decide +kernel
theorem dX5_offer_30 : decode cX5_offer 30 = .ok (.aload_n 0, 1) := by decide +kernel
theorem dX5_offer_31 : decode cX5_offer 31 = .ok (.getfield 10, 3) := by decide +kernel
theorem dX5_offer_34 : decode cX5_offer 34 = .ok (.aload_n 0, 1) := by decide +kernel
theorem dX5_offer_35 : decode cX5_offer 35 = .ok (.getfield 10, 3) := by decide +kernel
theorem dX5_offer_38 : decode cX5_offer 38 = .ok (.getfield 83, 3) := by decide +kernel
theorem dX5_offer_41 : decode cX5_offer 41 = .ok (.iload_n 1, 1) := by decide +kernel
theorem dX5_offer_42 : decode cX5_offer 42 = .ok (.aaload, 1) := by decide +kernel
theorem dX5_offer_43 : decode cX5_offer 43 = .ok (.invokevirtual 244, 3) := by decide +kernel
theorem dX5_offer_46 : decode cX5_offer 46 = .ok (.istore_n 2, 1) := by decide +kernel
theorem dX5_offer_47 : decode cX5_offer 47 = .ok (.iload_n 2, 1) := by decide +kernel
theorem dX5_offer_48 : decode cX5_offer 48 = .ok (.iconst (-1), 1) := by decide +kernel
theorem dX5_offer_49 : decode cX5_offer 49 = .ok (.if_icmp .eq 17, 3) := by decide +kernel
theorem dX5_offer_52 : decode cX5_offer 52 = .ok (.aload_n 0, 1) := by decide +kernel
theorem dX5_offer_53 : decode cX5_offer 53 = .ok (.getfield 10, 3) := by decide +kernel
theorem dX5_offer_56 : decode cX5_offer 56 = .ok (.getfield 100, 3) := by decide +kernel
theorem dX5_offer_59 : decode cX5_offer 59 = .ok (.iload_n 2, 1) := by decide +kernel
theorem dX5_offer_60 : decode cX5_offer 60 = .ok (.aaload, 1) := by decide +kernel
theorem dX5_offer_61 : decode cX5_offer 61 = .ok (.iconst 1, 1) := by decide +kernel
theorem dX5_offer_62 : decode cX5_offer 62 = .ok (.iload_n 1, 1) := by decide +kernel
theorem dX5_offer_63 : decode cX5_offer 63 = .ok (.invokevirtual 219, 3) := by decide +kernel
theorem dX5_offer_66 : decode cX5_offer 66 = .ok (.iload_n 2, 1) := by decide +kernel
theorem dX5_offer_67 : decode cX5_offer 67 = .ok (.ireturn, 1) := by decide +kernel
theorem dX5_waiting_0 : decode cX5_waiting 0 = .ok (.aload_n 0, 1) := by decide +kernel
theorem dX5_waiting_1 : decode cX5_waiting 1 = .ok (.getfield 10, 3) := by decide +kernel
theorem dX5_waiting_4 : decode cX5_waiting 4 = .ok (.iload_n 1, 1) := by decide +kernel
theorem dX5_waiting_5 : decode cX5_waiting 5 = .ok (.invokevirtual 247, 3) := by decide +kernel
theorem dX5_waiting_8 : decode cX5_waiting 8 = .ok (.ireturn, 1) := by decide +kernel
theorem dX5_bestBerth_0 : decode cX5_bestBerth 0 = .ok (.aload_n 0, 1) := by decide +kernel
theorem dX5_bestBerth_1 : decode cX5_bestBerth 1 = .ok (.iload_n 1, 1) := by decide +kernel
theorem dX5_bestBerth_2 : decode cX5_bestBerth 2 = .ok (.invokevirtual 161, 3) := by decide +kernel
theorem dX5_bestBerth_5 : decode cX5_bestBerth 5 = .ok (.aload_n 0, 1) := by decide +kernel
theorem dX5_bestBerth_6 : decode cX5_bestBerth 6 = .ok (.getfield 10, 3) := by decide +kernel
theorem dX5_bestBerth_9 : decode cX5_bestBerth 9 = .ok (.aload_n 0, 1) := by decide +kernel
theorem dX5_bestBerth_10 : decode cX5_bestBerth 10 = .ok (.getfield 10, 3) := by decide +kernel
theorem dX5_bestBerth_13 : decode cX5_bestBerth 13 = .ok (.getfield 100, 3) := by decide +kernel
theorem dX5_bestBerth_16 : decode cX5_bestBerth 16 = .ok (.iload_n 1, 1) := by decide +kernel
theorem dX5_bestBerth_17 : decode cX5_bestBerth 17 = .ok (.aaload, 1) := by decide +kernel
theorem dX5_bestBerth_18 : decode cX5_bestBerth 18 = .ok (.invokevirtual 250, 3) := by decide +kernel
theorem dX5_bestBerth_21 : decode cX5_bestBerth 21 = .ok (.ireturn, 1) := by decide +kernel
theorem dX5_pass_0 : decode cX5_pass 0 = .ok (.iload_n 1, 1) := by decide +kernel
theorem dX5_pass_1 : decode cX5_pass 1 = .ok (.invokestatic 253, 3) := by decide +kernel
theorem dX5_pass_4 : decode cX5_pass 4 = .ok (.aload_n 0, 1) := by decide +kernel
theorem dX5_pass_5 : decode cX5_pass 5 = .ok (.getfield 16, 3) := by decide +kernel
theorem dX5_pass_8 : decode cX5_pass 8 = .ok (.aload_n 0, 1) := by decide +kernel
theorem dX5_pass_9 : decode cX5_pass 9 = .ok (.getfield 10, 3) := by decide +kernel
theorem dX5_pass_12 : decode cX5_pass 12 = .ok (.invokevirtual 256, 3) := by decide +kernel
theorem dX5_pass_15 : decode cX5_pass 15 = .ok (.aload_n 0, 1) := by decide +kernel
theorem dX5_pass_16 : decode cX5_pass 16 = .ok (.getfield 16, 3) := by decide +kernel
theorem dX5_pass_19 : decode cX5_pass 19 = .ok (.iload_n 1, 1) := by decide +kernel
theorem dX5_pass_20 : decode cX5_pass 20 = .ok (.aload_n 0, 1) := by decide +kernel
theorem dX5_pass_21 : decode cX5_pass 21 = .ok (.getfield 26, 3) := by decide +kernel
theorem dX5_pass_24 : decode cX5_pass 24 = .ok (.invokevirtual 260, 3) := by decide +kernel
theorem dX5_pass_27 : decode cX5_pass 27 = .ok (.istore_n 2, 1) := by decide +kernel
theorem dX5_pass_28 : decode cX5_pass 28 = .ok (.iload_n 2, 1) := by decide +kernel
theorem dX5_pass_29 : decode cX5_pass 29 = .ok (.iconst (-1), 1) := by decide +kernel
theorem dX5_pass_30 : decode cX5_pass 30 = .ok (.if_icmp .ne 14, 3) := by decide +kernel
theorem dX5_pass_33 : decode cX5_pass 33 = .ok (.new 78, 3) := by decide +kernel
theorem dX5_pass_36 : decode cX5_pass 36 = .ok (.dup, 1) := by decide +kernel
theorem dX5_pass_37 : decode cX5_pass 37 = .ok (.ldc_w 264, 3) := by decide +kernel
theorem dX5_pass_40 : decode cX5_pass 40 = .ok (.invokespecial 82, 3) := by decide +kernel
theorem dX5_pass_43 : decode cX5_pass 43 = .ok (.athrow, 1) := by decide +kernel
theorem dX5_pass_44 : decode cX5_pass 44 = .ok (.aload_n 0, 1) := by decide +kernel
theorem dX5_pass_45 : decode cX5_pass 45 = .ok (.invokevirtual 48, 3) := by decide +kernel
theorem dX5_pass_48 : decode cX5_pass 48 = .ok (.aload_n 0, 1) := by decide +kernel
theorem dX5_pass_49 : decode cX5_pass 49 = .ok (.getfield 10, 3) := by decide +kernel
theorem dX5_pass_52 : decode cX5_pass 52 = .ok (.aload_n 0, 1) := by decide +kernel
theorem dX5_pass_53 : decode cX5_pass 53 = .ok (.getfield 16, 3) := by decide +kernel
theorem dX5_pass_56 : decode cX5_pass 56 = .ok (.invokevirtual 256, 3) := by decide +kernel
theorem dX5_pass_59 : decode cX5_pass 59 = .ok (.iload_n 2, 1) := by decide +kernel
theorem dX5_pass_60 : decode cX5_pass 60 = .ok (.ireturn, 1) := by decide +kernel
theorem dX5_pay_0 : decode cX5_pay 0 = .ok (.aload_n 0, 1) := by decide +kernel
theorem dX5_pay_1 : decode cX5_pay 1 = .ok (.iload_n 1, 1) := by decide +kernel
theorem dX5_pay_2 : decode cX5_pay 2 = .ok (.invokevirtual 161, 3) := by decide +kernel
theorem dX5_pay_5 : decode cX5_pay 5 = .ok (.aload_n 0, 1) := by decide +kernel
theorem dX5_pay_6 : decode cX5_pay 6 = .ok (.getfield 10, 3) := by decide +kernel
theorem dX5_pay_9 : decode cX5_pay 9 = .ok (.getfield 100, 3) := by decide +kernel
theorem dX5_pay_12 : decode cX5_pay 12 = .ok (.iload_n 1, 1) := by decide +kernel
theorem dX5_pay_13 : decode cX5_pay 13 = .ok (.aaload, 1) := by decide +kernel
theorem dX5_pay_14 : decode cX5_pay 14 = .ok (.astore_n 3, 1) := by decide +kernel
theorem dX5_pay_15 : decode cX5_pay 15 = .ok (.iload_n 2, 1) := by decide +kernel
theorem dX5_pay_16 : decode cX5_pay 16 = .ok (.iconst 1, 1) := by decide +kernel
theorem dX5_pay_17 : decode cX5_pay 17 = .ok (.aload_n 3, 1) := by decide +kernel
theorem dX5_pay_18 : decode cX5_pay 18 = .ok (.getfield 184, 3) := by decide +kernel
theorem dX5_pay_21 : decode cX5_pay 21 = .ok (.invokestatic 65, 3) := by decide +kernel
theorem dX5_pay_24 : decode cX5_pay 24 = .ok (.ifCond .ne 14, 3) := by decide +kernel
theorem dX5_pay_27 : decode cX5_pay 27 = .ok (.new 41, 3) := by decide +kernel
theorem dX5_pay_30 : decode cX5_pay 30 = .ok (.dup, 1) := by decide +kernel
theorem dX5_pay_31 : decode cX5_pay 31 = .ok (.ldc_w 266, 3) := by decide +kernel
theorem dX5_pay_34 : decode cX5_pay 34 = .ok (.invokespecial 45, 3) := by decide +kernel
theorem dX5_pay_37 : decode cX5_pay 37 = .ok (.athrow, 1) := by decide +kernel
theorem dX5_pay_38 : decode cX5_pay 38 = .ok (.aload_n 0, 1) := by decide +kernel
theorem dX5_pay_39 : decode cX5_pay 39 = .ok (.invokevirtual 48, 3) := by decide +kernel
theorem dX5_pay_42 : decode cX5_pay 42 = .ok (.aload_n 3, 1) := by decide +kernel
theorem dX5_pay_43 : decode cX5_pay 43 = .ok (.dup, 1) := by decide +kernel
theorem dX5_pay_44 : decode cX5_pay 44 = .ok (.getfield 184, 3) := by decide +kernel
theorem dX5_pay_47 : decode cX5_pay 47 = .ok (.iload_n 2, 1) := by decide +kernel
theorem dX5_pay_48 : decode cX5_pay 48 = .ok (.isub, 1) := by decide +kernel
theorem dX5_pay_49 : decode cX5_pay 49 = .ok (.putfield 184, 3) := by decide +kernel
theorem dX5_pay_52 : decode cX5_pay 52 = .ok (.aload_n 0, 1) := by decide +kernel
theorem dX5_pay_53 : decode cX5_pay 53 = .ok (.getfield 10, 3) := by decide +kernel
theorem dX5_pay_56 : decode cX5_pay 56 = .ok (.dup, 1) := by decide +kernel
theorem dX5_pay_57 : decode cX5_pay 57 = .ok (.getfield 268, 3) := by decide +kernel
theorem dX5_pay_60 : decode cX5_pay 60 = .ok (.iload_n 2, 1) := by decide +kernel
theorem dX5_pay_61 : decode cX5_pay 61 = .ok (.i2l, 1) := by decide +kernel
theorem dX5_pay_62 : decode cX5_pay 62 = .ok (.ladd, 1) := by decide +kernel
theorem dX5_pay_63 : decode cX5_pay 63 = .ok (.putfield 268, 3) := by decide +kernel
theorem dX5_pay_66 : decode cX5_pay 66 = .ok (.aload_n 3, 1) := by decide +kernel
theorem dX5_pay_67 : decode cX5_pay 67 = .ok (.getfield 184, 3) := by decide +kernel
theorem dX5_pay_70 : decode cX5_pay 70 = .ok (.ireturn, 1) := by decide +kernel
theorem dX5_charge_0 : decode cX5_charge 0 = .ok (.aload_n 0, 1) := by decide +kernel
theorem dX5_charge_1 : decode cX5_charge 1 = .ok (.iload_n 1, 1) := by decide +kernel
theorem dX5_charge_2 : decode cX5_charge 2 = .ok (.invokevirtual 161, 3) := by decide +kernel
theorem dX5_charge_5 : decode cX5_charge 5 = .ok (.iload_n 2, 1) := by decide +kernel
theorem dX5_charge_6 : decode cX5_charge 6 = .ok (.ifCond .ge 14, 3) := by decide +kernel
theorem dX5_charge_9 : decode cX5_charge 9 = .ok (.new 41, 3) := by decide +kernel
theorem dX5_charge_12 : decode cX5_charge 12 = .ok (.dup, 1) := by decide +kernel
theorem dX5_charge_13 : decode cX5_charge 13 = .ok (.ldc_w 272, 3) := by decide +kernel
theorem dX5_charge_16 : decode cX5_charge 16 = .ok (.invokespecial 45, 3) := by decide +kernel
theorem dX5_charge_19 : decode cX5_charge 19 = .ok (.athrow, 1) := by decide +kernel
theorem dX5_charge_20 : decode cX5_charge 20 = .ok (.aload_n 0, 1) := by decide +kernel
theorem dX5_charge_21 : decode cX5_charge 21 = .ok (.getfield 10, 3) := by decide +kernel
theorem dX5_charge_24 : decode cX5_charge 24 = .ok (.getfield 100, 3) := by decide +kernel
theorem dX5_charge_27 : decode cX5_charge 27 = .ok (.iload_n 1, 1) := by decide +kernel
theorem dX5_charge_28 : decode cX5_charge 28 = .ok (.aaload, 1) := by decide +kernel
theorem dX5_charge_29 : decode cX5_charge 29 = .ok (.astore_n 3, 1) := by decide +kernel
theorem dX5_charge_30 : decode cX5_charge 30 = .ok (.aload_n 3, 1) := by decide +kernel
theorem dX5_charge_31 : decode cX5_charge 31 = .ok (.iload_n 2, 1) := by decide +kernel
theorem dX5_charge_32 : decode cX5_charge 32 = .ok (.i2l, 1) := by decide +kernel
theorem dX5_charge_33 : decode cX5_charge 33 = .ok (.invokevirtual 274, 3) := by decide +kernel
theorem dX5_charge_36 : decode cX5_charge 36 = .ok (.ifCond .ne 14, 3) := by decide +kernel
theorem dX5_charge_39 : decode cX5_charge 39 = .ok (.new 78, 3) := by decide +kernel
theorem dX5_charge_42 : decode cX5_charge 42 = .ok (.dup, 1) := by decide +kernel
theorem dX5_charge_43 : decode cX5_charge 43 = .ok (.ldc_w 278, 3) := by decide +kernel
theorem dX5_charge_46 : decode cX5_charge 46 = .ok (.invokespecial 82, 3) := by decide +kernel
theorem dX5_charge_49 : decode cX5_charge 49 = .ok (.athrow, 1) := by decide +kernel
theorem dX5_charge_50 : decode cX5_charge 50 = .ok (.aload_n 0, 1) := by decide +kernel
theorem dX5_charge_51 : decode cX5_charge 51 = .ok (.invokevirtual 48, 3) := by decide +kernel
theorem dX5_charge_54 : decode cX5_charge 54 = .ok (.aload_n 3, 1) := by decide +kernel
theorem dX5_charge_55 : decode cX5_charge 55 = .ok (.dup, 1) := by decide +kernel
theorem dX5_charge_56 : decode cX5_charge 56 = .ok (.getfield 184, 3) := by decide +kernel
theorem dX5_charge_59 : decode cX5_charge 59 = .ok (.iload_n 2, 1) := by decide +kernel
theorem dX5_charge_60 : decode cX5_charge 60 = .ok (.iadd, 1) := by decide +kernel
theorem dX5_charge_61 : decode cX5_charge 61 = .ok (.putfield 184, 3) := by decide +kernel
theorem dX5_charge_64 : decode cX5_charge 64 = .ok (.aload_n 3, 1) := by decide +kernel
theorem dX5_charge_65 : decode cX5_charge 65 = .ok (.getfield 184, 3) := by decide +kernel
theorem dX5_charge_68 : decode cX5_charge 68 = .ok (.ireturn, 1) := by decide +kernel
theorem dX5_owed_0 : decode cX5_owed 0 = .ok (.aload_n 0, 1) := by decide +kernel
theorem dX5_owed_1 : decode cX5_owed 1 = .ok (.getfield 10, 3) := by decide +kernel
theorem dX5_owed_4 : decode cX5_owed 4 = .ok (.invokevirtual 280, 3) := by decide +kernel
theorem dX5_owed_7 : decode cX5_owed 7 = .ok (.lreturn, 1) := by decide +kernel
theorem dX5_paid_0 : decode cX5_paid 0 = .ok (.aload_n 0, 1) := by decide +kernel
theorem dX5_paid_1 : decode cX5_paid 1 = .ok (.getfield 10, 3) := by decide +kernel
theorem dX5_paid_4 : decode cX5_paid 4 = .ok (.getfield 268, 3) := by decide +kernel
theorem dX5_paid_7 : decode cX5_paid 7 = .ok (.lreturn, 1) := by decide +kernel
theorem dX5_owesAfter_0 : decode cX5_owesAfter 0 = .ok (.aload_n 0, 1) := by decide +kernel
theorem dX5_owesAfter_1 : decode cX5_owesAfter 1 = .ok (.iload_n 1, 1) := by decide +kernel
theorem dX5_owesAfter_2 : decode cX5_owesAfter 2 = .ok (.invokevirtual 161, 3) := by decide +kernel
theorem dX5_owesAfter_5 : decode cX5_owesAfter 5 = .ok (.iload_n 2, 1) := by decide +kernel
theorem dX5_owesAfter_6 : decode cX5_owesAfter 6 = .ok (.invokestatic 253, 3) := by decide +kernel
theorem dX5_owesAfter_9 : decode cX5_owesAfter 9 = .ok (.aload_n 0, 1) := by decide +kernel
theorem dX5_owesAfter_10 : decode cX5_owesAfter 10 = .ok (.getfield 16, 3) := by decide +kernel
theorem dX5_owesAfter_13 : decode cX5_owesAfter 13 = .ok (.aload_n 0, 1) := by decide +kernel
theorem dX5_owesAfter_14 : decode cX5_owesAfter 14 = .ok (.getfield 10, 3) := by decide +kernel
theorem dX5_owesAfter_17 : decode cX5_owesAfter 17 = .ok (.invokevirtual 256, 3) := by decide +kernel
theorem dX5_owesAfter_20 : decode cX5_owesAfter 20 = .ok (.aload_n 0, 1) := by decide +kernel
theorem dX5_owesAfter_21 : decode cX5_owesAfter 21 = .ok (.getfield 16, 3) := by decide +kernel
theorem dX5_owesAfter_24 : decode cX5_owesAfter 24 = .ok (.iload_n 2, 1) := by decide +kernel
theorem dX5_owesAfter_25 : decode cX5_owesAfter 25 = .ok (.aload_n 0, 1) := by decide +kernel
theorem dX5_owesAfter_26 : decode cX5_owesAfter 26 = .ok (.getfield 26, 3) := by decide +kernel
theorem dX5_owesAfter_29 : decode cX5_owesAfter 29 = .ok (.invokevirtual 260, 3) := by decide +kernel
theorem dX5_owesAfter_32 : decode cX5_owesAfter 32 = .ok (.iconst (-1), 1) := by decide +kernel
theorem dX5_owesAfter_33 : decode cX5_owesAfter 33 = .ok (.if_icmp .ne 7, 3) := by decide +kernel
theorem dX5_owesAfter_36 : decode cX5_owesAfter 36 = .ok (.iconst (-1), 1) := by decide +kernel
theorem dX5_owesAfter_37 : decode cX5_owesAfter 37 = .ok (.goto 15, 3) := by decide +kernel
theorem dX5_owesAfter_40 : decode cX5_owesAfter 40 = .ok (.aload_n 0, 1) := by decide +kernel
theorem dX5_owesAfter_41 : decode cX5_owesAfter 41 = .ok (.getfield 16, 3) := by decide +kernel
theorem dX5_owesAfter_44 : decode cX5_owesAfter 44 = .ok (.getfield 100, 3) := by decide +kernel
theorem dX5_owesAfter_47 : decode cX5_owesAfter 47 = .ok (.iload_n 1, 1) := by decide +kernel
theorem dX5_owesAfter_48 : decode cX5_owesAfter 48 = .ok (.aaload, 1) := by decide +kernel
theorem dX5_owesAfter_49 : decode cX5_owesAfter 49 = .ok (.getfield 184, 3) := by decide +kernel
theorem dX5_owesAfter_52 : decode cX5_owesAfter 52 = .ok (.ireturn, 1) := by decide +kernel
theorem dX5_groundsIn_0 : decode cX5_groundsIn 0 = .ok (.aload_n 0, 1) := by decide +kernel
theorem dX5_groundsIn_1 : decode cX5_groundsIn 1 = .ok (.iload_n 1, 1) := by decide +kernel
theorem dX5_groundsIn_2 : decode cX5_groundsIn 2 = .ok (.invokevirtual 161, 3) := by decide +kernel
theorem dX5_groundsIn_5 : decode cX5_groundsIn 5 = .ok (.aload_n 0, 1) := by decide +kernel
theorem dX5_groundsIn_6 : decode cX5_groundsIn 6 = .ok (.getfield 10, 3) := by decide +kernel
theorem dX5_groundsIn_9 : decode cX5_groundsIn 9 = .ok (.aload_n 0, 1) := by decide +kernel
theorem dX5_groundsIn_10 : decode cX5_groundsIn 10 = .ok (.getfield 10, 3) := by decide +kernel
theorem dX5_groundsIn_13 : decode cX5_groundsIn 13 = .ok (.getfield 100, 3) := by decide +kernel
theorem dX5_groundsIn_16 : decode cX5_groundsIn 16 = .ok (.iload_n 1, 1) := by decide +kernel
theorem dX5_groundsIn_17 : decode cX5_groundsIn 17 = .ok (.aaload, 1) := by decide +kernel
theorem dX5_groundsIn_18 : decode cX5_groundsIn 18 = .ok (.invokevirtual 284, 3) := by decide +kernel
theorem dX5_groundsIn_21 : decode cX5_groundsIn 21 = .ok (.ireturn, 1) := by decide +kernel
theorem dX5_winterBerth_0 : decode cX5_winterBerth 0 = .ok (.aload_n 0, 1) := by decide +kernel
theorem dX5_winterBerth_1 : decode cX5_winterBerth 1 = .ok (.iload_n 1, 1) := by decide +kernel
theorem dX5_winterBerth_2 : decode cX5_winterBerth 2 = .ok (.invokevirtual 161, 3) := by decide +kernel
theorem dX5_winterBerth_5 : decode cX5_winterBerth 5 = .ok (.aload_n 0, 1) := by decide +kernel
theorem dX5_winterBerth_6 : decode cX5_winterBerth 6 = .ok (.invokevirtual 287, 3) := by decide +kernel
theorem dX5_winterBerth_9 : decode cX5_winterBerth 9 = .ok (.aload_n 0, 1) := by decide +kernel
theorem dX5_winterBerth_10 : decode cX5_winterBerth 10 = .ok (.getfield 16, 3) := by decide +kernel
theorem dX5_winterBerth_13 : decode cX5_winterBerth 13 = .ok (.getfield 100, 3) := by decide +kernel
theorem dX5_winterBerth_16 : decode cX5_winterBerth 16 = .ok (.iload_n 1, 1) := by decide +kernel
theorem dX5_winterBerth_17 : decode cX5_winterBerth 17 = .ok (.aaload, 1) := by decide +kernel
theorem dX5_winterBerth_18 : decode cX5_winterBerth 18 = .ok (.getfield 174, 3) := by decide +kernel
theorem dX5_winterBerth_21 : decode cX5_winterBerth 21 = .ok (.ireturn, 1) := by decide +kernel
theorem dX5_wouldGoAshore_0 : decode cX5_wouldGoAshore 0 = .ok (.aload_n 0, 1) := by decide +kernel
theorem dX5_wouldGoAshore_1 : decode cX5_wouldGoAshore 1 = .ok (.invokevirtual 287, 3) := by decide +kernel
theorem dX5_wouldGoAshore_4 : decode cX5_wouldGoAshore 4 = .ok (.aload_n 0, 1) := by decide +kernel
theorem dX5_wouldGoAshore_5 : decode cX5_wouldGoAshore 5 = .ok (.getfield 16, 3) := by decide +kernel
theorem dX5_wouldGoAshore_8 : decode cX5_wouldGoAshore 8 = .ok (.iconst 3, 1) := by decide +kernel
theorem dX5_wouldGoAshore_9 : decode cX5_wouldGoAshore 9 = .ok (.invokevirtual 206, 3) := by decide +kernel
theorem dX5_wouldGoAshore_12 : decode cX5_wouldGoAshore 12 = .ok (.ireturn, 1) := by decide +kernel
theorem dX5_greatestClearance_0 : decode cX5_greatestClearance 0 = .ok (.aload_n 0, 1) := by decide +kernel
theorem dX5_greatestClearance_1 : decode cX5_greatestClearance 1 = .ok (.getfield 10, 3) := by decide +kernel
theorem dX5_greatestClearance_4 : decode cX5_greatestClearance 4 = .ok (.invokevirtual 290, 3) := by decide +kernel
theorem dX5_greatestClearance_7 : decode cX5_greatestClearance 7 = .ok (.ireturn, 1) := by decide +kernel
theorem dX5_missingDepth_0 : decode cX5_missingDepth 0 = .ok (.aload_n 0, 1) := by decide +kernel
theorem dX5_missingDepth_1 : decode cX5_missingDepth 1 = .ok (.iload_n 1, 1) := by decide +kernel
theorem dX5_missingDepth_2 : decode cX5_missingDepth 2 = .ok (.invokevirtual 161, 3) := by decide +kernel
theorem dX5_missingDepth_5 : decode cX5_missingDepth 5 = .ok (.aload_n 0, 1) := by decide +kernel
theorem dX5_missingDepth_6 : decode cX5_missingDepth 6 = .ok (.iload_n 2, 1) := by decide +kernel
theorem dX5_missingDepth_7 : decode cX5_missingDepth 7 = .ok (.invokevirtual 130, 3) := by decide +kernel
theorem dX5_missingDepth_10 : decode cX5_missingDepth 10 = .ok (.aload_n 0, 1) := by decide +kernel
theorem dX5_missingDepth_11 : decode cX5_missingDepth 11 = .ok (.getfield 10, 3) := by decide +kernel
theorem dX5_missingDepth_14 : decode cX5_missingDepth 14 = .ok (.getfield 100, 3) := by decide +kernel
theorem dX5_missingDepth_17 : decode cX5_missingDepth 17 = .ok (.iload_n 1, 1) := by decide +kernel
theorem dX5_missingDepth_18 : decode cX5_missingDepth 18 = .ok (.aaload, 1) := by decide +kernel
theorem dX5_missingDepth_19 : decode cX5_missingDepth 19 = .ok (.astore_n 3, 1) := by decide +kernel
theorem dX5_missingDepth_20 : decode cX5_missingDepth 20 = .ok (.aload_n 0, 1) := by decide +kernel
theorem dX5_missingDepth_21 : decode cX5_missingDepth 21 = .ok (.getfield 10, 3) := by decide +kernel
theorem dX5_missingDepth_24 : decode cX5_missingDepth 24 = .ok (.getfield 83, 3) := by decide +kernel
theorem dX5_missingDepth_27 : decode cX5_missingDepth 27 = .ok (.iload_n 2, 1) := by decide +kernel
theorem dX5_missingDepth_28 : decode cX5_missingDepth 28 = .ok (.aaload, 1) := by decide +kernel
theorem dX5_missingDepth_29 : decode cX5_missingDepth 29 = .ok (.astore 4, 2) := by decide +kernel
theorem dX5_missingDepth_31 : decode cX5_missingDepth 31 = .ok (.aload_n 3, 1) := by decide +kernel
theorem dX5_missingDepth_32 : decode cX5_missingDepth 32 = .ok (.getfield 164, 3) := by decide +kernel
theorem dX5_missingDepth_35 : decode cX5_missingDepth 35 = .ok (.aload 4, 2) := by decide +kernel
theorem dX5_missingDepth_37 : decode cX5_missingDepth 37 = .ok (.getfield 142, 3) := by decide +kernel
theorem dX5_missingDepth_40 : decode cX5_missingDepth 40 = .ok (.if_icmp .le 7, 3) := by decide +kernel
theorem dX5_missingDepth_43 : decode cX5_missingDepth 43 = .ok (.iconst (-1), 1) := by decide +kernel
theorem dX5_missingDepth_44 : decode cX5_missingDepth 44 = .ok (.goto 17, 3) := by decide +kernel
theorem dX5_missingDepth_47 : decode cX5_missingDepth 47 = .ok (.iconst 0, 1) := by decide +kernel
theorem dX5_missingDepth_48 : decode cX5_missingDepth 48 = .ok (.aload_n 0, 1) := by decide +kernel
theorem dX5_missingDepth_49 : decode cX5_missingDepth 49 = .ok (.getfield 10, 3) := by decide +kernel
theorem dX5_missingDepth_52 : decode cX5_missingDepth 52 = .ok (.aload_n 3, 1) := by decide +kernel
theorem dX5_missingDepth_53 : decode cX5_missingDepth 53 = .ok (.aload 4, 2) := by decide +kernel
theorem dX5_missingDepth_55 : decode cX5_missingDepth 55 = .ok (.invokevirtual 293, 3) := by decide +kernel
theorem dX5_missingDepth_58 : decode cX5_missingDepth 58 = .ok (.invokestatic 297, 3) := by decide +kernel
theorem dX5_missingDepth_61 : decode cX5_missingDepth 61 = .ok (.ireturn, 1) := by decide +kernel
theorem dX5_type_0 : decode cX5_type 0 = .ok (.iload_n 1, 1) := by decide +kernel
theorem dX5_type_1 : decode cX5_type 1 = .ok (.bipush 32, 2) := by decide +kernel
theorem dX5_type_3 : decode cX5_type 3 = .ok (.bipush 126, 2) := by decide +kernel
theorem dX5_type_5 : decode cX5_type 5 = .ok (.invokestatic 65, 3) := by decide +kernel
theorem dX5_type_8 : decode cX5_type 8 = .ok (.ifCond .ne 14, 3) := by decide +kernel
theorem dX5_type_11 : decode cX5_type 11 = .ok (.new 41, 3) := by decide +kernel
theorem dX5_type_14 : decode cX5_type 14 = .ok (.dup, 1) := by decide +kernel
theorem dX5_type_15 : decode cX5_type 15 = .ok (.ldc_w 303, 3) := by decide +kernel
theorem dX5_type_18 : decode cX5_type 18 = .ok (.invokespecial 45, 3) := by decide +kernel
theorem dX5_type_21 : decode cX5_type 21 = .ok (.athrow, 1) := by decide +kernel
theorem dX5_type_22 : decode cX5_type 22 = .ok (.aload_n 0, 1) := by decide +kernel
theorem dX5_type_23 : decode cX5_type 23 = .ok (.getfield 33, 3) := by decide +kernel
theorem dX5_type_26 : decode cX5_type 26 = .ok (.getfield 305, 3) := by decide +kernel
theorem dX5_type_29 : decode cX5_type 29 = .ok (.bipush 70, 2) := by decide +kernel
theorem dX5_type_31 : decode cX5_type 31 = .ok (.if_icmp .lt 14, 3) := by decide +kernel
theorem dX5_type_34 : decode cX5_type 34 = .ok (.new 78, 3) := by decide +kernel
theorem dX5_type_37 : decode cX5_type 37 = .ok (.dup, 1) := by decide +kernel
theorem dX5_type_38 : decode cX5_type 38 = .ok (.ldc_w 306, 3) := by decide +kernel
theorem dX5_type_41 : decode cX5_type 41 = .ok (.invokespecial 82, 3) := by decide +kernel
theorem dX5_type_44 : decode cX5_type 44 = .ok (.athrow, 1) := by decide +kernel
theorem dX5_type_45 : decode cX5_type 45 = .ok (.aload_n 0, 1) := by decide +kernel
theorem dX5_type_46 : decode cX5_type 46 = .ok (.getfield 33, 3) := by decide +kernel
theorem dX5_type_49 : decode cX5_type 49 = .ok (.iload_n 1, 1) := by decide +kernel
theorem dX5_type_50 : decode cX5_type 50 = .ok (.i2c, 1) := by decide +kernel
theorem dX5_type_51 : decode cX5_type 51 = .ok (.invokevirtual 308, 3) := by decide +kernel
theorem dX5_type_54 : decode cX5_type 54 = .ok (.aload_n 0, 1) := by decide +kernel
theorem dX5_type_55 : decode cX5_type 55 = .ok (.getfield 33, 3) := by decide +kernel
theorem dX5_type_58 : decode cX5_type 58 = .ok (.getfield 305, 3) := by decide +kernel
theorem dX5_type_61 : decode cX5_type 61 = .ok (.ireturn, 1) := by decide +kernel
theorem dX5_clearText_0 : decode cX5_clearText 0 = .ok (.aload_n 0, 1) := by decide +kernel
theorem dX5_clearText_1 : decode cX5_clearText 1 = .ok (.getfield 33, 3) := by decide +kernel
theorem dX5_clearText_4 : decode cX5_clearText 4 = .ok (.getfield 305, 3) := by decide +kernel
theorem dX5_clearText_7 : decode cX5_clearText 7 = .ok (.istore_n 1, 1) := by decide +kernel
theorem dX5_clearText_8 : decode cX5_clearText 8 = .ok (.aload_n 0, 1) := by decide +kernel
theorem dX5_clearText_9 : decode cX5_clearText 9 = .ok (.getfield 33, 3) := by decide +kernel
theorem dX5_clearText_12 : decode cX5_clearText 12 = .ok (.iconst 0, 1) := by decide +kernel
theorem dX5_clearText_13 : decode cX5_clearText 13 = .ok (.putfield 305, 3) := by decide +kernel
theorem dX5_clearText_16 : decode cX5_clearText 16 = .ok (.iload_n 1, 1) := by decide +kernel
theorem dX5_clearText_17 : decode cX5_clearText 17 = .ok (.ireturn, 1) := by decide +kernel
theorem dX5_fault_0 : decode cX5_fault 0 = .ok (.aload_n 0, 1) := by decide +kernel
theorem dX5_fault_1 : decode cX5_fault 1 = .ok (.getfield 33, 3) := by decide +kernel
theorem dX5_fault_4 : decode cX5_fault 4 = .ok (.invokevirtual 37, 3) := by decide +kernel
theorem dX5_fault_7 : decode cX5_fault 7 = .ok (.ireturn, 1) := by decide +kernel
theorem dX5_undo_0 : decode cX5_undo 0 = .ok (.aload_n 0, 1) := by decide +kernel
theorem dX5_undo_1 : decode cX5_undo 1 = .ok (.getfield 312, 3) := by decide +kernel
theorem dX5_undo_4 : decode cX5_undo 4 = .ok (.iconst 1, 1) := by decide +kernel
theorem dX5_undo_5 : decode cX5_undo 5 = .ok (.if_icmp .ge 14, 3) := by decide +kernel
theorem dX5_undo_8 : decode cX5_undo 8 = .ok (.new 78, 3) := by decide +kernel
theorem dX5_undo_11 : decode cX5_undo 11 = .ok (.dup, 1) := by decide +kernel
theorem dX5_undo_12 : decode cX5_undo 12 = .ok (.ldc_w 315, 3) := by decide +kernel
theorem dX5_undo_15 : decode cX5_undo 15 = .ok (.invokespecial 82, 3) := by decide +kernel
theorem dX5_undo_18 : decode cX5_undo 18 = .ok (.athrow, 1) := by decide +kernel
theorem dX5_undo_19 : decode cX5_undo 19 = .ok (.aload_n 0, 1) := by decide +kernel
theorem dX5_undo_20 : decode cX5_undo 20 = .ok (.dup, 1) := by decide +kernel
theorem dX5_undo_21 : decode cX5_undo 21 = .ok (.getfield 312, 3) := by decide +kernel
theorem dX5_undo_24 : decode cX5_undo 24 = .ok (.iconst 1, 1) := by decide +kernel
theorem dX5_undo_25 : decode cX5_undo 25 = .ok (.isub, 1) := by decide +kernel
theorem dX5_undo_26 : decode cX5_undo 26 = .ok (.putfield 312, 3) := by decide +kernel
theorem dX5_undo_29 : decode cX5_undo 29 = .ok (.aload_n 0, 1) := by decide +kernel
theorem dX5_undo_30 : decode cX5_undo 30 = .ok (.getfield 10, 3) := by decide +kernel
theorem dX5_undo_33 : decode cX5_undo 33 = .ok (.aload_n 0, 1) := by decide +kernel
theorem dX5_undo_34 : decode cX5_undo 34 = .ok (.getfield 19, 3) := by decide +kernel
theorem dX5_undo_37 : decode cX5_undo 37 = .ok (.aload_n 0, 1) := by decide +kernel
theorem dX5_undo_38 : decode cX5_undo 38 = .ok (.getfield 312, 3) := by decide +kernel
theorem dX5_undo_41 : decode cX5_undo 41 = .ok (.aaload, 1) := by decide +kernel
theorem dX5_undo_42 : decode cX5_undo 42 = .ok (.invokevirtual 256, 3) := by decide +kernel
theorem dX5_undo_45 : decode cX5_undo 45 = .ok (.aload_n 0, 1) := by decide +kernel
theorem dX5_undo_46 : decode cX5_undo 46 = .ok (.getfield 312, 3) := by decide +kernel
theorem dX5_undo_49 : decode cX5_undo 49 = .ok (.ireturn, 1) := by decide +kernel
theorem dX5_checksum_0 : decode cX5_checksum 0 = .ok (.ldc2_w 317, 3) := by decide +kernel
theorem dX5_checksum_3 : decode cX5_checksum 3 = .ok (.lstore_n 1, 1) := by decide +kernel
theorem dX5_checksum_4 : decode cX5_checksum 4 = .ok (.iconst 0, 1) := by decide +kernel
theorem dX5_checksum_5 : decode cX5_checksum 5 = .ok (.istore_n 3, 1) := by decide +kernel
theorem dX5_checksum_6 : decode cX5_checksum 6 = .ok (.iload_n 3, 1) := by decide +kernel
theorem dX5_checksum_7 : decode cX5_checksum 7 = .ok (.bipush 13, 2) := by decide +kernel
theorem dX5_checksum_9 : decode cX5_checksum 9 = .ok (.if_icmp .gt 22, 3) := by decide +kernel
theorem dX5_checksum_12 : decode cX5_checksum 12 = .ok (.ldc2_w 319, 3) := by decide +kernel
theorem dX5_checksum_15 : decode cX5_checksum 15 = .ok (.lload_n 1, 1) := by decide +kernel
theorem dX5_checksum_16 : decode cX5_checksum 16 = .ok (.lmul, 1) := by decide +kernel
theorem dX5_checksum_17 : decode cX5_checksum 17 = .ok (.aload_n 0, 1) := by decide +kernel
theorem dX5_checksum_18 : decode cX5_checksum 18 = .ok (.iload_n 3, 1) := by decide +kernel
theorem dX5_checksum_19 : decode cX5_checksum 19 = .ok (.invokevirtual 115, 3) := by decide +kernel
theorem dX5_checksum_22 : decode cX5_checksum 22 = .ok (.i2l, 1) := by decide +kernel
theorem dX5_checksum_23 : decode cX5_checksum 23 = .ok (.ladd, 1) := by decide +kernel
theorem dX5_checksum_24 : decode cX5_checksum 24 = .ok (.lstore_n 1, 1) := by decide +kernel
theorem dX5_checksum_25 : decode cX5_checksum 25 = .ok (.iinc 3 1, 3) := by decide +kernel
theorem dX5_checksum_28 : decode cX5_checksum 28 = .ok (.goto (-22), 3) := by decide +kernel
theorem dX5_checksum_31 : decode cX5_checksum 31 = .ok (.iconst 0, 1) := by decide +kernel
theorem dX5_checksum_32 : decode cX5_checksum 32 = .ok (.istore_n 3, 1) := by decide +kernel
theorem dX5_checksum_33 : decode cX5_checksum 33 = .ok (.iload_n 3, 1) := by decide +kernel
theorem dX5_checksum_34 : decode cX5_checksum 34 = .ok (.aload_n 0, 1) := by decide +kernel
theorem dX5_checksum_35 : decode cX5_checksum 35 = .ok (.getfield 10, 3) := by decide +kernel
theorem dX5_checksum_38 : decode cX5_checksum 38 = .ok (.getfield 55, 3) := by decide +kernel
theorem dX5_checksum_41 : decode cX5_checksum 41 = .ok (.if_icmp .ge 25, 3) := by decide +kernel
theorem dX5_checksum_44 : decode cX5_checksum 44 = .ok (.ldc2_w 319, 3) := by decide +kernel
theorem dX5_checksum_47 : decode cX5_checksum 47 = .ok (.lload_n 1, 1) := by decide +kernel
theorem dX5_checksum_48 : decode cX5_checksum 48 = .ok (.lmul, 1) := by decide +kernel
theorem dX5_checksum_49 : decode cX5_checksum 49 = .ok (.aload_n 0, 1) := by decide +kernel
theorem dX5_checksum_50 : decode cX5_checksum 50 = .ok (.getfield 10, 3) := by decide +kernel
theorem dX5_checksum_53 : decode cX5_checksum 53 = .ok (.iload_n 3, 1) := by decide +kernel
theorem dX5_checksum_54 : decode cX5_checksum 54 = .ok (.invokevirtual 61, 3) := by decide +kernel
theorem dX5_checksum_57 : decode cX5_checksum 57 = .ok (.i2l, 1) := by decide +kernel
theorem dX5_checksum_58 : decode cX5_checksum 58 = .ok (.ladd, 1) := by decide +kernel
theorem dX5_checksum_59 : decode cX5_checksum 59 = .ok (.lstore_n 1, 1) := by decide +kernel
theorem dX5_checksum_60 : decode cX5_checksum 60 = .ok (.iinc 3 1, 3) := by decide +kernel
theorem dX5_checksum_63 : decode cX5_checksum 63 = .ok (.goto (-30), 3) := by decide +kernel
theorem dX5_checksum_66 : decode cX5_checksum 66 = .ok (.aload_n 0, 1) := by decide +kernel
theorem dX5_checksum_67 : decode cX5_checksum 67 = .ok (.lload_n 1, 1) := by decide +kernel
theorem dX5_checksum_68 : decode cX5_checksum 68 = .ok (.invokevirtual 321, 3) := by decide +kernel
theorem dX5_checksum_71 : decode cX5_checksum 71 = .ok (.lstore_n 1, 1) := by decide +kernel
theorem dX5_checksum_72 : decode cX5_checksum 72 = .ok (.aload_n 0, 1) := by decide +kernel
theorem dX5_checksum_73 : decode cX5_checksum 73 = .ok (.lload_n 1, 1) := by decide +kernel
theorem dX5_checksum_74 : decode cX5_checksum 74 = .ok (.invokevirtual 325, 3) := by decide +kernel
theorem dX5_checksum_77 : decode cX5_checksum 77 = .ok (.lstore_n 1, 1) := by decide +kernel
theorem dX5_checksum_78 : decode cX5_checksum 78 = .ok (.aload_n 0, 1) := by decide +kernel
theorem dX5_checksum_79 : decode cX5_checksum 79 = .ok (.getfield 10, 3) := by decide +kernel
theorem dX5_checksum_82 : decode cX5_checksum 82 = .ok (.iconst 2, 1) := by decide +kernel
theorem dX5_checksum_83 : decode cX5_checksum 83 = .ok (.invokevirtual 206, 3) := by decide +kernel
theorem dX5_checksum_86 : decode cX5_checksum 86 = .ok (.istore_n 3, 1) := by decide +kernel
theorem dX5_checksum_87 : decode cX5_checksum 87 = .ok (.iconst 0, 1) := by decide +kernel
theorem dX5_checksum_88 : decode cX5_checksum 88 = .ok (.istore 4, 2) := by decide +kernel
theorem dX5_checksum_90 : decode cX5_checksum 90 = .ok (.iload 4, 2) := by decide +kernel
theorem dX5_checksum_92 : decode cX5_checksum 92 = .ok (.iload_n 3, 1) := by decide +kernel
theorem dX5_checksum_93 : decode cX5_checksum 93 = .ok (.if_icmp .ge 26, 3) := by decide +kernel
theorem dX5_checksum_96 : decode cX5_checksum 96 = .ok (.ldc2_w 319, 3) := by decide +kernel
theorem dX5_checksum_99 : decode cX5_checksum 99 = .ok (.lload_n 1, 1) := by decide +kernel
theorem dX5_checksum_100 : decode cX5_checksum 100 = .ok (.lmul, 1) := by decide +kernel
theorem dX5_checksum_101 : decode cX5_checksum 101 = .ok (.aload_n 0, 1) := by decide +kernel
theorem dX5_checksum_102 : decode cX5_checksum 102 = .ok (.getfield 10, 3) := by decide +kernel
theorem dX5_checksum_105 : decode cX5_checksum 105 = .ok (.iload 4, 2) := by decide +kernel
theorem dX5_checksum_107 : decode cX5_checksum 107 = .ok (.invokevirtual 247, 3) := by decide +kernel
theorem dX5_checksum_110 : decode cX5_checksum 110 = .ok (.i2l, 1) := by decide +kernel
theorem dX5_checksum_111 : decode cX5_checksum 111 = .ok (.ladd, 1) := by decide +kernel
theorem dX5_checksum_112 : decode cX5_checksum 112 = .ok (.lstore_n 1, 1) := by decide +kernel
theorem dX5_checksum_113 : decode cX5_checksum 113 = .ok (.iinc 4 1, 3) := by decide +kernel
theorem dX5_checksum_116 : decode cX5_checksum 116 = .ok (.goto (-26), 3) := by decide +kernel
theorem dX5_checksum_119 : decode cX5_checksum 119 = .ok (.ldc2_w 319, 3) := by decide +kernel
theorem dX5_checksum_122 : decode cX5_checksum 122 = .ok (.lload_n 1, 1) := by decide +kernel
theorem dX5_checksum_123 : decode cX5_checksum 123 = .ok (.lmul, 1) := by decide +kernel
theorem dX5_checksum_124 : decode cX5_checksum 124 = .ok (.aload_n 0, 1) := by decide +kernel
theorem dX5_checksum_125 : decode cX5_checksum 125 = .ok (.getfield 10, 3) := by decide +kernel
theorem dX5_checksum_128 : decode cX5_checksum 128 = .ok (.invokevirtual 280, 3) := by decide +kernel
theorem dX5_checksum_131 : decode cX5_checksum 131 = .ok (.ladd, 1) := by decide +kernel
theorem dX5_checksum_132 : decode cX5_checksum 132 = .ok (.lstore_n 1, 1) := by decide +kernel
theorem dX5_checksum_133 : decode cX5_checksum 133 = .ok (.ldc2_w 319, 3) := by decide +kernel
theorem dX5_checksum_136 : decode cX5_checksum 136 = .ok (.lload_n 1, 1) := by decide +kernel
theorem dX5_checksum_137 : decode cX5_checksum 137 = .ok (.lmul, 1) := by decide +kernel
theorem dX5_checksum_138 : decode cX5_checksum 138 = .ok (.aload_n 0, 1) := by decide +kernel
theorem dX5_checksum_139 : decode cX5_checksum 139 = .ok (.getfield 10, 3) := by decide +kernel
theorem dX5_checksum_142 : decode cX5_checksum 142 = .ok (.getfield 268, 3) := by decide +kernel
theorem dX5_checksum_145 : decode cX5_checksum 145 = .ok (.ladd, 1) := by decide +kernel
theorem dX5_checksum_146 : decode cX5_checksum 146 = .ok (.lstore_n 1, 1) := by decide +kernel
theorem dX5_checksum_147 : decode cX5_checksum 147 = .ok (.ldc2_w 319, 3) := by decide +kernel
theorem dX5_checksum_150 : decode cX5_checksum 150 = .ok (.lload_n 1, 1) := by decide +kernel
theorem dX5_checksum_151 : decode cX5_checksum 151 = .ok (.lmul, 1) := by decide +kernel
theorem dX5_checksum_152 : decode cX5_checksum 152 = .ok (.aload_n 0, 1) := by decide +kernel
theorem dX5_checksum_153 : decode cX5_checksum 153 = .ok (.getfield 33, 3) := by decide +kernel
theorem dX5_checksum_156 : decode cX5_checksum 156 = .ok (.getfield 305, 3) := by decide +kernel
theorem dX5_checksum_159 : decode cX5_checksum 159 = .ok (.i2l, 1) := by decide +kernel
theorem dX5_checksum_160 : decode cX5_checksum 160 = .ok (.ladd, 1) := by decide +kernel
theorem dX5_checksum_161 : decode cX5_checksum 161 = .ok (.lstore_n 1, 1) := by decide +kernel
theorem dX5_checksum_162 : decode cX5_checksum 162 = .ok (.ldc2_w 319, 3) := by decide +kernel
theorem dX5_checksum_165 : decode cX5_checksum 165 = .ok (.lload_n 1, 1) := by decide +kernel
theorem dX5_checksum_166 : decode cX5_checksum 166 = .ok (.lmul, 1) := by decide +kernel
theorem dX5_checksum_167 : decode cX5_checksum 167 = .ok (.aload_n 0, 1) := by decide +kernel
theorem dX5_checksum_168 : decode cX5_checksum 168 = .ok (.getfield 312, 3) := by decide +kernel
theorem dX5_checksum_171 : decode cX5_checksum 171 = .ok (.i2l, 1) := by decide +kernel
theorem dX5_checksum_172 : decode cX5_checksum 172 = .ok (.ladd, 1) := by decide +kernel
theorem dX5_checksum_173 : decode cX5_checksum 173 = .ok (.lreturn, 1) := by decide +kernel
theorem dX5_withBerths_0 : decode cX5_withBerths 0 = .ok (.lload_n 1, 1) := by decide +kernel
theorem dX5_withBerths_1 : decode cX5_withBerths 1 = .ok (.lstore_n 3, 1) := by decide +kernel
theorem dX5_withBerths_2 : decode cX5_withBerths 2 = .ok (.iconst 0, 1) := by decide +kernel
theorem dX5_withBerths_3 : decode cX5_withBerths 3 = .ok (.istore 5, 2) := by decide +kernel
theorem dX5_withBerths_5 : decode cX5_withBerths 5 = .ok (.iload 5, 2) := by decide +kernel
theorem dX5_withBerths_7 : decode cX5_withBerths 7 = .ok (.aload_n 0, 1) := by decide +kernel
theorem dX5_withBerths_8 : decode cX5_withBerths 8 = .ok (.getfield 10, 3) := by decide +kernel
theorem dX5_withBerths_11 : decode cX5_withBerths 11 = .ok (.getfield 75, 3) := by decide +kernel
theorem dX5_withBerths_14 : decode cX5_withBerths 14 = .ok (.if_icmp .ge 41, 3) := by decide +kernel
theorem dX5_withBerths_17 : decode cX5_withBerths 17 = .ok (.iconst 0, 1) := by decide +kernel
theorem dX5_withBerths_18 : decode cX5_withBerths 18 = .ok (.istore 6, 2) := by decide +kernel
theorem dX5_withBerths_20 : decode cX5_withBerths 20 = .ok (.iload 6, 2) := by decide +kernel
theorem dX5_withBerths_22 : decode cX5_withBerths 22 = .ok (.bipush 6, 2) := by decide +kernel
theorem dX5_withBerths_24 : decode cX5_withBerths 24 = .ok (.if_icmp .gt 25, 3) := by decide +kernel
theorem dX5_withBerths_27 : decode cX5_withBerths 27 = .ok (.ldc2_w 319, 3) := by decide +kernel
theorem dX5_withBerths_30 : decode cX5_withBerths 30 = .ok (.lload_n 3, 1) := by decide +kernel
theorem dX5_withBerths_31 : decode cX5_withBerths 31 = .ok (.lmul, 1) := by decide +kernel
theorem dX5_withBerths_32 : decode cX5_withBerths 32 = .ok (.aload_n 0, 1) := by decide +kernel
theorem dX5_withBerths_33 : decode cX5_withBerths 33 = .ok (.iload 5, 2) := by decide +kernel
theorem dX5_withBerths_35 : decode cX5_withBerths 35 = .ok (.iload 6, 2) := by decide +kernel
theorem dX5_withBerths_37 : decode cX5_withBerths 37 = .ok (.invokevirtual 328, 3) := by decide +kernel
theorem dX5_withBerths_40 : decode cX5_withBerths 40 = .ok (.i2l, 1) := by decide +kernel
theorem dX5_withBerths_41 : decode cX5_withBerths 41 = .ok (.ladd, 1) := by decide +kernel
theorem dX5_withBerths_42 : decode cX5_withBerths 42 = .ok (.lstore_n 3, 1) := by decide +kernel
theorem dX5_withBerths_43 : decode cX5_withBerths 43 = .ok (.iinc 6 1, 3) := by decide +kernel
theorem dX5_withBerths_46 : decode cX5_withBerths 46 = .ok (.goto (-26), 3) := by decide +kernel
theorem dX5_withBerths_49 : decode cX5_withBerths 49 = .ok (.iinc 5 1, 3) := by decide +kernel
theorem dX5_withBerths_52 : decode cX5_withBerths 52 = .ok (.goto (-47), 3) := by decide +kernel
theorem dX5_withBerths_55 : decode cX5_withBerths 55 = .ok (.lload_n 3, 1) := by decide +kernel
theorem dX5_withBerths_56 : decode cX5_withBerths 56 = .ok (.lreturn, 1) := by decide +kernel
theorem dX5_withBoats_0 : decode cX5_withBoats 0 = .ok (.lload_n 1, 1) := by decide +kernel
theorem dX5_withBoats_1 : decode cX5_withBoats 1 = .ok (.lstore_n 3, 1) := by decide +kernel
theorem dX5_withBoats_2 : decode cX5_withBoats 2 = .ok (.iconst 0, 1) := by decide +kernel
theorem dX5_withBoats_3 : decode cX5_withBoats 3 = .ok (.istore 5, 2) := by decide +kernel
theorem dX5_withBoats_5 : decode cX5_withBoats 5 = .ok (.iload 5, 2) := by decide +kernel
theorem dX5_withBoats_7 : decode cX5_withBoats 7 = .ok (.aload_n 0, 1) := by decide +kernel
theorem dX5_withBoats_8 : decode cX5_withBoats 8 = .ok (.getfield 10, 3) := by decide +kernel
theorem dX5_withBoats_11 : decode cX5_withBoats 11 = .ok (.getfield 95, 3) := by decide +kernel
theorem dX5_withBoats_14 : decode cX5_withBoats 14 = .ok (.if_icmp .ge 91, 3) := by decide +kernel
theorem dX5_withBoats_17 : decode cX5_withBoats 17 = .ok (.iconst 0, 1) := by decide +kernel
theorem dX5_withBoats_18 : decode cX5_withBoats 18 = .ok (.istore 6, 2) := by decide +kernel
theorem dX5_withBoats_20 : decode cX5_withBoats 20 = .ok (.iload 6, 2) := by decide +kernel
theorem dX5_withBoats_22 : decode cX5_withBoats 22 = .ok (.bipush 9, 2) := by decide +kernel
theorem dX5_withBoats_24 : decode cX5_withBoats 24 = .ok (.if_icmp .gt 25, 3) := by decide +kernel
theorem dX5_withBoats_27 : decode cX5_withBoats 27 = .ok (.ldc2_w 319, 3) := by decide +kernel
theorem dX5_withBoats_30 : decode cX5_withBoats 30 = .ok (.lload_n 3, 1) := by decide +kernel
theorem dX5_withBoats_31 : decode cX5_withBoats 31 = .ok (.lmul, 1) := by decide +kernel
theorem dX5_withBoats_32 : decode cX5_withBoats 32 = .ok (.aload_n 0, 1) := by decide +kernel
theorem dX5_withBoats_33 : decode cX5_withBoats 33 = .ok (.iload 5, 2) := by decide +kernel
theorem dX5_withBoats_35 : decode cX5_withBoats 35 = .ok (.iload 6, 2) := by decide +kernel
theorem dX5_withBoats_37 : decode cX5_withBoats 37 = .ok (.invokevirtual 330, 3) := by decide +kernel
theorem dX5_withBoats_40 : decode cX5_withBoats 40 = .ok (.i2l, 1) := by decide +kernel
theorem dX5_withBoats_41 : decode cX5_withBoats 41 = .ok (.ladd, 1) := by decide +kernel
theorem dX5_withBoats_42 : decode cX5_withBoats 42 = .ok (.lstore_n 3, 1) := by decide +kernel
theorem dX5_withBoats_43 : decode cX5_withBoats 43 = .ok (.iinc 6 1, 3) := by decide +kernel
theorem dX5_withBoats_46 : decode cX5_withBoats 46 = .ok (.goto (-26), 3) := by decide +kernel
theorem dX5_withBoats_49 : decode cX5_withBoats 49 = .ok (.ldc2_w 319, 3) := by decide +kernel
theorem dX5_withBoats_52 : decode cX5_withBoats 52 = .ok (.lload_n 3, 1) := by decide +kernel
theorem dX5_withBoats_53 : decode cX5_withBoats 53 = .ok (.lmul, 1) := by decide +kernel
theorem dX5_withBoats_54 : decode cX5_withBoats 54 = .ok (.aload_n 0, 1) := by decide +kernel
theorem dX5_withBoats_55 : decode cX5_withBoats 55 = .ok (.getfield 10, 3) := by decide +kernel
theorem dX5_withBoats_58 : decode cX5_withBoats 58 = .ok (.aload_n 0, 1) := by decide +kernel
theorem dX5_withBoats_59 : decode cX5_withBoats 59 = .ok (.getfield 10, 3) := by decide +kernel
theorem dX5_withBoats_62 : decode cX5_withBoats 62 = .ok (.getfield 100, 3) := by decide +kernel
theorem dX5_withBoats_65 : decode cX5_withBoats 65 = .ok (.iload 5, 2) := by decide +kernel
theorem dX5_withBoats_67 : decode cX5_withBoats 67 = .ok (.aaload, 1) := by decide +kernel
theorem dX5_withBoats_68 : decode cX5_withBoats 68 = .ok (.invokevirtual 250, 3) := by decide +kernel
theorem dX5_withBoats_71 : decode cX5_withBoats 71 = .ok (.i2l, 1) := by decide +kernel
theorem dX5_withBoats_72 : decode cX5_withBoats 72 = .ok (.ladd, 1) := by decide +kernel
theorem dX5_withBoats_73 : decode cX5_withBoats 73 = .ok (.lstore_n 3, 1) := by decide +kernel
theorem dX5_withBoats_74 : decode cX5_withBoats 74 = .ok (.ldc2_w 319, 3) := by decide +kernel
theorem dX5_withBoats_77 : decode cX5_withBoats 77 = .ok (.lload_n 3, 1) := by decide +kernel
theorem dX5_withBoats_78 : decode cX5_withBoats 78 = .ok (.lmul, 1) := by decide +kernel
theorem dX5_withBoats_79 : decode cX5_withBoats 79 = .ok (.aload_n 0, 1) := by decide +kernel
theorem dX5_withBoats_80 : decode cX5_withBoats 80 = .ok (.getfield 10, 3) := by decide +kernel
theorem dX5_withBoats_83 : decode cX5_withBoats 83 = .ok (.aload_n 0, 1) := by decide +kernel
theorem dX5_withBoats_84 : decode cX5_withBoats 84 = .ok (.getfield 10, 3) := by decide +kernel
theorem dX5_withBoats_87 : decode cX5_withBoats 87 = .ok (.getfield 100, 3) := by decide +kernel
theorem dX5_withBoats_90 : decode cX5_withBoats 90 = .ok (.iload 5, 2) := by decide +kernel
theorem dX5_withBoats_92 : decode cX5_withBoats 92 = .ok (.aaload, 1) := by decide +kernel
theorem dX5_withBoats_93 : decode cX5_withBoats 93 = .ok (.invokevirtual 284, 3) := by decide +kernel
theorem dX5_withBoats_96 : decode cX5_withBoats 96 = .ok (.i2l, 1) := by decide +kernel
theorem dX5_withBoats_97 : decode cX5_withBoats 97 = .ok (.ladd, 1) := by decide +kernel
theorem dX5_withBoats_98 : decode cX5_withBoats 98 = .ok (.lstore_n 3, 1) := by decide +kernel
theorem dX5_withBoats_99 : decode cX5_withBoats 99 = .ok (.iinc 5 1, 3) := by decide +kernel
theorem dX5_withBoats_102 : decode cX5_withBoats 102 = .ok (.goto (-97), 3) := by decide +kernel
theorem dX5_withBoats_105 : decode cX5_withBoats 105 = .ok (.lload_n 3, 1) := by decide +kernel
theorem dX5_withBoats_106 : decode cX5_withBoats 106 = .ok (.lreturn, 1) := by decide +kernel
theorem dX5_remember_0 : decode cX5_remember 0 = .ok (.aload_n 0, 1) := by decide +kernel
theorem dX5_remember_1 : decode cX5_remember 1 = .ok (.getfield 312, 3) := by decide +kernel
theorem dX5_remember_4 : decode cX5_remember 4 = .ok (.iconst 4, 1) := by decide +kernel
theorem dX5_remember_5 : decode cX5_remember 5 = .ok (.if_icmp .lt 7, 3) := by decide +kernel
theorem dX5_remember_8 : decode cX5_remember 8 = .ok (.aload_n 0, 1) := by decide +kernel
theorem dX5_remember_9 : decode cX5_remember 9 = .ok (.invokevirtual 333, 3) := by decide +kernel
theorem dX5_remember_12 : decode cX5_remember 12 = .ok (.aload_n 0, 1) := by decide +kernel
theorem dX5_remember_13 : decode cX5_remember 13 = .ok (.getfield 19, 3) := by decide +kernel
theorem dX5_remember_16 : decode cX5_remember 16 = .ok (.aload_n 0, 1) := by decide +kernel
theorem dX5_remember_17 : decode cX5_remember 17 = .ok (.getfield 312, 3) := by decide +kernel
theorem dX5_remember_20 : decode cX5_remember 20 = .ok (.aaload, 1) := by decide +kernel
theorem dX5_remember_21 : decode cX5_remember 21 = .ok (.aload_n 0, 1) := by decide +kernel
theorem dX5_remember_22 : decode cX5_remember 22 = .ok (.getfield 10, 3) := by decide +kernel
theorem dX5_remember_25 : decode cX5_remember 25 = .ok (.invokevirtual 256, 3) := by decide +kernel
theorem dX5_remember_28 : decode cX5_remember 28 = .ok (.aload_n 0, 1) := by decide +kernel
theorem dX5_remember_29 : decode cX5_remember 29 = .ok (.dup, 1) := by decide +kernel
theorem dX5_remember_30 : decode cX5_remember 30 = .ok (.getfield 312, 3) := by decide +kernel
theorem dX5_remember_33 : decode cX5_remember 33 = .ok (.iconst 1, 1) := by decide +kernel
theorem dX5_remember_34 : decode cX5_remember 34 = .ok (.iadd, 1) := by decide +kernel
theorem dX5_remember_35 : decode cX5_remember 35 = .ok (.putfield 312, 3) := by decide +kernel
theorem dX5_remember_38 : decode cX5_remember 38 = .ok (.return_, 1) := by decide +kernel
theorem dX5_dropOldestRecord_0 : decode cX5_dropOldestRecord 0 = .ok (.aload_n 0, 1) := by decide +kernel
theorem dX5_dropOldestRecord_1 : decode cX5_dropOldestRecord 1 = .ok (.getfield 19, 3) := by decide +kernel
theorem dX5_dropOldestRecord_4 : decode cX5_dropOldestRecord 4 = .ok (.iconst 0, 1) := by decide +kernel
theorem dX5_dropOldestRecord_5 : decode cX5_dropOldestRecord 5 = .ok (.aaload, 1) := by decide +kernel
theorem dX5_dropOldestRecord_6 : decode cX5_dropOldestRecord 6 = .ok (.astore_n 1, 1) := by decide +kernel
theorem dX5_dropOldestRecord_7 : decode cX5_dropOldestRecord 7 = .ok (.iconst 1, 1) := by decide +kernel
theorem dX5_dropOldestRecord_8 : decode cX5_dropOldestRecord 8 = .ok (.istore_n 2, 1) := by decide +kernel
theorem dX5_dropOldestRecord_9 : decode cX5_dropOldestRecord 9 = .ok (.iload_n 2, 1) := by decide +kernel
theorem dX5_dropOldestRecord_10 : decode cX5_dropOldestRecord 10 = .ok (.iconst 4, 1) := by decide +kernel
theorem dX5_dropOldestRecord_11 : decode cX5_dropOldestRecord 11 = .ok (.if_icmp .ge 23, 3) := by decide +kernel
theorem dX5_dropOldestRecord_14 : decode cX5_dropOldestRecord 14 = .ok (.aload_n 0, 1) := by decide +kernel
theorem dX5_dropOldestRecord_15 : decode cX5_dropOldestRecord 15 = .ok (.getfield 19, 3) := by decide +kernel
theorem dX5_dropOldestRecord_18 : decode cX5_dropOldestRecord 18 = .ok (.iload_n 2, 1) := by decide +kernel
theorem dX5_dropOldestRecord_19 : decode cX5_dropOldestRecord 19 = .ok (.iconst 1, 1) := by decide +kernel
theorem dX5_dropOldestRecord_20 : decode cX5_dropOldestRecord 20 = .ok (.isub, 1) := by decide +kernel
theorem dX5_dropOldestRecord_21 : decode cX5_dropOldestRecord 21 = .ok (.aload_n 0, 1) := by decide +kernel
theorem dX5_dropOldestRecord_22 : decode cX5_dropOldestRecord 22 = .ok (.getfield 19, 3) := by decide +kernel
theorem dX5_dropOldestRecord_25 : decode cX5_dropOldestRecord 25 = .ok (.iload_n 2, 1) := by decide +kernel
theorem dX5_dropOldestRecord_26 : decode cX5_dropOldestRecord 26 = .ok (.aaload, 1) := by decide +kernel
theorem dX5_dropOldestRecord_27 : decode cX5_dropOldestRecord 27 = .ok (.aastore, 1) := by decide +kernel
theorem dX5_dropOldestRecord_28 : decode cX5_dropOldestRecord 28 = .ok (.iinc 2 1, 3) := by decide +kernel
theorem dX5_dropOldestRecord_31 : decode cX5_dropOldestRecord 31 = .ok (.goto (-22), 3) := by decide +kernel
theorem dX5_dropOldestRecord_34 : decode cX5_dropOldestRecord 34 = .ok (.aload_n 0, 1) := by decide +kernel
theorem dX5_dropOldestRecord_35 : decode cX5_dropOldestRecord 35 = .ok (.getfield 19, 3) := by decide +kernel
theorem dX5_dropOldestRecord_38 : decode cX5_dropOldestRecord 38 = .ok (.iconst 3, 1) := by decide +kernel
theorem dX5_dropOldestRecord_39 : decode cX5_dropOldestRecord 39 = .ok (.aload_n 1, 1) := by decide +kernel
theorem dX5_dropOldestRecord_40 : decode cX5_dropOldestRecord 40 = .ok (.aastore, 1) := by decide +kernel
theorem dX5_dropOldestRecord_41 : decode cX5_dropOldestRecord 41 = .ok (.aload_n 0, 1) := by decide +kernel
theorem dX5_dropOldestRecord_42 : decode cX5_dropOldestRecord 42 = .ok (.iconst 3, 1) := by decide +kernel
theorem dX5_dropOldestRecord_43 : decode cX5_dropOldestRecord 43 = .ok (.putfield 312, 3) := by decide +kernel
theorem dX5_dropOldestRecord_46 : decode cX5_dropOldestRecord 46 = .ok (.return_, 1) := by decide +kernel
theorem dX5_thinkOfWinter_0 : decode cX5_thinkOfWinter 0 = .ok (.aload_n 0, 1) := by decide +kernel
theorem dX5_thinkOfWinter_1 : decode cX5_thinkOfWinter 1 = .ok (.getfield 10, 3) := by decide +kernel
theorem dX5_thinkOfWinter_4 : decode cX5_thinkOfWinter 4 = .ok (.getfield 203, 3) := by decide +kernel
theorem dX5_thinkOfWinter_7 : decode cX5_thinkOfWinter 7 = .ok (.ifCond .eq 14, 3) := by decide +kernel
theorem dX5_thinkOfWinter_10 : decode cX5_thinkOfWinter 10 = .ok (.new 78, 3) := by decide +kernel
theorem dX5_thinkOfWinter_13 : decode cX5_thinkOfWinter 13 = .ok (.dup, 1) := by decide +kernel
theorem dX5_thinkOfWinter_14 : decode cX5_thinkOfWinter 14 = .ok (.ldc_w 336, 3) := by decide +kernel
theorem dX5_thinkOfWinter_17 : decode cX5_thinkOfWinter 17 = .ok (.invokespecial 82, 3) := by decide +kernel
theorem dX5_thinkOfWinter_20 : decode cX5_thinkOfWinter 20 = .ok (.athrow, 1) := by decide +kernel
theorem dX5_thinkOfWinter_21 : decode cX5_thinkOfWinter 21 = .ok (.aload_n 0, 1) := by decide +kernel
theorem dX5_thinkOfWinter_22 : decode cX5_thinkOfWinter 22 = .ok (.getfield 16, 3) := by decide +kernel
theorem dX5_thinkOfWinter_25 : decode cX5_thinkOfWinter 25 = .ok (.aload_n 0, 1) := by decide +kernel
theorem dX5_thinkOfWinter_26 : decode cX5_thinkOfWinter 26 = .ok (.getfield 10, 3) := by decide +kernel
theorem dX5_thinkOfWinter_29 : decode cX5_thinkOfWinter 29 = .ok (.invokevirtual 256, 3) := by decide +kernel
theorem dX5_thinkOfWinter_32 : decode cX5_thinkOfWinter 32 = .ok (.aload_n 0, 1) := by decide +kernel
theorem dX5_thinkOfWinter_33 : decode cX5_thinkOfWinter 33 = .ok (.getfield 16, 3) := by decide +kernel
theorem dX5_thinkOfWinter_36 : decode cX5_thinkOfWinter 36 = .ok (.aload_n 0, 1) := by decide +kernel
theorem dX5_thinkOfWinter_37 : decode cX5_thinkOfWinter 37 = .ok (.getfield 26, 3) := by decide +kernel
theorem dX5_thinkOfWinter_40 : decode cX5_thinkOfWinter 40 = .ok (.invokevirtual 338, 3) := by decide +kernel
theorem dX5_thinkOfWinter_43 : decode cX5_thinkOfWinter 43 = .ok (.return_, 1) := by decide +kernel
theorem dX5_checkBerth_0 : decode cX5_checkBerth 0 = .ok (.iload_n 1, 1) := by decide +kernel
theorem dX5_checkBerth_1 : decode cX5_checkBerth 1 = .ok (.ifCond .lt 14, 3) := by decide +kernel
theorem dX5_checkBerth_4 : decode cX5_checkBerth 4 = .ok (.iload_n 1, 1) := by decide +kernel
theorem dX5_checkBerth_5 : decode cX5_checkBerth 5 = .ok (.aload_n 0, 1) := by decide +kernel
theorem dX5_checkBerth_6 : decode cX5_checkBerth 6 = .ok (.getfield 10, 3) := by decide +kernel
theorem dX5_checkBerth_9 : decode cX5_checkBerth 9 = .ok (.getfield 75, 3) := by decide +kernel
theorem dX5_checkBerth_12 : decode cX5_checkBerth 12 = .ok (.if_icmp .lt 14, 3) := by decide +kernel
theorem dX5_checkBerth_15 : decode cX5_checkBerth 15 = .ok (.new 342, 3) := by decide +kernel
theorem dX5_checkBerth_18 : decode cX5_checkBerth 18 = .ok (.dup, 1) := by decide +kernel
theorem dX5_checkBerth_19 : decode cX5_checkBerth 19 = .ok (.ldc_w 344, 3) := by decide +kernel
theorem dX5_checkBerth_22 : decode cX5_checkBerth 22 = .ok (.invokespecial 346, 3) := by decide +kernel
theorem dX5_checkBerth_25 : decode cX5_checkBerth 25 = .ok (.athrow, 1) := by decide +kernel
theorem dX5_checkBerth_26 : decode cX5_checkBerth 26 = .ok (.return_, 1) := by decide +kernel
theorem dX5_checkBoat_0 : decode cX5_checkBoat 0 = .ok (.iload_n 1, 1) := by decide +kernel
theorem dX5_checkBoat_1 : decode cX5_checkBoat 1 = .ok (.ifCond .lt 14, 3) := by decide +kernel
theorem dX5_checkBoat_4 : decode cX5_checkBoat 4 = .ok (.iload_n 1, 1) := by decide +kernel
theorem dX5_checkBoat_5 : decode cX5_checkBoat 5 = .ok (.aload_n 0, 1) := by decide +kernel
theorem dX5_checkBoat_6 : decode cX5_checkBoat 6 = .ok (.getfield 10, 3) := by decide +kernel
theorem dX5_checkBoat_9 : decode cX5_checkBoat 9 = .ok (.getfield 95, 3) := by decide +kernel
theorem dX5_checkBoat_12 : decode cX5_checkBoat 12 = .ok (.if_icmp .lt 14, 3) := by decide +kernel
theorem dX5_checkBoat_15 : decode cX5_checkBoat 15 = .ok (.new 342, 3) := by decide +kernel
theorem dX5_checkBoat_18 : decode cX5_checkBoat 18 = .ok (.dup, 1) := by decide +kernel
theorem dX5_checkBoat_19 : decode cX5_checkBoat 19 = .ok (.ldc_w 347, 3) := by decide +kernel
theorem dX5_checkBoat_22 : decode cX5_checkBoat 22 = .ok (.invokespecial 346, 3) := by decide +kernel
theorem dX5_checkBoat_25 : decode cX5_checkBoat 25 = .ok (.athrow, 1) := by decide +kernel
theorem dX5_checkBoat_26 : decode cX5_checkBoat 26 = .ok (.return_, 1) := by decide +kernel
theorem dX5_checkDays_0 : decode cX5_checkDays 0 = .ok (.iload_n 0, 1) := by decide +kernel
theorem dX5_checkDays_1 : decode cX5_checkDays 1 = .ok (.iconst 1, 1) := by decide +kernel
theorem dX5_checkDays_2 : decode cX5_checkDays 2 = .ok (.sipush 400, 3) := by decide +kernel
theorem dX5_checkDays_5 : decode cX5_checkDays 5 = .ok (.invokestatic 65, 3) := by decide +kernel
theorem dX5_checkDays_8 : decode cX5_checkDays 8 = .ok (.ifCond .ne 14, 3) := by decide +kernel
theorem dX5_checkDays_11 : decode cX5_checkDays 11 = .ok (.new 41, 3) := by decide +kernel
theorem dX5_checkDays_14 : decode cX5_checkDays 14 = .ok (.dup, 1) := by decide +kernel
theorem dX5_checkDays_15 : decode cX5_checkDays 15 = .ok (.ldc_w 349, 3) := by decide +kernel
theorem dX5_checkDays_18 : decode cX5_checkDays 18 = .ok (.invokespecial 45, 3) := by decide +kernel
theorem dX5_checkDays_21 : decode cX5_checkDays 21 = .ok (.athrow, 1) := by decide +kernel
theorem dX5_checkDays_22 : decode cX5_checkDays 22 = .ok (.return_, 1) := by decide +kernel
theorem dX5_maySet_0 : decode cX5_maySet 0 = .ok (.iload_n 1, 1) := by decide +kernel
theorem dX5_maySet_1 : decode cX5_maySet 1 = .ok (.tableswitch 92 0 3 #[31, 39, 44, 68], 31) := by decide +kernel
theorem dX5_maySet_32 : decode cX5_maySet 32 = .ok (.iload_n 2, 1) := by decide +kernel
theorem dX5_maySet_33 : decode cX5_maySet 33 = .ok (.iconst 0, 1) := by decide +kernel
theorem dX5_maySet_34 : decode cX5_maySet 34 = .ok (.bipush 100, 2) := by decide +kernel
theorem dX5_maySet_36 : decode cX5_maySet 36 = .ok (.invokestatic 65, 3) := by decide +kernel
theorem dX5_maySet_39 : decode cX5_maySet 39 = .ok (.ireturn, 1) := by decide +kernel
theorem dX5_maySet_40 : decode cX5_maySet 40 = .ok (.iload_n 2, 1) := by decide +kernel
theorem dX5_maySet_41 : decode cX5_maySet 41 = .ok (.invokestatic 69, 3) := by decide +kernel
theorem dX5_maySet_44 : decode cX5_maySet 44 = .ok (.ireturn, 1) := by decide +kernel
theorem dX5_maySet_45 : decode cX5_maySet 45 = .ok (.iload_n 2, 1) := by decide +kernel
theorem dX5_maySet_46 : decode cX5_maySet 46 = .ok (.invokestatic 351, 3) := by decide +kernel
theorem dX5_maySet_49 : decode cX5_maySet 49 = .ok (.ifCond .eq 18, 3) := by decide +kernel
theorem dX5_maySet_52 : decode cX5_maySet 52 = .ok (.iload_n 2, 1) := by decide +kernel
theorem dX5_maySet_53 : decode cX5_maySet 53 = .ok (.aload_n 0, 1) := by decide +kernel
theorem dX5_maySet_54 : decode cX5_maySet 54 = .ok (.getfield 10, 3) := by decide +kernel
theorem dX5_maySet_57 : decode cX5_maySet 57 = .ok (.getfield 127, 3) := by decide +kernel
theorem dX5_maySet_60 : decode cX5_maySet 60 = .ok (.if_icmp .eq 7, 3) := by decide +kernel
theorem dX5_maySet_63 : decode cX5_maySet 63 = .ok (.iconst 1, 1) := by decide +kernel
theorem dX5_maySet_64 : decode cX5_maySet 64 = .ok (.goto 4, 3) := by decide +kernel
theorem dX5_maySet_67 : decode cX5_maySet 67 = .ok (.iconst 0, 1) := by decide +kernel
theorem dX5_maySet_68 : decode cX5_maySet 68 = .ok (.ireturn, 1) := by decide +kernel
theorem dX5_maySet_69 : decode cX5_maySet 69 = .ok (.iload_n 2, 1) := by decide +kernel
theorem dX5_maySet_70 : decode cX5_maySet 70 = .ok (.invokestatic 351, 3) := by decide +kernel
theorem dX5_maySet_73 : decode cX5_maySet 73 = .ok (.ifCond .eq 18, 3) := by decide +kernel
theorem dX5_maySet_76 : decode cX5_maySet 76 = .ok (.iload_n 2, 1) := by decide +kernel
theorem dX5_maySet_77 : decode cX5_maySet 77 = .ok (.aload_n 0, 1) := by decide +kernel
theorem dX5_maySet_78 : decode cX5_maySet 78 = .ok (.getfield 10, 3) := by decide +kernel
theorem dX5_maySet_81 : decode cX5_maySet 81 = .ok (.getfield 124, 3) := by decide +kernel
theorem dX5_maySet_84 : decode cX5_maySet 84 = .ok (.if_icmp .eq 7, 3) := by decide +kernel
theorem dX5_maySet_87 : decode cX5_maySet 87 = .ok (.iconst 1, 1) := by decide +kernel
theorem dX5_maySet_88 : decode cX5_maySet 88 = .ok (.goto 4, 3) := by decide +kernel
theorem dX5_maySet_91 : decode cX5_maySet 91 = .ok (.iconst 0, 1) := by decide +kernel
theorem dX5_maySet_92 : decode cX5_maySet 92 = .ok (.ireturn, 1) := by decide +kernel
theorem dX5_maySet_93 : decode cX5_maySet 93 = .ok (.iconst 0, 1) := by decide +kernel
theorem dX5_maySet_94 : decode cX5_maySet 94 = .ok (.ireturn, 1) := by decide +kernel
theorem dX5_isDayOfYear_0 : decode cX5_isDayOfYear 0 = .ok (.iload_n 0, 1) := by decide +kernel
theorem dX5_isDayOfYear_1 : decode cX5_isDayOfYear 1 = .ok (.iconst 0, 1) := by decide +kernel
theorem dX5_isDayOfYear_2 : decode cX5_isDayOfYear 2 = .ok (.sipush 359, 3) := by decide +kernel
theorem dX5_isDayOfYear_5 : decode cX5_isDayOfYear 5 = .ok (.invokestatic 65, 3) := by decide +kernel
theorem dX5_isDayOfYear_8 : decode cX5_isDayOfYear 8 = .ok (.ireturn, 1) := by decide +kernel
theorem dX5_isRate_0 : decode cX5_isRate 0 = .ok (.iload_n 0, 1) := by decide +kernel
theorem dX5_isRate_1 : decode cX5_isRate 1 = .ok (.iconst 0, 1) := by decide +kernel
theorem dX5_isRate_2 : decode cX5_isRate 2 = .ok (.ldc_w 354, 3) := by decide +kernel
theorem dX5_isRate_5 : decode cX5_isRate 5 = .ok (.invokestatic 65, 3) := by decide +kernel
theorem dX5_isRate_8 : decode cX5_isRate 8 = .ok (.ireturn, 1) := by decide +kernel
theorem dX5_isWithin_0 : decode cX5_isWithin 0 = .ok (.iload_n 0, 1) := by decide +kernel
theorem dX5_isWithin_1 : decode cX5_isWithin 1 = .ok (.iload_n 1, 1) := by decide +kernel
theorem dX5_isWithin_2 : decode cX5_isWithin 2 = .ok (.if_icmp .lt 12, 3) := by decide +kernel
theorem dX5_isWithin_5 : decode cX5_isWithin 5 = .ok (.iload_n 0, 1) := by decide +kernel
theorem dX5_isWithin_6 : decode cX5_isWithin 6 = .ok (.iload_n 2, 1) := by decide +kernel
theorem dX5_isWithin_7 : decode cX5_isWithin 7 = .ok (.if_icmp .gt 7, 3) := by decide +kernel
theorem dX5_isWithin_10 : decode cX5_isWithin 10 = .ok (.iconst 1, 1) := by decide +kernel
theorem dX5_isWithin_11 : decode cX5_isWithin 11 = .ok (.goto 4, 3) := by decide +kernel
theorem dX5_isWithin_14 : decode cX5_isWithin 14 = .ok (.iconst 0, 1) := by decide +kernel
theorem dX5_isWithin_15 : decode cX5_isWithin 15 = .ok (.ireturn, 1) := by decide +kernel
end
section
/-! ===== the world: one fixed set of objects and arrays, named by (kind, owner, place); addresses are a function of the name =====
kinds: 0 MarinaBerths, 1 Marina (6: 0 now, 1 thought, 2.. records), 2 Berth (owner, k), 3 Boat (owner, k), 4 WinterPlan, 5 TableText, 6 MarinaBerthsModel,
10 Berth[] and 11 Boat[] and 12 lows of a Marina, 13 records, 14 wishes, 15 holders, 16 signs, 17 numbers; the model's 20 now, 21 past, 22 kept, 23 text, 24 movers, 25 shelters, 26 best, 27 numbers; 30 the law's out -/
abbrev mb_RF : Type := Nat × Nat × Nat
abbrev mb_AV : Type := Int32 ⊕ Int64 ⊕ Option mb_RF
abbrev mb_AH : Type := (Nat → Nat → Nat → Nat → Int32) × (Nat → Nat → Nat → Nat → Int64) × (Nat → Nat)
abbrev mb_RS : Type := (Option mb_AV ⊕ String) × mb_AH
abbrev mb_I (x : Int32) : mb_AV := .inl x
abbrev mb_L (x : Int64) : mb_AV := .inr (.inl x)
abbrev mb_N : mb_AV := .inr (.inr none)
abbrev mb_F (k a b : Nat) : mb_AV := .inr (.inr (some (k, a, b)))
abbrev mb_G : Type := va_G × (Nat → ClassId) × (mb_RF → Nat)
def mb_cz (G : mb_G) (v : mb_AV) : Value := match v with
  | .inl x => .int x
  | .inr (.inl x) => .long x
  | .inr (.inr none) => .null
  | .inr (.inr (some t)) => .ref (G.2.2 t)
def mb_zq (G : mb_G) (q : Nat × mb_AV) : Nat × Value := (q.1, mb_cz G q.2)
def mb_nA (k : Nat) : Nat := ([1, 6, 6, 6, 1, 1, 1, 0, 0, 0, 6, 6, 6, 1, 1, 1, 1, 1, 0, 0, 1, 1, 1, 1, 1, 1, 1, 1, 0, 0, 1] : List Nat).getD k 0
def mb_nB (k : Nat) : Nat := ([1, 1, 16, 20] : List Nat).getD k 1
/-- how long an array is -/
def mb_al (k : Nat) : Nat := ([0, 0, 0, 0, 0, 0, 0, 0, 0, 0, 16, 20, 14, 4, 20, 16, 70, 14, 0, 0, 270, 1080, 270, 70, 20, 16, 65536, 14, 0, 0, 1] : List Nat).getD k 0
def mb_okr (t : mb_RF) : Prop := t.2.1 < mb_nA t.1 ∧ t.2.2 < mb_nB t.1
def mb_ok (v : mb_AV) : Prop := match v with
  | .inr (.inr (some t)) => mb_okr t
  | _ => True
def mb_oks : List mb_AV → Prop
  | [] => True
  | v :: r => mb_ok v ∧ mb_oks r
def mb_TR : List mb_RF := (List.range 31).flatMap (fun k => (List.range (mb_nA k)).flatMap (fun a => (List.range (mb_nB k)).map (fun b => (k, a, b))))
theorem mb_TR_mem {t : mb_RF} (h : mb_okr t) : t ∈ mb_TR := by
  obtain ⟨k, a, b⟩ := t
  have hk : k < 31 := by
    rcases Nat.lt_or_ge k 31 with h9 | h9
    · exact h9
    · exfalso
      have h1 : a < mb_nA k := h.1
      have h2 : mb_nA k = 0 := by
        unfold mb_nA
        rw [List.getD_eq_getElem?_getD, List.getElem?_eq_none (by simpa using h9)]
        rfl
      omega
  exact List.mem_flatMap.mpr ⟨k, List.mem_range.mpr hk, List.mem_flatMap.mpr ⟨a, List.mem_range.mpr h.1, List.mem_map.mpr ⟨b, List.mem_range.mpr h.2, rfl⟩⟩⟩
theorem mb_TR_ok {t : mb_RF} (h : t ∈ mb_TR) : mb_okr t := by
  obtain ⟨k, -, h⟩ := List.mem_flatMap.mp h
  obtain ⟨a, ha, h⟩ := List.mem_flatMap.mp h
  obtain ⟨b, hb, h⟩ := List.mem_map.mp h
  subst h
  exact ⟨List.mem_range.mp ha, List.mem_range.mp hb⟩
theorem mb_TR_nd : mb_TR.Nodup := by decide +kernel
def mb_ek (G : mb_G) (f : Nat → Int32) (g : Nat → Int64) (r : Nat → Nat) (t : mb_RF) : va_E := match t with
  | (0, _, _) => .inr (5, [.ref (G.2.2 (1, 0, 0)), .ref (G.2.2 (1, 1, 0)), .ref (G.2.2 (13, 0, 0)), .int (f 3), .ref (G.2.2 (4, 0, 0)), .ref (G.2.2 (5, 0, 0))])
  | (1, a, _) => .inr (2, [.ref (G.2.2 (10, a, 0)), .int (f 1), .ref (G.2.2 (11, a, 0)), .int (f 3), .ref (G.2.2 (12, a, 0)), .int (f 5), .int (f 6), .int (f 7), .int (f 8), .int (f 9), .int (f 10), .int (f 11), .int (f 12), .long (g 13), .int (f 14)])
  | (2, _, _) => .inr (0, [.int (f 0), .int (f 1), .int (f 2), .int (f 3)])
  | (3, _, _) => .inr (1, [.int (f 0), .int (f 1), .int (f 2), .int (f 3), .int (f 4), .int (f 5), .int (f 6), .int (f 7), .int (f 8)])
  | (4, _, _) => .inr (4, [.ref (G.2.2 (14, 0, 0)), .ref (G.2.2 (15, 0, 0)), .int (f 2), .int (f 3)])
  | (5, _, _) => .inr (3, [.ref (G.2.2 (16, 0, 0)), .int (f 1), .ref (G.2.2 (17, 0, 0)), .int (f 3)])
  | (6, _, _) => .inr (6, [.ref (G.2.2 (20, 0, 0)), .ref (G.2.2 (21, 0, 0)), .ref (G.2.2 (22, 0, 0)), .int (f 3), .int (f 4), .ref (G.2.2 (23, 0, 0)), .int (f 6), .ref (G.2.2 (24, 0, 0)), .ref (G.2.2 (25, 0, 0)), .ref (G.2.2 (26, 0, 0)), .int (f 10), .int (f 11), .int (f 12), .int (f 13), .ref (G.2.2 (27, 0, 0)), .long (g 15)])
  | (10, a, _) => .inl (G.2.1 3, (16, .inr (.inr (.inr (.inr (fun k => some (G.2.2 (2, a, k))))))))
  | (11, a, _) => .inl (G.2.1 4, (20, .inr (.inr (.inr (.inr (fun k => some (G.2.2 (3, a, k))))))))
  | (13, _, _) => .inl (G.2.1 5, (4, .inr (.inr (.inr (.inr (fun k => some (G.2.2 (1, r k, 0))))))))
  | (16, _, _) => .inl (G.2.1 1, (70, .inl f))
  | (30, _, _) => .inl (G.2.1 2, (1, .inr (.inl g)))
  | (k, _, _) => .inl (G.2.1 0, (mb_al k, .inl f))
abbrev mb_eh (G : mb_G) (h : mb_AH) (t : mb_RF) : va_E := mb_ek G (h.1 t.1 t.2.1 t.2.2) (h.2.1 t.1 t.2.1 t.2.2) h.2.2 t
def mb_wl (G : mb_G) (h : mb_AH) : va_W := mb_TR.map (fun t => (G.2.2 t, mb_eh G h t))
def mb_gok (G : mb_G) : Prop := ∀ t u : mb_RF, mb_okr t → mb_okr u → G.2.2 t = G.2.2 u → t = u
def mb_A (G : mb_G) : Nat → Prop := fun q => ∃ t : mb_RF, mb_okr t ∧ q = G.2.2 t
def mb_wd (G : mb_G) (h : mb_AH) (H : Heap) : Prop := va_P G.1 vwCl (mb_wl G h) H ∧ ∀ k : Nat, k < 4 → h.2.2 k < 6
theorem mb_wl_at (G : mb_G) (h : mb_AH) {q : Nat} {t : mb_RF} (ht : mb_TR[q]? = some t) : (mb_wl G h)[q]? = some (G.2.2 t, mb_eh G h t) := by
  unfold mb_wl
  rw [List.getElem?_map, ht]
  rfl
theorem mb_wl_of (G : mb_G) (h : mb_AH) {q : Nat} {x : Nat × va_E} (hx : (mb_wl G h)[q]? = some x) : ∃ t : mb_RF, mb_TR[q]? = some t ∧ x = (G.2.2 t, mb_eh G h t) := by
  unfold mb_wl at hx
  rw [List.getElem?_map] at hx
  cases ht : mb_TR[q]? with
  | none => rw [ht] at hx; cases hx
  | some t => rw [ht] at hx; exact ⟨t, rfl, (Option.some.inj hx).symm⟩
theorem mb_at {t : mb_RF} (h : mb_okr t) : ∃ q : Nat, mb_TR[q]? = some t := List.getElem?_of_mem (mb_TR_mem h)
theorem mb_nd_inj {α : Type} {l : List α} (hd : l.Nodup) {i j : Nat} (hi : i < l.length) (hj : j < l.length) (e : l[i] = l[j]) : i = j := by
  rcases Nat.lt_trichotomy i j with q | q | q
  · exact absurd e (List.pairwise_iff_getElem.mp hd i j hi hj q)
  · exact q
  · exact absurd e.symm (List.pairwise_iff_getElem.mp hd j i hj hi q)
theorem mb_TR_inj {i j : Nat} {t : mb_RF} (hi : mb_TR[i]? = some t) (hj : mb_TR[j]? = some t) : i = j := by
  obtain ⟨h1, e1⟩ := List.getElem?_eq_some_iff.mp hi
  obtain ⟨h2, e2⟩ := List.getElem?_eq_some_iff.mp hj
  exact mb_nd_inj mb_TR_nd h1 h2 (e1.trans e2.symm)
theorem mb_D {G : mb_G} (hg : mb_gok G) (h : mb_AH) : va_D (mb_A G) (mb_wl G h) := by
  refine ⟨fun i j p q hi hj e => ?_, fun k q hk => ?_⟩
  · obtain ⟨t, ht, rfl⟩ := mb_wl_of G h hi
    obtain ⟨u, hu, rfl⟩ := mb_wl_of G h hj
    have e2 : t = u := hg t u (mb_TR_ok (List.mem_of_getElem? ht)) (mb_TR_ok (List.mem_of_getElem? hu)) e
    subst e2
    exact mb_TR_inj ht hu
  · obtain ⟨t, ht, rfl⟩ := mb_wl_of G h hk
    exact ⟨t, mb_TR_ok (List.mem_of_getElem? ht), rfl⟩
theorem mb_set {G : mb_G} {h h2 : mb_AH} {q : Nat} {t : mb_RF} {e : va_E} (ht : mb_TR[q]? = some t) (ho : ∀ u : mb_RF, mb_okr u → u ≠ t → mb_eh G h2 u = mb_eh G h u) (he : mb_eh G h2 t = e) : (mb_wl G h).set q (G.2.2 t, e) = mb_wl G h2 := by
  apply List.ext_getElem?
  intro i
  rw [List.getElem?_set]
  by_cases hi : q = i
  · subst hi
    have hlt : q < (mb_wl G h).length := by
      have := (List.getElem?_eq_some_iff.mp (mb_wl_at G h ht)).1
      exact this
    rw [if_pos rfl, if_pos hlt, mb_wl_at G h2 ht, he]
  · rw [if_neg hi]
    unfold mb_wl
    rw [List.getElem?_map, List.getElem?_map]
    cases hu : mb_TR[i]? with
    | none => rfl
    | some u =>
      have hne : u ≠ t := fun e2 => hi (mb_TR_inj ht (e2 ▸ hu))
      show some (G.2.2 u, mb_eh G h u) = some (G.2.2 u, mb_eh G h2 u)
      rw [ho u (mb_TR_ok (List.mem_of_getElem? hu)) hne]
def mb_sI (h : mb_AH) (k a b : Nat) (j : Nat) (x : Int32) : mb_AH := (fun k' a' b' j' => if k' = k ∧ a' = a ∧ b' = b ∧ j' = j then x else h.1 k' a' b' j', h.2.1, h.2.2)
def mb_sL (h : mb_AH) (k a b : Nat) (j : Nat) (x : Int64) : mb_AH := (h.1, fun k' a' b' j' => if k' = k ∧ a' = a ∧ b' = b ∧ j' = j then x else h.2.1 k' a' b' j', h.2.2)
def mb_sR (h : mb_AH) (j : Nat) (x : Nat) : mb_AH := (h.1, h.2.1, fun j' => if j' = j then x else h.2.2 j')
theorem mb_sI_eq (h : mb_AH) (k a b j : Nat) (x : Int32) : (mb_sI h k a b j x).1 k a b = upd (h.1 k a b) j x := by
  funext i
  simp [mb_sI, upd]
theorem mb_sL_eq (h : mb_AH) (k a b j : Nat) (x : Int64) : (mb_sL h k a b j x).2.1 k a b = vp_updL (h.2.1 k a b) j x := by
  funext i
  simp [mb_sL, vp_updL]
theorem mb_sI_ne (G : mb_G) (h : mb_AH) (k a b j : Nat) (x : Int32) (u : mb_RF) (hu : u ≠ (k, a, b)) : mb_eh G (mb_sI h k a b j x) u = mb_eh G h u := by
  have e : (mb_sI h k a b j x).1 u.1 u.2.1 u.2.2 = h.1 u.1 u.2.1 u.2.2 := by
    funext i
    simp only [mb_sI]
    rw [if_neg]
    rintro ⟨h1, h2, h3, -⟩
    exact hu (Prod.ext h1 (Prod.ext h2 h3))
  show mb_ek G ((mb_sI h k a b j x).1 u.1 u.2.1 u.2.2) _ _ u = _
  rw [e]
  rfl
theorem mb_sL_ne (G : mb_G) (h : mb_AH) (k a b j : Nat) (x : Int64) (u : mb_RF) (hu : u ≠ (k, a, b)) : mb_eh G (mb_sL h k a b j x) u = mb_eh G h u := by
  have e : (mb_sL h k a b j x).2.1 u.1 u.2.1 u.2.2 = h.2.1 u.1 u.2.1 u.2.2 := by
    funext i
    simp only [mb_sL]
    rw [if_neg]
    rintro ⟨h1, h2, h3, -⟩
    exact hu (Prod.ext h1 (Prod.ext h2 h3))
  show mb_ek G _ ((mb_sL h k a b j x).2.1 u.1 u.2.1 u.2.2) _ u = _
  rw [e]
  rfl
theorem mb_ek_r (G : mb_G) (f : Nat → Int32) (g : Nat → Int64) (r r2 : Nat → Nat) (u : mb_RF) (hu : u.1 ≠ 13) : mb_ek G f g r2 u = mb_ek G f g r u := by
  obtain ⟨k, a, b⟩ := u
  unfold mb_ek
  split <;> first | rfl | (simp_all; done)
def mb_mc (r : mb_RS) : Nat := match r.1 with
  | .inl _ => 0
  | .inr _ => 1
def mb_ms (r : mb_RS) : Nat := match r.1 with
  | .inl _ => 0
  | .inr _ => 6
def mb_GW : List Cond := lw_tbl.filter goodWord
abbrev mb_tys (G : mb_G) : List (ClassId × FieldType) := [(G.2.1 0, .int), (G.2.1 1, .char), (G.2.1 2, .long), (G.2.1 3, .object RX0), (G.2.1 4, .object RX1), (G.2.1 5, .object RX2)]
/-- the texts of the exceptions -/
def mb_strs : List (Nat × String) := [(212, "what is not 0 to 13"), (344, "there is no such berth"), (159, "what is not 0 to 6"), (347, "there is no such boat"), (194, "what is not 0 to 9"), (43, "the text has a fault"), (59, "the day is negative"), (73, "depth, length or rate is out of range"), (80, "there are 16 berths"), (93, "length, draft or bonus is out of range"), (98, "there are 20 boats"), (113, "what or value is out of range, or both days would be the same"), (134, "the rate is out of range"), (217, "the berth is not free, too small for the boat, or exposed in winter"), (223, "the boat is away, or it owes something"), (225, "both boats are the same"), (231, "a boat is in no berth, or does not fit that of the other one"), (233, "the boat is not away"), (242, "the berth is not free, or exposed in winter"), (349, "the number of days is not 1 to 400"), (264, "a boat would owe too much"), (266, "the amount is not from 1 to what the boat owes"), (272, "the amount is negative"), (278, "the boat would owe too much"), (336, "it is winter"), (303, "the code is not 32 to 126"), (306, "the text has 70 characters"), (315, "there is no record")]

/-- words of the tables that stand by the classes alone -/
def mb_FW : List Cond := lw_tbl.filter (fun w => w.onTables && w.faceAtom)
theorem mb_FW_warm {s U : State} (hW : s.WarmedH U.vm) {w : Cond} (hw : w ∈ mb_FW) (h : va_Nw w s) : va_Nw w U := by
  have h1 := (List.mem_filter.mp hw).2
  rw [Bool.and_eq_true] at h1
  exact va_tabs h1.1 (rfl : (s.setVm U.vm).vm = U.vm) (Cond.faceAtom_setVm hW.alike w h1.2 h)
def mb_XW (A : Nat → Prop) (U : State) : Prop := vx_Zq Bundle.tN "UNASSIGNED_STACK" Bundle.steD A U U.heap ∧ vx_Zq Bundle.tN "SUPPRESSED_SENTINEL" Bundle.listD A U U.heap ∧ (∀ q ∈ mb_strs, ∃ a : Nat, (vk_R RX5 q.1 q.2 a U)) ∧ ∀ w ∈ mb_FW, va_Nw w U
/-- what holds all the time that a method runs -/
def mb_Cx (p : Program) (l : Launch) (R : Room) (s : State) (m : MethodId) (args : Array Value) (meth : Method) (c : Code) (G : mb_G) (own : String) (cc : ByteArray) (nL : Nat) (ret : Option FieldType) (d : Nat) (res : mb_RS) : Prop :=
  p.tables.exec = Jvm.exec ∧ c.code = cc ∧ c.maxLocals = nL ∧ s.vm.findClass own = some m.cls ∧ (∀ w ∈ mb_GW, w.before args s = true) ∧ meth.locks = false ∧ meth.sig.returnType = ret ∧ (∀ x ∈ c.exceptionTable.toList, False) ∧
  (8 + d ≤ R.frames ∧ 128 + 64 * d ≤ R.locals ∧ mb_mc res ≤ R.cells ∧ mb_ms res ≤ R.slots) ∧ va_K G.1 vwCl (mb_tys G) s ∧ mb_XW (mb_A G) s ∧ l.stackTraces = false ∧ mb_gok G
def mb_Qc (G : mb_G) (res : mb_RS) : Array Value → State → Outcome → State → Prop := fun _ st o t => (∃ v : Option mb_AV, res.1 = .inl v ∧ o = .returned (v.map (mb_cz G)) ∧ mb_oks v.toList) ∧ mb_wd G res.2 t.heap ∧ va_F (mb_A G) st t
def mb_XC (G : mb_G) (res : mb_RS) : String → State → State → Prop := fun E st t => res.1 = .inr E ∧ mb_wd G res.2 t.heap ∧ va_F (mb_A G) st t
/-- from this place of the method it comes to its end with that outcome -/
def mb_Ev (l : Launch) (G : mb_G) (own : String) (cc : ByteArray) (nL : Nat) (ret : Option FieldType) (d pc : Nat) (lv : List (Nat × mb_AV)) (st : List mb_AV) (h : mb_AH) (res : mb_RS) : Prop :=
  ∀ (p : Program) (e : Env) (R : Room) (s : State) (m : MethodId) (args : Array Value) (below : List Frame) (meth : Method) (c : Code) (H : Heap) (locs : List Loc) (ls : Array Slot),
    mb_Cx p l R s m args meth c G own cc nL ret d res → va_S (mb_A G) s.heap H locs → mb_wd G h H → lv_has ls nL (lv.map (mb_zq G)) → (∀ q ∈ lv, mb_ok q.2) → mb_oks st →
    W p l e R s m args below meth c H locs 0 0 (vx_MQ below (mb_Qc G res) (mb_XC G res) args s (mb_mc res) (mb_ms res) (mb_A G)) (F0 m pc ls (st.map (mb_cz G)))
def mb_rm (d : Nat) (res : mb_RS) : Room := { frames := 8 + d, cells := mb_mc res, slots := mb_ms res, locals := 128 + 64 * d }
def mb_Pc (G : mb_G) (as : List mb_AV) (h : mb_AH) : Array Value → State → Prop := va_Pc (as.map (mb_cz G)) (fun U => mb_wd G h U.heap ∧ va_K G.1 vwCl (mb_tys G) U ∧ mb_XW (mb_A G) U)
/-- a method's contract: at these arguments and this world it has that outcome -/
def mb_Mt (l : Launch) (G : mb_G) (y : MethodName) (cc : ByteArray) (nL : Nat) (ret : Option FieldType) (d : Nat) (as : List mb_AV) (h : mb_AH) (res : mb_RS) : Prop :=
  mb_oks as → vx_Met l y (Cond.code y cc nL ret :: mb_GW) (mb_rm d res) (mb_Pc G as h) (mb_Qc G res) (mb_XC G res) (mb_mc res) (mb_ms res) (mb_A G)
theorem mb_XW_kept {A : Nat → Prop} {u U : State} (hW : u.WarmedH U.vm) (hz : u.heap.size ≤ U.heap.size) (hk : ∀ q : Nat, q < u.heap.size → ¬ A q → U.heap[q]? = u.heap[q]?) (h : mb_XW A u) : mb_XW A U := by
  obtain ⟨h1, h2, h3, h4⟩ := h
  refine ⟨(vx_Zq.kept h1 hk).moved hW.alike, (vx_Zq.kept h2 hk).moved hW.alike, fun q hq => ?_, fun w hw => mb_FW_warm hW hw (h4 w hw)⟩
  obtain ⟨a, ha⟩ := h3 q hq
  exact ⟨a, ha.warm hW⟩
theorem mb_blind (G : mb_G) (as : List mb_AV) (h : mb_AH) : FrameBlind (mb_Pc G as h) := by
  intro a U g mk q
  obtain ⟨q1, q2, q3, q4⟩ := q
  refine ⟨q1, q2, va_K.moved (u := U) (U := U.calling g mk a) (Vm.Alike.refl U.vm) q3, ?_⟩
  exact mb_XW_kept (u := U) (U := U.calling g mk a) (State.WarmedH.refl U) (Nat.le_refl _) (fun _ _ _ => rfl) q4
theorem mb_lat {G : mb_G} {lv : List (Nat × mb_AV)} {j i : Nat} {v : mb_AV} (h : lv[j]? = some (i, v)) : (lv.map (mb_zq G))[j]? = some (i, mb_cz G v) := by
  rw [List.getElem?_map, h]
  rfl
theorem mb_lok {lv : List (Nat × mb_AV)} {j i : Nat} {v : mb_AV} (hl : ∀ q ∈ lv, mb_ok q.2) (h : lv[j]? = some (i, v)) : mb_ok v := hl (i, v) (List.mem_of_getElem? h)
def mb_c2 (v : mb_AV) : Bool := match v with
  | .inr (.inl _) => true
  | _ => false
theorem mb_cat (G : mb_G) (v : mb_AV) : ((mb_cz G v).category == 2) = mb_c2 v := by
  rcases v with x | x | _ | t <;> rfl
def mb_st1 (i : Nat) (lv : List (Nat × mb_AV)) : List (Nat × mb_AV) := lv.filter (fun q => !(q.1 == i) && !(q.1 + 1 == i && mb_c2 q.2))
def mb_st2 (i : Nat) (lv : List (Nat × mb_AV)) : List (Nat × mb_AV) := lv.filter (fun q => !(q.1 == i) && (!(q.1 == i + 1) && !(q.1 + 1 == i && mb_c2 q.2)))
theorem mb_st1_eq (G : mb_G) (i : Nat) (lv : List (Nat × mb_AV)) : (lv.map (mb_zq G)).filter (fun q => !(q.1 == i) && !(q.1 + 1 == i && q.2.category == 2)) = (mb_st1 i lv).map (mb_zq G) := by
  unfold mb_st1
  rw [List.filter_map]
  congr 1
  apply List.filter_congr
  intro q _
  show (!(q.1 == i) && !(q.1 + 1 == i && (mb_cz G q.2).category == 2)) = _
  rw [mb_cat]
theorem mb_st2_eq (G : mb_G) (i : Nat) (lv : List (Nat × mb_AV)) : (lv.map (mb_zq G)).filter (fun q => !(q.1 == i) && (!(q.1 == i + 1) && !(q.1 + 1 == i && q.2.category == 2))) = (mb_st2 i lv).map (mb_zq G) := by
  unfold mb_st2
  rw [List.filter_map]
  congr 1
  apply List.filter_congr
  intro q _
  show (!(q.1 == i) && (!(q.1 == i + 1) && !(q.1 + 1 == i && (mb_cz G q.2).category == 2))) = _
  rw [mb_cat]
theorem mb_st1_ok {i : Nat} {lv : List (Nat × mb_AV)} {v : mb_AV} (hl : ∀ q ∈ lv, mb_ok q.2) (hv : mb_ok v) : ∀ q ∈ (i, v) :: mb_st1 i lv, mb_ok q.2 := by
  intro q hq
  rcases List.mem_cons.mp hq with rfl | h
  · exact hv
  · exact hl q (List.mem_filter.mp h).1
theorem mb_st2_ok {i : Nat} {lv : List (Nat × mb_AV)} {v : mb_AV} (hl : ∀ q ∈ lv, mb_ok q.2) (hv : mb_ok v) : ∀ q ∈ (i, v) :: mb_st2 i lv, mb_ok q.2 := by
  intro q hq
  rcases List.mem_cons.mp hq with rfl | h
  · exact hv
  · exact hl q (List.mem_filter.mp h).1
theorem mb_cat1 (G : mb_G) {v : mb_AV} (h : mb_c2 v = false) : (mb_cz G v).category = 1 := by
  rcases v with x | x | _ | t
  · rfl
  · cases h
  · rfl
  · rfl
section MBR
variable {l : Launch} {G : mb_G} {own : String} {cc : ByteArray} {nL : Nat} {ret : Option FieldType} {d pc pn : Nat} {lv : List (Nat × mb_AV)} {st : List mb_AV} {h : mb_AH} {res : mb_RS}
theorem mb_iconst {n : Int} {v : Int32} (dg : decode cc pc = .ok (.iconst n, 1)) (hv : Int32.ofInt n = v) (hn : pc + 1 = pn) (k : mb_Ev l G own cc nL ret d pn lv (.inl v :: st) h res) : mb_Ev l G own cc nL ret d pc lv (st) h res := by
  subst hn
  exact fun p e R s m args below meth c H locs ls C hS hw hl ol os => lv_iconst C.1 C.2.1 dg hv (k p e R s m args below meth c H locs ls C hS hw hl ol ⟨trivial, os⟩)
theorem mb_bipush {n : Int} {v : Int32} (dg : decode cc pc = .ok (.bipush n, 2)) (hv : (Int8.ofInt n).toInt32 = v) (hn : pc + 2 = pn) (k : mb_Ev l G own cc nL ret d pn lv (.inl v :: st) h res) : mb_Ev l G own cc nL ret d pc lv (st) h res := by
  subst hn
  exact fun p e R s m args below meth c H locs ls C hS hw hl ol os => lv_bipush C.1 C.2.1 dg hv (k p e R s m args below meth c H locs ls C hS hw hl ol ⟨trivial, os⟩)
theorem mb_sipush {n : Int} {v : Int32} (dg : decode cc pc = .ok (.sipush n, 3)) (hv : (Int16.ofInt n).toInt32 = v) (hn : pc + 3 = pn) (k : mb_Ev l G own cc nL ret d pn lv (.inl v :: st) h res) : mb_Ev l G own cc nL ret d pc lv (st) h res := by
  subst hn
  exact fun p e R s m args below meth c H locs ls C hS hw hl ol os => lv_sipush C.1 C.2.1 dg hv (k p e R s m args below meth c H locs ls C hS hw hl ol ⟨trivial, os⟩)
theorem mb_lconst {n : Fin 2} {v : Int64} (dg : decode cc pc = .ok (.lconst n, 1)) (hv : Int64.ofNat (n : Nat) = v) (hn : pc + 1 = pn) (k : mb_Ev l G own cc nL ret d pn lv (.inr (.inl v) :: st) h res) : mb_Ev l G own cc nL ret d pc lv (st) h res := by
  subst hn
  exact fun p e R s m args below meth c H locs ls C hS hw hl ol os => lv_lconst C.1 C.2.1 dg hv (k p e R s m args below meth c H locs ls C hS hw hl ol ⟨trivial, os⟩)
theorem mb_null (dg : decode cc pc = .ok (.aconst_null, 1)) (hn : pc + 1 = pn) (k : mb_Ev l G own cc nL ret d pn lv (mb_N :: st) h res) : mb_Ev l G own cc nL ret d pc lv (st) h res := by
  subst hn
  exact fun p e R s m args below meth c H locs ls C hS hw hl ol os => lv_null C.1 C.2.1 dg (k p e R s m args below meth c H locs ls C hS hw hl ol ⟨trivial, os⟩)
theorem mb_ldc {i : Nat} {v : Int32} (hc : Cond.constant own i v ∈ mb_GW) (dg : decode cc pc = .ok (.ldc i, 2)) (hn : pc + 2 = pn) (k : mb_Ev l G own cc nL ret d pn lv (.inl v :: st) h res) : mb_Ev l G own cc nL ret d pc lv (st) h res := by
  subst hn
  exact fun p e R s m args below meth c H locs ls C hS hw hl ol os => lv_ldc C.1 C.2.1 C.2.2.2.1 (C.2.2.2.2.1 _ hc) dg (k p e R s m args below meth c H locs ls C hS hw hl ol ⟨trivial, os⟩)
theorem mb_ldcw {i : Nat} {v : Int32} (hc : Cond.constant own i v ∈ mb_GW) (dg : decode cc pc = .ok (.ldc_w i, 3)) (hn : pc + 3 = pn) (k : mb_Ev l G own cc nL ret d pn lv (.inl v :: st) h res) : mb_Ev l G own cc nL ret d pc lv (st) h res := by
  subst hn
  exact fun p e R s m args below meth c H locs ls C hS hw hl ol os => lv_ldcw C.1 C.2.1 C.2.2.2.1 (C.2.2.2.2.1 _ hc) dg (k p e R s m args below meth c H locs ls C hS hw hl ol ⟨trivial, os⟩)
theorem mb_ldc2 {i : Nat} {v : Int64} (hc : Cond.constantLong own i v ∈ mb_GW) (dg : decode cc pc = .ok (.ldc2_w i, 3)) (hn : pc + 3 = pn) (k : mb_Ev l G own cc nL ret d pn lv (.inr (.inl v) :: st) h res) : mb_Ev l G own cc nL ret d pc lv (st) h res := by
  subst hn
  exact fun p e R s m args below meth c H locs ls C hS hw hl ol os => lv_ldc2 C.1 C.2.1 C.2.2.2.1 (C.2.2.2.2.1 _ hc) dg (k p e R s m args below meth c H locs ls C hS hw hl ol ⟨trivial, os⟩)
theorem mb_iload_n {kk : Fin 4} {i : Nat} {x : Int32} (j : Nat) (dg : decode cc pc = .ok (.iload_n kk, 1)) (hi : (kk : Nat) = i) (hj : lv[j]? = some (i, .inl x)) (hn : pc + 1 = pn) (k : mb_Ev l G own cc nL ret d pn lv (.inl x :: st) h res) : mb_Ev l G own cc nL ret d pc lv (st) h res := by
  subst hn
  exact fun p e R s m args below meth c H locs ls C hS hw hl ol os => lv_iload_n C.1 C.2.1 dg hi (lv_at hl j (mb_lat hj)) (k p e R s m args below meth c H locs ls C hS hw hl ol ⟨trivial, os⟩)
theorem mb_iload {i : Nat} {x : Int32} (j : Nat) (dg : decode cc pc = .ok (.iload i, 2)) (hj : lv[j]? = some (i, .inl x)) (hn : pc + 2 = pn) (k : mb_Ev l G own cc nL ret d pn lv (.inl x :: st) h res) : mb_Ev l G own cc nL ret d pc lv (st) h res := by
  subst hn
  exact fun p e R s m args below meth c H locs ls C hS hw hl ol os => lv_iload C.1 C.2.1 dg (lv_at hl j (mb_lat hj)) (k p e R s m args below meth c H locs ls C hS hw hl ol ⟨trivial, os⟩)
theorem mb_lload_n {kk : Fin 4} {i : Nat} {x : Int64} (j : Nat) (dg : decode cc pc = .ok (.lload_n kk, 1)) (hi : (kk : Nat) = i) (hj : lv[j]? = some (i, .inr (.inl x))) (hn : pc + 1 = pn) (k : mb_Ev l G own cc nL ret d pn lv (.inr (.inl x) :: st) h res) : mb_Ev l G own cc nL ret d pc lv (st) h res := by
  subst hn
  exact fun p e R s m args below meth c H locs ls C hS hw hl ol os => lv_lload_n C.1 C.2.1 dg hi (lv_at hl j (mb_lat hj)) (k p e R s m args below meth c H locs ls C hS hw hl ol ⟨trivial, os⟩)
theorem mb_lload {i : Nat} {x : Int64} (j : Nat) (dg : decode cc pc = .ok (.lload i, 2)) (hj : lv[j]? = some (i, .inr (.inl x))) (hn : pc + 2 = pn) (k : mb_Ev l G own cc nL ret d pn lv (.inr (.inl x) :: st) h res) : mb_Ev l G own cc nL ret d pc lv (st) h res := by
  subst hn
  exact fun p e R s m args below meth c H locs ls C hS hw hl ol os => lv_lload C.1 C.2.1 dg (lv_at hl j (mb_lat hj)) (k p e R s m args below meth c H locs ls C hS hw hl ol ⟨trivial, os⟩)
theorem mb_aload_n {kk : Fin 4} {i : Nat} {t : mb_RF} (j : Nat) (dg : decode cc pc = .ok (.aload_n kk, 1)) (hi : (kk : Nat) = i) (hj : lv[j]? = some (i, .inr (.inr (some t)))) (hn : pc + 1 = pn) (k : mb_Ev l G own cc nL ret d pn lv (.inr (.inr (some t)) :: st) h res) : mb_Ev l G own cc nL ret d pc lv (st) h res := by
  subst hn
  exact fun p e R s m args below meth c H locs ls C hS hw hl ol os => lv_aload_n C.1 C.2.1 dg hi (lv_at hl j (mb_lat hj)) (k p e R s m args below meth c H locs ls C hS hw hl ol ⟨mb_lok ol hj, os⟩)
theorem mb_aload {i : Nat} {t : mb_RF} (j : Nat) (dg : decode cc pc = .ok (.aload i, 2)) (hj : lv[j]? = some (i, .inr (.inr (some t)))) (hn : pc + 2 = pn) (k : mb_Ev l G own cc nL ret d pn lv (.inr (.inr (some t)) :: st) h res) : mb_Ev l G own cc nL ret d pc lv (st) h res := by
  subst hn
  exact fun p e R s m args below meth c H locs ls C hS hw hl ol os => lv_aload C.1 C.2.1 dg (lv_at hl j (mb_lat hj)) (k p e R s m args below meth c H locs ls C hS hw hl ol ⟨mb_lok ol hj, os⟩)
theorem mb_aload_nN {kk : Fin 4} {i : Nat} (j : Nat) (dg : decode cc pc = .ok (.aload_n kk, 1)) (hi : (kk : Nat) = i) (hj : lv[j]? = some (i, mb_N)) (hn : pc + 1 = pn) (k : mb_Ev l G own cc nL ret d pn lv (mb_N :: st) h res) : mb_Ev l G own cc nL ret d pc lv (st) h res := by
  subst hn
  exact fun p e R s m args below meth c H locs ls C hS hw hl ol os => lv_aload_nN C.1 C.2.1 dg hi (lv_at hl j (mb_lat hj)) (k p e R s m args below meth c H locs ls C hS hw hl ol ⟨trivial, os⟩)
theorem mb_aloadN {i : Nat} (j : Nat) (dg : decode cc pc = .ok (.aload i, 2)) (hj : lv[j]? = some (i, mb_N)) (hn : pc + 2 = pn) (k : mb_Ev l G own cc nL ret d pn lv (mb_N :: st) h res) : mb_Ev l G own cc nL ret d pc lv (st) h res := by
  subst hn
  exact fun p e R s m args below meth c H locs ls C hS hw hl ol os => lv_aloadN C.1 C.2.1 dg (lv_at hl j (mb_lat hj)) (k p e R s m args below meth c H locs ls C hS hw hl ol ⟨trivial, os⟩)
theorem mb_istore_n {kk : Fin 4} {i : Nat} {x : Int32} {lv2 : List (Nat × mb_AV)} (dg : decode cc pc = .ok (.istore_n kk, 1)) (hi : (kk : Nat) = i) (hlt : i < nL) (hq : (i, (.inl x : mb_AV)) :: mb_st1 i lv = lv2) (hn : pc + 1 = pn) (k : mb_Ev l G own cc nL ret d pn lv2 st h res) : mb_Ev l G own cc nL ret d pc lv ((.inl x : mb_AV) :: st) h res := by
  subst hn; subst hq
  exact fun p e R s m args below meth c H locs ls C hS hw hl ol os => lv_istore_n C.1 C.2.1 dg hi hl hlt (congrArg (fun z => (i, mb_cz G ((.inl x : mb_AV))) :: z) (mb_st1_eq G i lv)) (fun ls2 hl2 => k p e R s m args below meth c H locs ls2 C hS hw hl2 (mb_st1_ok ol trivial) os.2)
theorem mb_istore {i : Nat} {x : Int32} {lv2 : List (Nat × mb_AV)} (dg : decode cc pc = .ok (.istore i, 2)) (hlt : i < nL) (hq : (i, (.inl x : mb_AV)) :: mb_st1 i lv = lv2) (hn : pc + 2 = pn) (k : mb_Ev l G own cc nL ret d pn lv2 st h res) : mb_Ev l G own cc nL ret d pc lv ((.inl x : mb_AV) :: st) h res := by
  subst hn; subst hq
  exact fun p e R s m args below meth c H locs ls C hS hw hl ol os => lv_istore C.1 C.2.1 dg hl hlt (congrArg (fun z => (i, mb_cz G ((.inl x : mb_AV))) :: z) (mb_st1_eq G i lv)) (fun ls2 hl2 => k p e R s m args below meth c H locs ls2 C hS hw hl2 (mb_st1_ok ol trivial) os.2)
theorem mb_lstore_n {kk : Fin 4} {i : Nat} {x : Int64} {lv2 : List (Nat × mb_AV)} (dg : decode cc pc = .ok (.lstore_n kk, 1)) (hi : (kk : Nat) = i) (hlt : i + 1 < nL) (hq : (i, (.inr (.inl x) : mb_AV)) :: mb_st2 i lv = lv2) (hn : pc + 1 = pn) (k : mb_Ev l G own cc nL ret d pn lv2 st h res) : mb_Ev l G own cc nL ret d pc lv ((.inr (.inl x) : mb_AV) :: st) h res := by
  subst hn; subst hq
  exact fun p e R s m args below meth c H locs ls C hS hw hl ol os => lv_lstore_n C.1 C.2.1 dg hi hl hlt (congrArg (fun z => (i, mb_cz G ((.inr (.inl x) : mb_AV))) :: z) (mb_st2_eq G i lv)) (fun ls2 hl2 => k p e R s m args below meth c H locs ls2 C hS hw hl2 (mb_st2_ok ol trivial) os.2)
theorem mb_lstore {i : Nat} {x : Int64} {lv2 : List (Nat × mb_AV)} (dg : decode cc pc = .ok (.lstore i, 2)) (hlt : i + 1 < nL) (hq : (i, (.inr (.inl x) : mb_AV)) :: mb_st2 i lv = lv2) (hn : pc + 2 = pn) (k : mb_Ev l G own cc nL ret d pn lv2 st h res) : mb_Ev l G own cc nL ret d pc lv ((.inr (.inl x) : mb_AV) :: st) h res := by
  subst hn; subst hq
  exact fun p e R s m args below meth c H locs ls C hS hw hl ol os => lv_lstore C.1 C.2.1 dg hl hlt (congrArg (fun z => (i, mb_cz G ((.inr (.inl x) : mb_AV))) :: z) (mb_st2_eq G i lv)) (fun ls2 hl2 => k p e R s m args below meth c H locs ls2 C hS hw hl2 (mb_st2_ok ol trivial) os.2)
theorem mb_astore_n {kk : Fin 4} {i : Nat} {t : mb_RF} {lv2 : List (Nat × mb_AV)} (dg : decode cc pc = .ok (.astore_n kk, 1)) (hi : (kk : Nat) = i) (hlt : i < nL) (hq : (i, (.inr (.inr (some t)) : mb_AV)) :: mb_st1 i lv = lv2) (hn : pc + 1 = pn) (k : mb_Ev l G own cc nL ret d pn lv2 st h res) : mb_Ev l G own cc nL ret d pc lv ((.inr (.inr (some t)) : mb_AV) :: st) h res := by
  subst hn; subst hq
  exact fun p e R s m args below meth c H locs ls C hS hw hl ol os => lv_astore_n C.1 C.2.1 dg hi hl hlt (congrArg (fun z => (i, mb_cz G ((.inr (.inr (some t)) : mb_AV))) :: z) (mb_st1_eq G i lv)) (fun ls2 hl2 => k p e R s m args below meth c H locs ls2 C hS hw hl2 (mb_st1_ok ol os.1) os.2)
theorem mb_astore {i : Nat} {t : mb_RF} {lv2 : List (Nat × mb_AV)} (dg : decode cc pc = .ok (.astore i, 2)) (hlt : i < nL) (hq : (i, (.inr (.inr (some t)) : mb_AV)) :: mb_st1 i lv = lv2) (hn : pc + 2 = pn) (k : mb_Ev l G own cc nL ret d pn lv2 st h res) : mb_Ev l G own cc nL ret d pc lv ((.inr (.inr (some t)) : mb_AV) :: st) h res := by
  subst hn; subst hq
  exact fun p e R s m args below meth c H locs ls C hS hw hl ol os => lv_astore C.1 C.2.1 dg hl hlt (congrArg (fun z => (i, mb_cz G ((.inr (.inr (some t)) : mb_AV))) :: z) (mb_st1_eq G i lv)) (fun ls2 hl2 => k p e R s m args below meth c H locs ls2 C hS hw hl2 (mb_st1_ok ol os.1) os.2)
theorem mb_astore_nN {kk : Fin 4} {i : Nat}  {lv2 : List (Nat × mb_AV)} (dg : decode cc pc = .ok (.astore_n kk, 1)) (hi : (kk : Nat) = i) (hlt : i < nL) (hq : (i, mb_N) :: mb_st1 i lv = lv2) (hn : pc + 1 = pn) (k : mb_Ev l G own cc nL ret d pn lv2 st h res) : mb_Ev l G own cc nL ret d pc lv (mb_N :: st) h res := by
  subst hn; subst hq
  exact fun p e R s m args below meth c H locs ls C hS hw hl ol os => lv_astore_nN C.1 C.2.1 dg hi hl hlt (congrArg (fun z => (i, mb_cz G (mb_N)) :: z) (mb_st1_eq G i lv)) (fun ls2 hl2 => k p e R s m args below meth c H locs ls2 C hS hw hl2 (mb_st1_ok ol trivial) os.2)
theorem mb_astoreN {i : Nat}  {lv2 : List (Nat × mb_AV)} (dg : decode cc pc = .ok (.astore i, 2)) (hlt : i < nL) (hq : (i, mb_N) :: mb_st1 i lv = lv2) (hn : pc + 2 = pn) (k : mb_Ev l G own cc nL ret d pn lv2 st h res) : mb_Ev l G own cc nL ret d pc lv (mb_N :: st) h res := by
  subst hn; subst hq
  exact fun p e R s m args below meth c H locs ls C hS hw hl ol os => lv_astoreN C.1 C.2.1 dg hl hlt (congrArg (fun z => (i, mb_cz G (mb_N)) :: z) (mb_st1_eq G i lv)) (fun ls2 hl2 => k p e R s m args below meth c H locs ls2 C hS hw hl2 (mb_st1_ok ol trivial) os.2)
theorem mb_iinc {i : Nat} {n : Int} {x v : Int32} {lv2 : List (Nat × mb_AV)} (j : Nat) (dg : decode cc pc = .ok (.iinc i n, 3)) (hj : lv[j]? = some (i, .inl x)) (hv : x + Int32.ofInt n = v) (hlt : i < nL) (hq : (i, (.inl v : mb_AV)) :: mb_st1 i lv = lv2) (hn : pc + 3 = pn) (k : mb_Ev l G own cc nL ret d pn lv2 st h res) : mb_Ev l G own cc nL ret d pc lv st h res := by
  subst hn; subst hq
  exact fun p e R s m args below meth c H locs ls C hS hw hl ol os => lv_iinc C.1 C.2.1 dg hl (mb_lat hj) hv hlt (congrArg (fun z => (i, Value.int v) :: z) (mb_st1_eq G i lv)) (fun ls2 hl2 => k p e R s m args below meth c H locs ls2 C hS hw hl2 (mb_st1_ok ol trivial) os)
theorem mb_iadd {x y : Int32} (dg : decode cc pc = .ok (.iadd, 1)) (hn : pc + 1 = pn) (k : mb_Ev l G own cc nL ret d pn lv (.inl (x + y) :: st) h res) : mb_Ev l G own cc nL ret d pc lv (.inl y :: .inl x :: st) h res := by
  subst hn
  exact fun p e R s m args below meth c H locs ls C hS hw hl ol os => lv_iadd C.1 C.2.1 dg (k p e R s m args below meth c H locs ls C hS hw hl ol ⟨trivial, os.2.2⟩)
theorem mb_isub {x y : Int32} (dg : decode cc pc = .ok (.isub, 1)) (hn : pc + 1 = pn) (k : mb_Ev l G own cc nL ret d pn lv (.inl (x - y) :: st) h res) : mb_Ev l G own cc nL ret d pc lv (.inl y :: .inl x :: st) h res := by
  subst hn
  exact fun p e R s m args below meth c H locs ls C hS hw hl ol os => lv_isub C.1 C.2.1 dg (k p e R s m args below meth c H locs ls C hS hw hl ol ⟨trivial, os.2.2⟩)
theorem mb_imul {x y : Int32} (dg : decode cc pc = .ok (.imul, 1)) (hn : pc + 1 = pn) (k : mb_Ev l G own cc nL ret d pn lv (.inl (x * y) :: st) h res) : mb_Ev l G own cc nL ret d pc lv (.inl y :: .inl x :: st) h res := by
  subst hn
  exact fun p e R s m args below meth c H locs ls C hS hw hl ol os => lv_imul C.1 C.2.1 dg (k p e R s m args below meth c H locs ls C hS hw hl ol ⟨trivial, os.2.2⟩)
theorem mb_iand {x y : Int32} (dg : decode cc pc = .ok (.iand, 1)) (hn : pc + 1 = pn) (k : mb_Ev l G own cc nL ret d pn lv (.inl (x &&& y) :: st) h res) : mb_Ev l G own cc nL ret d pc lv (.inl y :: .inl x :: st) h res := by
  subst hn
  exact fun p e R s m args below meth c H locs ls C hS hw hl ol os => lv_iand C.1 C.2.1 dg (k p e R s m args below meth c H locs ls C hS hw hl ol ⟨trivial, os.2.2⟩)
theorem mb_ior {x y : Int32} (dg : decode cc pc = .ok (.ior, 1)) (hn : pc + 1 = pn) (k : mb_Ev l G own cc nL ret d pn lv (.inl (x ||| y) :: st) h res) : mb_Ev l G own cc nL ret d pc lv (.inl y :: .inl x :: st) h res := by
  subst hn
  exact fun p e R s m args below meth c H locs ls C hS hw hl ol os => lv_ior C.1 C.2.1 dg (k p e R s m args below meth c H locs ls C hS hw hl ol ⟨trivial, os.2.2⟩)
theorem mb_ixor {x y : Int32} (dg : decode cc pc = .ok (.ixor, 1)) (hn : pc + 1 = pn) (k : mb_Ev l G own cc nL ret d pn lv (.inl (x ^^^ y) :: st) h res) : mb_Ev l G own cc nL ret d pc lv (.inl y :: .inl x :: st) h res := by
  subst hn
  exact fun p e R s m args below meth c H locs ls C hS hw hl ol os => lv_ixor C.1 C.2.1 dg (k p e R s m args below meth c H locs ls C hS hw hl ol ⟨trivial, os.2.2⟩)
theorem mb_ladd {x y : Int64} (dg : decode cc pc = .ok (.ladd, 1)) (hn : pc + 1 = pn) (k : mb_Ev l G own cc nL ret d pn lv (.inr (.inl (x + y)) :: st) h res) : mb_Ev l G own cc nL ret d pc lv (.inr (.inl y) :: .inr (.inl x) :: st) h res := by
  subst hn
  exact fun p e R s m args below meth c H locs ls C hS hw hl ol os => lv_ladd C.1 C.2.1 dg (k p e R s m args below meth c H locs ls C hS hw hl ol ⟨trivial, os.2.2⟩)
theorem mb_lmul {x y : Int64} (dg : decode cc pc = .ok (.lmul, 1)) (hn : pc + 1 = pn) (k : mb_Ev l G own cc nL ret d pn lv (.inr (.inl (x * y)) :: st) h res) : mb_Ev l G own cc nL ret d pc lv (.inr (.inl y) :: .inr (.inl x) :: st) h res := by
  subst hn
  exact fun p e R s m args below meth c H locs ls C hS hw hl ol os => lv_lmul C.1 C.2.1 dg (k p e R s m args below meth c H locs ls C hS hw hl ol ⟨trivial, os.2.2⟩)
theorem mb_ineg {x : Int32} (dg : decode cc pc = .ok (.ineg, 1)) (hn : pc + 1 = pn) (k : mb_Ev l G own cc nL ret d pn lv (.inl (-x) :: st) h res) : mb_Ev l G own cc nL ret d pc lv (.inl x :: st) h res := by
  subst hn
  exact fun p e R s m args below meth c H locs ls C hS hw hl ol os => lv_ineg C.1 C.2.1 dg (k p e R s m args below meth c H locs ls C hS hw hl ol ⟨trivial, os.2⟩)
theorem mb_i2l {x : Int32} (dg : decode cc pc = .ok (.i2l, 1)) (hn : pc + 1 = pn) (k : mb_Ev l G own cc nL ret d pn lv (.inr (.inl x.toInt64) :: st) h res) : mb_Ev l G own cc nL ret d pc lv (.inl x :: st) h res := by
  subst hn
  exact fun p e R s m args below meth c H locs ls C hS hw hl ol os => lv_i2l C.1 C.2.1 dg rfl (k p e R s m args below meth c H locs ls C hS hw hl ol ⟨trivial, os.2⟩)
theorem mb_l2i {x : Int64} (dg : decode cc pc = .ok (.l2i, 1)) (hn : pc + 1 = pn) (k : mb_Ev l G own cc nL ret d pn lv (.inl x.toInt32 :: st) h res) : mb_Ev l G own cc nL ret d pc lv (.inr (.inl x) :: st) h res := by
  subst hn
  exact fun p e R s m args below meth c H locs ls C hS hw hl ol os => lv_l2i C.1 C.2.1 dg rfl (k p e R s m args below meth c H locs ls C hS hw hl ol ⟨trivial, os.2⟩)
theorem mb_i2c {x : Int32} (dg : decode cc pc = .ok (.i2c, 1)) (hn : pc + 1 = pn) (k : mb_Ev l G own cc nL ret d pn lv (.inl (x.toUInt32 % 65536).toInt32 :: st) h res) : mb_Ev l G own cc nL ret d pc lv (.inl x :: st) h res := by
  subst hn
  exact fun p e R s m args below meth c H locs ls C hS hw hl ol os => lv_i2c C.1 C.2.1 dg rfl (k p e R s m args below meth c H locs ls C hS hw hl ol ⟨trivial, os.2⟩)
theorem mb_dup {v : mb_AV} (hc : mb_c2 v = false) (dg : decode cc pc = .ok (.dup, 1)) (hn : pc + 1 = pn) (k : mb_Ev l G own cc nL ret d pn lv (v :: v :: st) h res) : mb_Ev l G own cc nL ret d pc lv (v :: st) h res := by
  subst hn
  exact fun p e R s m args below meth c H locs ls C hS hw hl ol os => lv_dup C.1 C.2.1 dg (mb_cat1 G hc) (k p e R s m args below meth c H locs ls C hS hw hl ol ⟨os.1, os⟩)
theorem mb_dup2 {v w : mb_AV} (hc : mb_c2 v = false) (hc2 : mb_c2 w = false) (dg : decode cc pc = .ok (.dup2, 1)) (hn : pc + 1 = pn) (k : mb_Ev l G own cc nL ret d pn lv (v :: w :: v :: w :: st) h res) : mb_Ev l G own cc nL ret d pc lv (v :: w :: st) h res := by
  subst hn
  exact fun p e R s m args below meth c H locs ls C hS hw hl ol os => lv_dup2_11 C.1 C.2.1 dg (mb_cat1 G hc) (mb_cat1 G hc2) (k p e R s m args below meth c H locs ls C hS hw hl ol ⟨os.1, os.2.1, os⟩)
end MBR
end
section
def mb_gB (x : Int32) (n : Nat) (X : Option mb_RS) : Option mb_RS := if x < 0 ∨ n ≤ x.toNatClampNeg then none else X
def mb_gZ (x : Int32) (X : Option mb_RS) : Option mb_RS := if x = 0 ∨ x = 1 then X else none
def mb_g0 (x : Int32) (X : Option mb_RS) : Option mb_RS := if x = 0 then none else X
def mb_gL (x : Int64) (X : Option mb_RS) : Option mb_RS := if x = 0 then none else X
/-- what a call gives, and what is done with it; a throw goes on -/
def mb_cI (f : Option mb_RS) (k : Int32 → mb_AH → Option mb_RS) : Option mb_RS := match f with
  | some (.inl (some (.inl x)), h) => k x h
  | some (.inr E, h) => some (.inr E, h)
  | _ => none
def mb_cL (f : Option mb_RS) (k : Int64 → mb_AH → Option mb_RS) : Option mb_RS := match f with
  | some (.inl (some (.inr (.inl x))), h) => k x h
  | some (.inr E, h) => some (.inr E, h)
  | _ => none
def mb_cV (f : Option mb_RS) (k : mb_AH → Option mb_RS) : Option mb_RS := match f with
  | some (.inl none, h) => k h
  | some (.inr E, h) => some (.inr E, h)
  | _ => none
def mb_cR (kd : Nat) (f : Option mb_RS) (k0 : mb_AH → Option mb_RS) (k : Nat → Nat → mb_AH → Option mb_RS) : Option mb_RS := match f with
  | some (.inl (some (.inr (.inr none))), h) => k0 h
  | some (.inl (some (.inr (.inr (some (k9, a, b))))), h) => if k9 = kd then k a b h else none
  | some (.inr E, h) => some (.inr E, h)
  | _ => none
theorem mb_GW_mem {w : Cond} (h : w ∈ lw_tbl) (g : goodWord w = true) : w ∈ mb_GW := List.mem_filter.mpr ⟨h, g⟩
theorem mb_tb {w : Cond} (i : Nat) (h : tables_1[i]? = some w) (g : goodWord w = true) : w ∈ mb_GW := mb_GW_mem (List.mem_append_right _ (List.mem_of_getElem? h)) g
theorem mb_tp {w : Cond} (i : Nat) (h : (k2_sels lw_privs)[i]? = some w) (g : goodWord w = true) : w ∈ mb_GW := mb_GW_mem (List.mem_append_left _ (List.mem_of_getElem? h)) g
theorem mb_good {ws : List Cond} (h : ∀ w ∈ ws, w ∈ mb_GW) : GoodIn mb_GW ws := fun w hw => ⟨h w hw, good_of_word (List.mem_filter.mp (h w hw)).2⟩
theorem mb_gV {own C : String} {idx nL : Nat} {y : MethodName} {cc : ByteArray} {ret : Option FieldType} (h1 : Cond.methodLink own idx y ∈ mb_GW) (h2 : Cond.instanceMethod y ∈ mb_GW) (h3 : Cond.selects C y y ∈ mb_GW) (h4 : Cond.initialized C ∈ mb_GW) (h5 : Cond.code y cc nL ret ∈ mb_GW) : GoodIn mb_GW (wsV own idx C y (Cond.code y cc nL ret :: mb_GW)) := by
  apply mb_good
  intro w hw
  unfold wsV at hw
  simp only [List.cons_append, List.nil_append, List.mem_cons] at hw
  rcases hw with rfl | rfl | rfl | rfl | rfl | h
  · exact h1
  · exact h2
  · exact h3
  · exact h4
  · exact h5
  · exact h
theorem mb_gS {own : String} {idx nL : Nat} {y : MethodName} {cc : ByteArray} {ret : Option FieldType} (h1 : Cond.methodLink own idx y ∈ mb_GW) (h2 : Cond.static y ∈ mb_GW) (h4 : Cond.initialized own ∈ mb_GW) (h5 : Cond.code y cc nL ret ∈ mb_GW) : GoodIn mb_GW (wsS own idx y (Cond.code y cc nL ret :: mb_GW)) := by
  apply mb_good
  intro w hw
  unfold wsS at hw
  simp only [List.cons_append, List.nil_append, List.mem_cons] at hw
  rcases hw with rfl | rfl | rfl | rfl | h
  · exact h1
  · exact h2
  · exact h4
  · exact h5
  · exact h
theorem mb_cc2 (v : mb_AV) (G : mb_G) : (mb_cz G v).category ≤ 2 := by
  rcases v with x | x | _ | t <;> simp [mb_cz, Value.category]
theorem mb_rest (G : mb_G) : ∀ (st : List mb_AV) (n : Nat), st.length ≤ n → ((st.map (mb_cz G)).map fun v => v.category).sum ≤ 2 * n := by
  intro st
  induction st with
  | nil => intro n _; simp
  | cons v r ih =>
    intro n hn
    cases n with
    | zero => simp at hn
    | succ n =>
      have h1 := ih n (by simpa using hn)
      have h2 := mb_cc2 v G
      simp only [List.map_cons, List.sum_cons]
      omega
section MBS
variable {l : Launch} {G : mb_G} {own : String} {cc : ByteArray} {nL : Nat} {ret : Option FieldType} {d pc pn tgt : Nat} {off : Int} {lv : List (Nat × mb_AV)} {st : List mb_AV} {h : mb_AH} {res : mb_RS} {X Y : Option mb_RS}
theorem mb_if_eq {x : Int32} (dg : decode cc pc = .ok (.ifCond .eq off, 3)) (ht : (pc : Int) + off = (tgt : Int)) (hn : pc + 3 = pn) (hr : (if x = 0 then X else Y) = some res) (kt : X = some res → mb_Ev l G own cc nL ret d tgt lv st h res) (kf : Y = some res → mb_Ev l G own cc nL ret d pn lv st h res) : mb_Ev l G own cc nL ret d pc lv (.inl x :: st) h res := by
  subst hn
  exact fun p e R s m args below meth c H locs ls C hS hw hl ol os => lv_if_eq C.1 C.2.1 dg ht (fun q => kt (by rw [if_pos q] at hr; exact hr) p e R s m args below meth c H locs ls C hS hw hl ol os.2) (fun q => kf (by rw [if_neg q] at hr; exact hr) p e R s m args below meth c H locs ls C hS hw hl ol os.2)
theorem mb_if_ne {x : Int32} (dg : decode cc pc = .ok (.ifCond .ne off, 3)) (ht : (pc : Int) + off = (tgt : Int)) (hn : pc + 3 = pn) (hr : (if x = 0 then X else Y) = some res) (kt : Y = some res → mb_Ev l G own cc nL ret d tgt lv st h res) (kf : X = some res → mb_Ev l G own cc nL ret d pn lv st h res) : mb_Ev l G own cc nL ret d pc lv (.inl x :: st) h res := by
  subst hn
  exact fun p e R s m args below meth c H locs ls C hS hw hl ol os => lv_if_ne C.1 C.2.1 dg ht (fun q => kt (by rw [if_neg q] at hr; exact hr) p e R s m args below meth c H locs ls C hS hw hl ol os.2) (fun q => kf (by rw [if_pos q] at hr; exact hr) p e R s m args below meth c H locs ls C hS hw hl ol os.2)
theorem mb_if_lt {x : Int32} (dg : decode cc pc = .ok (.ifCond .lt off, 3)) (ht : (pc : Int) + off = (tgt : Int)) (hn : pc + 3 = pn) (hr : (if x < 0 then X else Y) = some res) (kt : X = some res → mb_Ev l G own cc nL ret d tgt lv st h res) (kf : Y = some res → mb_Ev l G own cc nL ret d pn lv st h res) : mb_Ev l G own cc nL ret d pc lv (.inl x :: st) h res := by
  subst hn
  exact fun p e R s m args below meth c H locs ls C hS hw hl ol os => lv_if_lt C.1 C.2.1 dg ht (fun q => kt (by rw [if_pos q] at hr; exact hr) p e R s m args below meth c H locs ls C hS hw hl ol os.2) (fun q => kf (by rw [if_neg q] at hr; exact hr) p e R s m args below meth c H locs ls C hS hw hl ol os.2)
theorem mb_if_ge {x : Int32} (dg : decode cc pc = .ok (.ifCond .ge off, 3)) (ht : (pc : Int) + off = (tgt : Int)) (hn : pc + 3 = pn) (hr : (if 0 ≤ x then X else Y) = some res) (kt : X = some res → mb_Ev l G own cc nL ret d tgt lv st h res) (kf : Y = some res → mb_Ev l G own cc nL ret d pn lv st h res) : mb_Ev l G own cc nL ret d pc lv (.inl x :: st) h res := by
  subst hn
  exact fun p e R s m args below meth c H locs ls C hS hw hl ol os => lv_if_ge C.1 C.2.1 dg ht (fun q => kt (by rw [if_pos q] at hr; exact hr) p e R s m args below meth c H locs ls C hS hw hl ol os.2) (fun q => kf (by rw [if_neg q] at hr; exact hr) p e R s m args below meth c H locs ls C hS hw hl ol os.2)
theorem mb_if_gt {x : Int32} (dg : decode cc pc = .ok (.ifCond .gt off, 3)) (ht : (pc : Int) + off = (tgt : Int)) (hn : pc + 3 = pn) (hr : (if 0 < x then X else Y) = some res) (kt : X = some res → mb_Ev l G own cc nL ret d tgt lv st h res) (kf : Y = some res → mb_Ev l G own cc nL ret d pn lv st h res) : mb_Ev l G own cc nL ret d pc lv (.inl x :: st) h res := by
  subst hn
  exact fun p e R s m args below meth c H locs ls C hS hw hl ol os => lv_if_gt C.1 C.2.1 dg ht (fun q => kt (by rw [if_pos q] at hr; exact hr) p e R s m args below meth c H locs ls C hS hw hl ol os.2) (fun q => kf (by rw [if_neg q] at hr; exact hr) p e R s m args below meth c H locs ls C hS hw hl ol os.2)
theorem mb_if_le {x : Int32} (dg : decode cc pc = .ok (.ifCond .le off, 3)) (ht : (pc : Int) + off = (tgt : Int)) (hn : pc + 3 = pn) (hr : (if x ≤ 0 then X else Y) = some res) (kt : X = some res → mb_Ev l G own cc nL ret d tgt lv st h res) (kf : Y = some res → mb_Ev l G own cc nL ret d pn lv st h res) : mb_Ev l G own cc nL ret d pc lv (.inl x :: st) h res := by
  subst hn
  exact fun p e R s m args below meth c H locs ls C hS hw hl ol os => lv_if_le C.1 C.2.1 dg ht (fun q => kt (by rw [if_pos q] at hr; exact hr) p e R s m args below meth c H locs ls C hS hw hl ol os.2) (fun q => kf (by rw [if_neg q] at hr; exact hr) p e R s m args below meth c H locs ls C hS hw hl ol os.2)
theorem mb_ic_eq {x y : Int32} (dg : decode cc pc = .ok (.if_icmp .eq off, 3)) (ht : (pc : Int) + off = (tgt : Int)) (hn : pc + 3 = pn) (hr : (if x = y then X else Y) = some res) (kt : X = some res → mb_Ev l G own cc nL ret d tgt lv st h res) (kf : Y = some res → mb_Ev l G own cc nL ret d pn lv st h res) : mb_Ev l G own cc nL ret d pc lv (.inl y :: .inl x :: st) h res := by
  subst hn
  exact fun p e R s m args below meth c H locs ls C hS hw hl ol os => lv_icmp_eq C.1 C.2.1 dg ht (fun q => kt (by rw [if_pos q] at hr; exact hr) p e R s m args below meth c H locs ls C hS hw hl ol os.2.2) (fun q => kf (by rw [if_neg q] at hr; exact hr) p e R s m args below meth c H locs ls C hS hw hl ol os.2.2)
theorem mb_ic_ne {x y : Int32} (dg : decode cc pc = .ok (.if_icmp .ne off, 3)) (ht : (pc : Int) + off = (tgt : Int)) (hn : pc + 3 = pn) (hr : (if x = y then X else Y) = some res) (kt : Y = some res → mb_Ev l G own cc nL ret d tgt lv st h res) (kf : X = some res → mb_Ev l G own cc nL ret d pn lv st h res) : mb_Ev l G own cc nL ret d pc lv (.inl y :: .inl x :: st) h res := by
  subst hn
  exact fun p e R s m args below meth c H locs ls C hS hw hl ol os => lv_icmp_ne C.1 C.2.1 dg ht (fun q => kt (by rw [if_neg q] at hr; exact hr) p e R s m args below meth c H locs ls C hS hw hl ol os.2.2) (fun q => kf (by rw [if_pos q] at hr; exact hr) p e R s m args below meth c H locs ls C hS hw hl ol os.2.2)
theorem mb_ic_lt {x y : Int32} (dg : decode cc pc = .ok (.if_icmp .lt off, 3)) (ht : (pc : Int) + off = (tgt : Int)) (hn : pc + 3 = pn) (hr : (if x < y then X else Y) = some res) (kt : X = some res → mb_Ev l G own cc nL ret d tgt lv st h res) (kf : Y = some res → mb_Ev l G own cc nL ret d pn lv st h res) : mb_Ev l G own cc nL ret d pc lv (.inl y :: .inl x :: st) h res := by
  subst hn
  exact fun p e R s m args below meth c H locs ls C hS hw hl ol os => lv_icmp_lt C.1 C.2.1 dg ht (fun q => kt (by rw [if_pos q] at hr; exact hr) p e R s m args below meth c H locs ls C hS hw hl ol os.2.2) (fun q => kf (by rw [if_neg q] at hr; exact hr) p e R s m args below meth c H locs ls C hS hw hl ol os.2.2)
theorem mb_ic_ge {x y : Int32} (dg : decode cc pc = .ok (.if_icmp .ge off, 3)) (ht : (pc : Int) + off = (tgt : Int)) (hn : pc + 3 = pn) (hr : (if y ≤ x then X else Y) = some res) (kt : X = some res → mb_Ev l G own cc nL ret d tgt lv st h res) (kf : Y = some res → mb_Ev l G own cc nL ret d pn lv st h res) : mb_Ev l G own cc nL ret d pc lv (.inl y :: .inl x :: st) h res := by
  subst hn
  exact fun p e R s m args below meth c H locs ls C hS hw hl ol os => lv_icmp_ge C.1 C.2.1 dg ht (fun q => kt (by rw [if_pos q] at hr; exact hr) p e R s m args below meth c H locs ls C hS hw hl ol os.2.2) (fun q => kf (by rw [if_neg q] at hr; exact hr) p e R s m args below meth c H locs ls C hS hw hl ol os.2.2)
theorem mb_ic_gt {x y : Int32} (dg : decode cc pc = .ok (.if_icmp .gt off, 3)) (ht : (pc : Int) + off = (tgt : Int)) (hn : pc + 3 = pn) (hr : (if y < x then X else Y) = some res) (kt : X = some res → mb_Ev l G own cc nL ret d tgt lv st h res) (kf : Y = some res → mb_Ev l G own cc nL ret d pn lv st h res) : mb_Ev l G own cc nL ret d pc lv (.inl y :: .inl x :: st) h res := by
  subst hn
  exact fun p e R s m args below meth c H locs ls C hS hw hl ol os => lv_icmp_gt C.1 C.2.1 dg ht (fun q => kt (by rw [if_pos q] at hr; exact hr) p e R s m args below meth c H locs ls C hS hw hl ol os.2.2) (fun q => kf (by rw [if_neg q] at hr; exact hr) p e R s m args below meth c H locs ls C hS hw hl ol os.2.2)
theorem mb_ic_le {x y : Int32} (dg : decode cc pc = .ok (.if_icmp .le off, 3)) (ht : (pc : Int) + off = (tgt : Int)) (hn : pc + 3 = pn) (hr : (if x ≤ y then X else Y) = some res) (kt : X = some res → mb_Ev l G own cc nL ret d tgt lv st h res) (kf : Y = some res → mb_Ev l G own cc nL ret d pn lv st h res) : mb_Ev l G own cc nL ret d pc lv (.inl y :: .inl x :: st) h res := by
  subst hn
  exact fun p e R s m args below meth c H locs ls C hS hw hl ol os => lv_icmp_le C.1 C.2.1 dg ht (fun q => kt (by rw [if_pos q] at hr; exact hr) p e R s m args below meth c H locs ls C hS hw hl ol os.2.2) (fun q => kf (by rw [if_neg q] at hr; exact hr) p e R s m args below meth c H locs ls C hS hw hl ol os.2.2)
theorem mb_goto (dg : decode cc pc = .ok (.goto off, 3)) (ht : (pc : Int) + off = (tgt : Int)) (k : mb_Ev l G own cc nL ret d tgt lv st h res) : mb_Ev l G own cc nL ret d pc lv st h res :=
  fun p e R s m args below meth c H locs ls C hS hw hl ol os => lv_goto C.1 C.2.1 dg ht (k p e R s m args below meth c H locs ls C hS hw hl ol os)
theorem mb_ifnull (k9 a9 b9 : Nat) (dg : decode cc pc = .ok (.ifnull off, 3)) (hn : pc + 3 = pn) (k : mb_Ev l G own cc nL ret d pn lv st h res) : mb_Ev l G own cc nL ret d pc lv (mb_F k9 a9 b9 :: st) h res := by
  subst hn
  exact fun p e R s m args below meth c H locs ls C hS hw hl ol os => lv_ifnull C.1 C.2.1 dg (k p e R s m args below meth c H locs ls C hS hw hl ol os.2)
theorem mb_ifnullN (dg : decode cc pc = .ok (.ifnull off, 3)) (ht : (pc : Int) + off = (tgt : Int)) (k : mb_Ev l G own cc nL ret d tgt lv st h res) : mb_Ev l G own cc nL ret d pc lv (mb_N :: st) h res :=
  fun p e R s m args below meth c H locs ls C hS hw hl ol os => lv_ifnullN C.1 C.2.1 dg ht (k p e R s m args below meth c H locs ls C hS hw hl ol os.2)
theorem mb_sw1 {x : Int32} (c9 : Int32) (hr : (if x = c9 then X else Y) = some res) (kt : X = some res → mb_Ev l G own cc nL ret d pc lv (.inl c9 :: st) h res) (kf : x ≠ c9 → Y = some res → mb_Ev l G own cc nL ret d pc lv (.inl x :: st) h res) : mb_Ev l G own cc nL ret d pc lv (.inl x :: st) h res := by
  by_cases q : x = c9
  · rw [if_pos q] at hr
    subst q
    exact kt hr
  · rw [if_neg q] at hr
    exact kf q hr
theorem mb_swIn {x : Int32} {dflt lo hi : Int} {offs : Array Int} {len : Nat} (dg : decode cc pc = .ok (.tableswitch dflt lo hi offs, len)) (h1 : ¬ x.toInt < lo) (h2 : ¬ hi < x.toInt) (ho : offs[(x.toInt - lo).toNat]? = some off) (ht : (pc : Int) + off = (tgt : Int)) (k : mb_Ev l G own cc nL ret d tgt lv st h res) : mb_Ev l G own cc nL ret d pc lv (.inl x :: st) h res :=
  fun p e R s m args below meth c H locs ls C hS hw hl ol os => lv_tableIn C.1 C.2.1 dg h1 h2 ho ht (k p e R s m args below meth c H locs ls C hS hw hl ol os.2)
theorem mb_swOut {x : Int32} {dflt lo hi : Int} {offs : Array Int} {len : Nat} (dg : decode cc pc = .ok (.tableswitch dflt lo hi offs, len)) (h1 : x.toInt < lo ∨ hi < x.toInt) (ht : (pc : Int) + dflt = (tgt : Int)) (k : mb_Ev l G own cc nL ret d tgt lv st h res) : mb_Ev l G own cc nL ret d pc lv (.inl x :: st) h res :=
  fun p e R s m args below meth c H locs ls C hS hw hl ol os => lv_tableOut C.1 C.2.1 dg h1 ht (k p e R s m args below meth c H locs ls C hS hw hl ol os.2)
theorem mb_lcmp {x y : Int64} (dg : decode cc pc = .ok (.lcmp, 1)) (hn : pc + 1 = pn) (k : mb_Ev l G own cc nL ret d pn lv (.inl (lg_cmp x y) :: st) h res) : mb_Ev l G own cc nL ret d pc lv (.inr (.inl y) :: .inr (.inl x) :: st) h res := by
  subst hn
  exact fun p e R s m args below meth c H locs ls C hS hw hl ol os => W.lcmp C.1 C.2.1 dg (k p e R s m args below meth c H locs ls C hS hw hl ol ⟨trivial, os.2.2⟩)
theorem mb_irem {x y : Int32} (dg : decode cc pc = .ok (.irem, 1)) (hn : pc + 1 = pn) (hr : mb_g0 y X = some res) (k : X = some res → mb_Ev l G own cc nL ret d pn lv (.inl (x - x / y * y) :: st) h res) : mb_Ev l G own cc nL ret d pc lv (.inl y :: .inl x :: st) h res := by
  subst hn
  unfold mb_g0 at hr
  by_cases q : y = 0
  · rw [if_pos q] at hr; cases hr
  · rw [if_neg q] at hr
    exact fun p e R s m args below meth c H locs ls C hS hw hl ol os => lv_irem C.1 C.2.1 dg q (k hr p e R s m args below meth c H locs ls C hS hw hl ol ⟨trivial, os.2.2⟩)
theorem mb_ldiv {x y : Int64} (dg : decode cc pc = .ok (.ldiv, 1)) (hn : pc + 1 = pn) (hr : mb_gL y X = some res) (k : X = some res → mb_Ev l G own cc nL ret d pn lv (.inr (.inl (x / y)) :: st) h res) : mb_Ev l G own cc nL ret d pc lv (.inr (.inl y) :: .inr (.inl x) :: st) h res := by
  subst hn
  unfold mb_gL at hr
  by_cases q : y = 0
  · rw [if_pos q] at hr; cases hr
  · rw [if_neg q] at hr
    exact fun p e R s m args below meth c H locs ls C hS hw hl ol os => lv_ldiv C.1 C.2.1 dg q (k hr p e R s m args below meth c H locs ls C hS hw hl ol ⟨trivial, os.2.2⟩)
theorem mb_lrem {x y : Int64} (dg : decode cc pc = .ok (.lrem, 1)) (hn : pc + 1 = pn) (hr : mb_gL y X = some res) (k : X = some res → mb_Ev l G own cc nL ret d pn lv (.inr (.inl (x - x / y * y)) :: st) h res) : mb_Ev l G own cc nL ret d pc lv (.inr (.inl y) :: .inr (.inl x) :: st) h res := by
  subst hn
  unfold mb_gL at hr
  by_cases q : y = 0
  · rw [if_pos q] at hr; cases hr
  · rw [if_neg q] at hr
    exact fun p e R s m args below meth c H locs ls C hS hw hl ol os => lv_lrem C.1 C.2.1 dg q (k hr p e R s m args below meth c H locs ls C hS hw hl ol ⟨trivial, os.2.2⟩)
theorem mb_ishl {x y : Int32} (dg : decode cc pc = .ok (.ishl, 1)) (hn : pc + 1 = pn) (k : mb_Ev l G own cc nL ret d pn lv (.inl (x <<< (y &&& 31)) :: st) h res) : mb_Ev l G own cc nL ret d pc lv (.inl y :: .inl x :: st) h res := by
  subst hn
  exact fun p e R s m args below meth c H locs ls C hS hw hl ol os => lv_ishl C.1 C.2.1 dg (k p e R s m args below meth c H locs ls C hS hw hl ol ⟨trivial, os.2.2⟩)
theorem mb_ishr {x y : Int32} (dg : decode cc pc = .ok (.ishr, 1)) (hn : pc + 1 = pn) (k : mb_Ev l G own cc nL ret d pn lv (.inl (x >>> (y &&& 31)) :: st) h res) : mb_Ev l G own cc nL ret d pc lv (.inl y :: .inl x :: st) h res := by
  subst hn
  exact fun p e R s m args below meth c H locs ls C hS hw hl ol os => lv_ishr C.1 C.2.1 dg (k p e R s m args below meth c H locs ls C hS hw hl ol ⟨trivial, os.2.2⟩)
theorem mb_max {x y : Int32} {i : Nat} (h1 : Cond.methodLink own i Lib.Math.max.name ∈ mb_GW) (h2 : Cond.static Lib.Math.max.name ∈ mb_GW) (h3 : Cond.initialized "java/lang/Math" ∈ mb_GW) (h4 : Cond.code Lib.Math.max.name Lib.Math.max.code 2 (some .int) ∈ mb_GW) (hst : st.length ≤ 4) (dg : decode cc pc = .ok (.invokestatic i, 3)) (hn : pc + 3 = pn) (k : mb_Ev l G own cc nL ret d pn lv (.inl (if x < y then y else x) :: st) h res) : mb_Ev l G own cc nL ret d pc lv (.inl y :: .inl x :: st) h res := by
  subst hn
  exact fun p e R s m args below meth c H locs ls C hS hw hl ol os => va_mmax C.1 C.2.1 (C.2.2.1.trans hl.1.symm) C.2.2.2.1 (C.2.2.2.2.1 _ h1) (C.2.2.2.2.1 _ h2) (C.2.2.2.2.1 _ h3) (C.2.2.2.2.1 _ h4) (by have q := C.2.2.2.2.2.2.2.2.1.1; omega) (by have q := C.2.2.2.2.2.2.2.2.1.2.1; have q2 := mb_rest G st 4 hst; omega) (Nat.zero_le _) (Nat.zero_le _) dg (k p e R s m args below meth c H locs ls C hS hw hl ol ⟨trivial, os.2.2⟩)
theorem mb_min {x y : Int32} {i : Nat} (h1 : Cond.methodLink own i Lib.Math.min.name ∈ mb_GW) (h2 : Cond.static Lib.Math.min.name ∈ mb_GW) (h3 : Cond.initialized "java/lang/Math" ∈ mb_GW) (h4 : Cond.code Lib.Math.min.name Lib.Math.min.code 2 (some .int) ∈ mb_GW) (hst : st.length ≤ 4) (dg : decode cc pc = .ok (.invokestatic i, 3)) (hn : pc + 3 = pn) (k : mb_Ev l G own cc nL ret d pn lv (.inl (if y < x then y else x) :: st) h res) : mb_Ev l G own cc nL ret d pc lv (.inl y :: .inl x :: st) h res := by
  subst hn
  exact fun p e R s m args below meth c H locs ls C hS hw hl ol os => va_mmin C.1 C.2.1 (C.2.2.1.trans hl.1.symm) C.2.2.2.1 (C.2.2.2.2.1 _ h1) (C.2.2.2.2.1 _ h2) (C.2.2.2.2.1 _ h3) (C.2.2.2.2.1 _ h4) (by have q := C.2.2.2.2.2.2.2.2.1.1; omega) (by have q := C.2.2.2.2.2.2.2.2.1.2.1; have q2 := mb_rest G st 4 hst; omega) (Nat.zero_le _) (Nat.zero_le _) dg (k p e R s m args below meth c H locs ls C hS hw hl ol ⟨trivial, os.2.2⟩)
theorem mb_get {k a b ci N j i : Nat} {C9 : String} {T9 : u_T} {fs : List Value} {v : mb_AV} (hin : ∀ w ∈ u_ws C9 T9 N, w ∈ mb_GW) (hc : vwCl[ci]? = some (C9, T9, N)) (hj : j < N) (hlk : Cond.fieldLink own i (T9 j).1 (T9 j).2.1 (T9 j).2.2.1 ∈ mb_GW) (he : mb_eh G h (k, a, b) = .inr (ci, fs)) (hv : fs[j]? = some (mb_cz G v)) (hok : mb_okr (k, a, b) → mb_ok v) (dg : decode cc pc = .ok (.getfield i, 3)) (hn : pc + 3 = pn) (kk : mb_Ev l G own cc nL ret d pn lv (v :: st) h res) : mb_Ev l G own cc nL ret d pc lv (mb_F k a b :: st) h res := by
  subst hn
  intro p e R s m args below meth c H locs ls C hS hw hl ol os
  obtain ⟨q, hq⟩ := mb_at os.1
  exact va_get C.1 C.2.1 C.2.2.2.2.1 hin C.2.2.2.1 C.2.2.2.2.2.2.2.2.2.1 hw.1 q ((mb_wl_at G h hq).trans (congrArg (fun e9 => some (G.2.2 (k, a, b), e9)) he)) hc j hj (C.2.2.2.2.1 _ hlk) (fun _ z => z) hv dg (kk p e R s m args below meth c H locs ls C hS hw hl ol ⟨hok os.1, os.2⟩)
theorem mb_putI {k a b ci N j i : Nat} {C9 : String} {T9 : u_T} {fs : List Value} {ty : FieldType} {x : Int32} (hin : ∀ w ∈ u_ws C9 T9 N, w ∈ mb_GW) (ty0 : Nat → FieldType) (hty : ∀ k, k < N → parseFieldDescriptor (T9 k).2.2.1 = some (ty0 k)) (hnm : ∀ a, a < N → ∀ b, b < N → a ≠ b → (T9 a).2.1 ≠ (T9 b).2.1) (hc : vwCl[ci]? = some (C9, T9, N)) (hj : j < N) (hlk : Cond.fieldLink own i (T9 j).1 (T9 j).2.1 (T9 j).2.2.1 ∈ mb_GW) (hfin : (T9 j).2.2.2 = false) (hd : parseFieldDescriptor (T9 j).2.2.1 = some ty) (hnr : narrow ty (Value.int x) = Value.int x) (hft : fits ty (Value.int x) = true) (he : mb_eh G h (k, a, b) = .inr (ci, fs)) (hlt : j < fs.length) (he2 : mb_ek G (upd (h.1 k a b) j x) (h.2.1 k a b) h.2.2 (k, a, b) = .inr (ci, fs.set j (Value.int x))) (dg : decode cc pc = .ok (.putfield i, 3)) (hn : pc + 3 = pn) (kk : mb_Ev l G own cc nL ret d pn lv st (mb_sI h k a b j x) res) : mb_Ev l G own cc nL ret d pc lv (.inl x :: mb_F k a b :: st) h res := by
  subst hn
  intro p e R s m args below meth c H locs ls C hS hw hl ol os
  obtain ⟨q, hq⟩ := mb_at os.2.1
  refine va_put C.1 C.2.1 C.2.2.2.2.1 hin ty0 hty hnm C.2.2.2.1 C.2.2.2.2.2.2.2.2.2.1 hw.1 (mb_D C.2.2.2.2.2.2.2.2.2.2.2.2 h) hS q ((mb_wl_at G h hq).trans (congrArg (fun e9 => some (G.2.2 (k, a, b), e9)) he)) hc j hj (C.2.2.2.2.1 _ hlk) (fun _ z => z) hfin hd hnr hft hlt dg (fun H1 locs1 hP1 _ hS1 => ?_)
  rw [mb_set hq (h2 := mb_sI h k a b j x) (fun u _ hu => mb_sI_ne G h k a b j x u hu) (by show mb_ek G _ _ _ (k, a, b) = _; simp only [mb_sI_eq]; exact he2)] at hP1
  exact kk p e R s m args below meth c H1 locs1 ls C hS1 ⟨hP1, hw.2⟩ hl ol os.2.2
theorem mb_putL {k a b ci N j i : Nat} {C9 : String} {T9 : u_T} {fs : List Value} {ty : FieldType} {x : Int64} (hin : ∀ w ∈ u_ws C9 T9 N, w ∈ mb_GW) (ty0 : Nat → FieldType) (hty : ∀ k, k < N → parseFieldDescriptor (T9 k).2.2.1 = some (ty0 k)) (hnm : ∀ a, a < N → ∀ b, b < N → a ≠ b → (T9 a).2.1 ≠ (T9 b).2.1) (hc : vwCl[ci]? = some (C9, T9, N)) (hj : j < N) (hlk : Cond.fieldLink own i (T9 j).1 (T9 j).2.1 (T9 j).2.2.1 ∈ mb_GW) (hfin : (T9 j).2.2.2 = false) (hd : parseFieldDescriptor (T9 j).2.2.1 = some ty) (hnr : narrow ty (Value.long x) = Value.long x) (hft : fits ty (Value.long x) = true) (he : mb_eh G h (k, a, b) = .inr (ci, fs)) (hlt : j < fs.length) (he2 : mb_ek G (h.1 k a b) (vp_updL (h.2.1 k a b) j x) h.2.2 (k, a, b) = .inr (ci, fs.set j (Value.long x))) (dg : decode cc pc = .ok (.putfield i, 3)) (hn : pc + 3 = pn) (kk : mb_Ev l G own cc nL ret d pn lv st (mb_sL h k a b j x) res) : mb_Ev l G own cc nL ret d pc lv (.inr (.inl x) :: mb_F k a b :: st) h res := by
  subst hn
  intro p e R s m args below meth c H locs ls C hS hw hl ol os
  obtain ⟨q, hq⟩ := mb_at os.2.1
  refine va_put C.1 C.2.1 C.2.2.2.2.1 hin ty0 hty hnm C.2.2.2.1 C.2.2.2.2.2.2.2.2.2.1 hw.1 (mb_D C.2.2.2.2.2.2.2.2.2.2.2.2 h) hS q ((mb_wl_at G h hq).trans (congrArg (fun e9 => some (G.2.2 (k, a, b), e9)) he)) hc j hj (C.2.2.2.2.1 _ hlk) (fun _ z => z) hfin hd hnr hft hlt dg (fun H1 locs1 hP1 _ hS1 => ?_)
  rw [mb_set hq (h2 := mb_sL h k a b j x) (fun u _ hu => mb_sL_ne G h k a b j x u hu) (by show mb_ek G _ _ _ (k, a, b) = _; simp only [mb_sL_eq]; exact he2)] at hP1
  exact kk p e R s m args below meth c H1 locs1 ls C hS1 ⟨hP1, hw.2⟩ hl ol os.2.2
theorem mb_iald {k a b n : Nat} {x : Int32} (he : mb_eh G h (k, a, b) = .inl (G.2.1 0, (n, .inl (h.1 k a b)))) (dg : decode cc pc = .ok (.iaload, 1)) (hn : pc + 1 = pn) (hr : mb_gB x n X = some res) (kk : X = some res → mb_Ev l G own cc nL ret d pn lv (.inl (h.1 k a b x.toNatClampNeg) :: st) h res) : mb_Ev l G own cc nL ret d pc lv (.inl x :: mb_F k a b :: st) h res := by
  subst hn
  unfold mb_gB at hr
  by_cases q9 : x < 0 ∨ n ≤ x.toNatClampNeg
  · rw [if_pos q9] at hr; cases hr
  · rw [if_neg q9] at hr
    intro p e R s m args below meth c H locs ls C hS hw hl ol os
    obtain ⟨q, hq⟩ := mb_at os.2.1
    exact va_iald C.1 C.2.1 C.2.2.2.2.2.2.2.2.2.1 hw.1 q 0 ((mb_wl_at G h hq).trans (congrArg (fun e9 => some (G.2.2 (k, a, b), e9)) he)) rfl q9 dg (kk hr p e R s m args below meth c H locs ls C hS hw hl ol ⟨trivial, os.2.2⟩)
theorem mb_cald {k a b n : Nat} {x : Int32} (he : mb_eh G h (k, a, b) = .inl (G.2.1 1, (n, .inl (h.1 k a b)))) (dg : decode cc pc = .ok (.caload, 1)) (hn : pc + 1 = pn) (hr : mb_gB x n X = some res) (kk : X = some res → mb_Ev l G own cc nL ret d pn lv (.inl (h.1 k a b x.toNatClampNeg) :: st) h res) : mb_Ev l G own cc nL ret d pc lv (.inl x :: mb_F k a b :: st) h res := by
  subst hn
  unfold mb_gB at hr
  by_cases q9 : x < 0 ∨ n ≤ x.toNatClampNeg
  · rw [if_pos q9] at hr; cases hr
  · rw [if_neg q9] at hr
    intro p e R s m args below meth c H locs ls C hS hw hl ol os
    obtain ⟨q, hq⟩ := mb_at os.2.1
    exact va_cald C.1 C.2.1 C.2.2.2.2.2.2.2.2.2.1 hw.1 q 1 ((mb_wl_at G h hq).trans (congrArg (fun e9 => some (G.2.2 (k, a, b), e9)) he)) rfl q9 dg (kk hr p e R s m args below meth c H locs ls C hS hw hl ol ⟨trivial, os.2.2⟩)
theorem mb_aald10 {a : Nat} {x : Int32} (dg : decode cc pc = .ok (.aaload, 1)) (hn : pc + 1 = pn) (hr : mb_gB x 16 X = some res) (kk : X = some res → mb_Ev l G own cc nL ret d pn lv (mb_F 2 a x.toNatClampNeg :: st) h res) : mb_Ev l G own cc nL ret d pc lv (.inl x :: mb_F 10 a 0 :: st) h res := by
  subst hn
  unfold mb_gB at hr
  by_cases q9 : x < 0 ∨ 16 ≤ x.toNatClampNeg
  · rw [if_pos q9] at hr; cases hr
  · rw [if_neg q9] at hr
    intro p e R s m args below meth c H locs ls C hS hw hl ol os
    obtain ⟨q, hq⟩ := mb_at os.2.1
    have h1 : a < mb_nA 10 := os.2.1.1
    have h2 : x.toNatClampNeg < 16 := Nat.not_le.mp fun z => q9 (Or.inr z)
    exact va_aldq C.1 C.2.1 C.2.2.2.2.2.2.2.2.2.1 hw.1 q 3 (mb_wl_at G h hq) rfl q9 dg (kk hr p e R s m args below meth c H locs ls C hS hw hl ol ⟨⟨h1, h2⟩, os.2.2⟩)
theorem mb_aald11 {a : Nat} {x : Int32} (dg : decode cc pc = .ok (.aaload, 1)) (hn : pc + 1 = pn) (hr : mb_gB x 20 X = some res) (kk : X = some res → mb_Ev l G own cc nL ret d pn lv (mb_F 3 a x.toNatClampNeg :: st) h res) : mb_Ev l G own cc nL ret d pc lv (.inl x :: mb_F 11 a 0 :: st) h res := by
  subst hn
  unfold mb_gB at hr
  by_cases q9 : x < 0 ∨ 20 ≤ x.toNatClampNeg
  · rw [if_pos q9] at hr; cases hr
  · rw [if_neg q9] at hr
    intro p e R s m args below meth c H locs ls C hS hw hl ol os
    obtain ⟨q, hq⟩ := mb_at os.2.1
    have h1 : a < mb_nA 11 := os.2.1.1
    have h2 : x.toNatClampNeg < 20 := Nat.not_le.mp fun z => q9 (Or.inr z)
    exact va_aldq C.1 C.2.1 C.2.2.2.2.2.2.2.2.2.1 hw.1 q 4 (mb_wl_at G h hq) rfl q9 dg (kk hr p e R s m args below meth c H locs ls C hS hw hl ol ⟨⟨h1, h2⟩, os.2.2⟩)
theorem mb_aald13 {a : Nat} {x : Int32} (dg : decode cc pc = .ok (.aaload, 1)) (hn : pc + 1 = pn) (hr : mb_gB x 4 X = some res) (kk : X = some res → mb_Ev l G own cc nL ret d pn lv (mb_F 1 (h.2.2 x.toNatClampNeg) 0 :: st) h res) : mb_Ev l G own cc nL ret d pc lv (.inl x :: mb_F 13 a 0 :: st) h res := by
  subst hn
  unfold mb_gB at hr
  by_cases q9 : x < 0 ∨ 4 ≤ x.toNatClampNeg
  · rw [if_pos q9] at hr; cases hr
  · rw [if_neg q9] at hr
    intro p e R s m args below meth c H locs ls C hS hw hl ol os
    obtain ⟨q, hq⟩ := mb_at os.2.1
    have h1 : a < mb_nA 13 := os.2.1.1
    have h2 : x.toNatClampNeg < 4 := Nat.not_le.mp fun z => q9 (Or.inr z)
    exact va_aldq C.1 C.2.1 C.2.2.2.2.2.2.2.2.2.1 hw.1 q 5 (mb_wl_at G h hq) rfl q9 dg (kk hr p e R s m args below meth c H locs ls C hS hw hl ol ⟨⟨hw.2 _ h2, Nat.zero_lt_one⟩, os.2.2⟩)
theorem mb_iast {k a b n : Nat} {x v : Int32} (he : mb_eh G h (k, a, b) = .inl (G.2.1 0, (n, .inl (h.1 k a b)))) (he2 : mb_ek G (upd (h.1 k a b) x.toNatClampNeg (v)) (h.2.1 k a b) h.2.2 (k, a, b) = .inl (G.2.1 0, (n, .inl (upd (h.1 k a b) x.toNatClampNeg (v))))) (dg : decode cc pc = .ok (.iastore, 1)) (hn : pc + 1 = pn) (hr : mb_gB x n X = some res) (kk : X = some res → mb_Ev l G own cc nL ret d pn lv st (mb_sI h k a b x.toNatClampNeg (v)) res) : mb_Ev l G own cc nL ret d pc lv (.inl v :: .inl x :: mb_F k a b :: st) h res := by
  subst hn
  unfold mb_gB at hr
  by_cases q9 : x < 0 ∨ n ≤ x.toNatClampNeg
  · rw [if_pos q9] at hr; cases hr
  · rw [if_neg q9] at hr
    intro p e R s m args below meth c H locs ls C hS hw hl ol os
    obtain ⟨q, hq⟩ := mb_at os.2.2.1
    refine va_iast C.1 C.2.1 C.2.2.2.2.2.2.2.2.2.1 hw.1 (mb_D C.2.2.2.2.2.2.2.2.2.2.2.2 h) hS q 0 ((mb_wl_at G h hq).trans (congrArg (fun e9 => some (G.2.2 (k, a, b), e9)) he)) rfl q9 dg (fun H1 locs1 hP1 _ hS1 => ?_)
    rw [mb_set hq (h2 := mb_sI h k a b x.toNatClampNeg (v)) (fun u _ hu => mb_sI_ne G h k a b _ _ u hu) (by show mb_ek G _ _ _ (k, a, b) = _; simp only [mb_sI_eq]; exact he2)] at hP1
    exact kk hr p e R s m args below meth c H1 locs1 ls C hS1 ⟨hP1, hw.2⟩ hl ol os.2.2.2
theorem mb_cast {k a b n : Nat} {x v : Int32} (he : mb_eh G h (k, a, b) = .inl (G.2.1 1, (n, .inl (h.1 k a b)))) (he2 : mb_ek G (upd (h.1 k a b) x.toNatClampNeg (vp_nar .char v)) (h.2.1 k a b) h.2.2 (k, a, b) = .inl (G.2.1 1, (n, .inl (upd (h.1 k a b) x.toNatClampNeg (vp_nar .char v))))) (dg : decode cc pc = .ok (.castore, 1)) (hn : pc + 1 = pn) (hr : mb_gB x n X = some res) (kk : X = some res → mb_Ev l G own cc nL ret d pn lv st (mb_sI h k a b x.toNatClampNeg (vp_nar .char v)) res) : mb_Ev l G own cc nL ret d pc lv (.inl v :: .inl x :: mb_F k a b :: st) h res := by
  subst hn
  unfold mb_gB at hr
  by_cases q9 : x < 0 ∨ n ≤ x.toNatClampNeg
  · rw [if_pos q9] at hr; cases hr
  · rw [if_neg q9] at hr
    intro p e R s m args below meth c H locs ls C hS hw hl ol os
    obtain ⟨q, hq⟩ := mb_at os.2.2.1
    refine va_cast C.1 C.2.1 C.2.2.2.2.2.2.2.2.2.1 hw.1 (mb_D C.2.2.2.2.2.2.2.2.2.2.2.2 h) hS q 1 ((mb_wl_at G h hq).trans (congrArg (fun e9 => some (G.2.2 (k, a, b), e9)) he)) rfl q9 dg (fun H1 locs1 hP1 _ hS1 => ?_)
    rw [mb_set hq (h2 := mb_sI h k a b x.toNatClampNeg (vp_nar .char v)) (fun u _ hu => mb_sI_ne G h k a b _ _ u hu) (by show mb_ek G _ _ _ (k, a, b) = _; simp only [mb_sI_eq]; exact he2)] at hP1
    exact kk hr p e R s m args below meth c H1 locs1 ls C hS1 ⟨hP1, hw.2⟩ hl ol os.2.2.2
theorem mb_aast13 {r9 : Nat} {x : Int32} (dg : decode cc pc = .ok (.aastore, 1)) (hn : pc + 1 = pn) (hr : mb_gB x 4 X = some res) (kk : X = some res → mb_Ev l G own cc nL ret d pn lv st (mb_sR h x.toNatClampNeg r9) res) : mb_Ev l G own cc nL ret d pc lv (mb_F 1 r9 0 :: .inl x :: mb_F 13 0 0 :: st) h res := by
  subst hn
  unfold mb_gB at hr
  by_cases q9 : x < 0 ∨ 4 ≤ x.toNatClampNeg
  · rw [if_pos q9] at hr; cases hr
  · rw [if_neg q9] at hr
    intro p e R s m args below meth c H locs ls C hS hw hl ol os
    obtain ⟨q, hq⟩ := mb_at os.2.2.1
    obtain ⟨q2, hq2⟩ := mb_at os.1
    have hr9 : r9 < 6 := os.1.1
    refine va_astq C.1 C.2.1 C.2.2.2.2.2.2.2.2.2.1 hw.1 (mb_D C.2.2.2.2.2.2.2.2.2.2.2.2 h) hS q 5 q2 2 (r := (RX2, TX2, 15)) (mb_wl_at G h hq) rfl (mb_wl_at G h hq2) rfl q9 dg (fun H1 locs1 hP1 _ hS1 => ?_)
    have e1 : ∀ u : mb_RF, mb_okr u → u ≠ (13, 0, 0) → mb_eh G (mb_sR h x.toNatClampNeg r9) u = mb_eh G h u := by
      intro u hu2 hu
      by_cases hu1 : u.1 = 13
      · exfalso
        apply hu
        obtain ⟨u1, u2, u3⟩ := u
        dsimp only at hu1
        subst hu1
        have z1 : u2 < 1 := hu2.1
        have z2 : u3 < 1 := hu2.2
        have z3 : u2 = 0 := by omega
        have z4 : u3 = 0 := by omega
        subst z3; subst z4
        rfl
      · exact mb_ek_r G _ _ _ _ u hu1
    have e2 : mb_eh G (mb_sR h x.toNatClampNeg r9) (13, 0, 0) = .inl (G.2.1 5, (4, .inr (.inr (.inr (.inr (va_up (fun k => some (G.2.2 (1, h.2.2 k, 0))) x.toNatClampNeg (some (G.2.2 (1, r9, 0))))))))) := by
      have e3 : (fun k => some (G.2.2 (1, (mb_sR h x.toNatClampNeg r9).2.2 k, 0))) = va_up (fun k => some (G.2.2 (1, h.2.2 k, 0))) x.toNatClampNeg (some (G.2.2 (1, r9, 0))) := by
        funext k9
        by_cases hk : k9 = x.toNatClampNeg
        · subst hk; simp [mb_sR, va_up]
        · simp [mb_sR, va_up, hk]
      rw [← e3]
      rfl
    rw [mb_set hq e1 e2] at hP1
    refine kk hr p e R s m args below meth c H1 locs1 ls C hS1 ⟨hP1, fun k9 hk9 => ?_⟩ hl ol os.2.2.2
    show (if k9 = x.toNatClampNeg then r9 else h.2.2 k9) < 6
    split
    · exact hr9
    · exact hw.2 k9 hk9
theorem mb_iret {x : Int32} (dg : decode cc pc = .ok (.ireturn, 1)) : mb_Ev l G own cc nL (some .int) d pc lv [.inl x] h (.inl (some (.inl x)), h) := by
  intro p e R s m args below meth c H locs ls C hS hw hl ol os
  exact vx_ret (W.iret C.1 C.2.1 C.2.2.2.2.2.2.1 (fun t ht hW => ⟨⟨_, rfl, rfl, ⟨trivial, trivial⟩⟩, by rw [ht]; exact hw, hS.F ht⟩) hS.2.2 dg C.2.2.2.2.2.1)
theorem mb_zret {x : Int32} (dg : decode cc pc = .ok (.ireturn, 1)) (hr : mb_gZ x (some (.inl (some (.inl x)), h)) = some res) : mb_Ev l G own cc nL (some .boolean) d pc lv [.inl x] h res := by
  unfold mb_gZ at hr
  by_cases q9 : x = 0 ∨ x = 1
  · rw [if_pos q9] at hr
    cases hr
    intro p e R s m args below meth c H locs ls C hS hw hl ol os
    exact vx_ret (W.zret C.1 C.2.1 C.2.2.2.2.2.2.1 (by rcases q9 with rfl | rfl <;> decide) (fun t ht hW => ⟨⟨_, rfl, rfl, ⟨trivial, trivial⟩⟩, by rw [ht]; exact hw, hS.F ht⟩) hS.2.2 dg C.2.2.2.2.2.1)
  · rw [if_neg q9] at hr; cases hr
theorem mb_zret0 (dg : decode cc pc = .ok (.ireturn, 1)) : mb_Ev l G own cc nL (some .boolean) d pc lv [.inl 0] h (.inl (some (.inl 0)), h) := by
  intro p e R s m args below meth c H locs ls C hS hw hl ol os
  exact vx_ret (W.zret C.1 C.2.1 C.2.2.2.2.2.2.1 (by decide) (fun t ht hW => ⟨⟨_, rfl, rfl, ⟨trivial, trivial⟩⟩, by rw [ht]; exact hw, hS.F ht⟩) hS.2.2 dg C.2.2.2.2.2.1)
theorem mb_zret1 (dg : decode cc pc = .ok (.ireturn, 1)) : mb_Ev l G own cc nL (some .boolean) d pc lv [.inl 1] h (.inl (some (.inl 1)), h) := by
  intro p e R s m args below meth c H locs ls C hS hw hl ol os
  exact vx_ret (W.zret C.1 C.2.1 C.2.2.2.2.2.2.1 (by decide) (fun t ht hW => ⟨⟨_, rfl, rfl, ⟨trivial, trivial⟩⟩, by rw [ht]; exact hw, hS.F ht⟩) hS.2.2 dg C.2.2.2.2.2.1)
theorem mb_lret {x : Int64} (dg : decode cc pc = .ok (.lreturn, 1)) : mb_Ev l G own cc nL (some .long) d pc lv [.inr (.inl x)] h (.inl (some (.inr (.inl x))), h) := by
  intro p e R s m args below meth c H locs ls C hS hw hl ol os
  exact vx_ret (W.lret C.1 C.2.1 C.2.2.2.2.2.2.1 (fun t ht hW => ⟨⟨_, rfl, rfl, ⟨trivial, trivial⟩⟩, by rw [ht]; exact hw, hS.F ht⟩) hS.2.2 dg C.2.2.2.2.2.1)
theorem mb_vret (dg : decode cc pc = .ok (.return_, 1)) : mb_Ev l G own cc nL none d pc lv [] h (.inl none, h) := by
  intro p e R s m args below meth c H locs ls C hS hw hl ol os
  exact vx_ret (W.vret C.1 C.2.1 C.2.2.2.2.2.2.1 (fun t ht hW => ⟨⟨_, rfl, rfl, trivial⟩, by rw [ht]; exact hw, hS.F ht⟩) hS.2.2 dg C.2.2.2.2.2.1)
theorem mb_aret {nm : String} {k9 a9 b9 : Nat} (dg : decode cc pc = .ok (.areturn, 1)) : mb_Ev l G own cc nL (some (.object nm)) d pc lv [mb_F k9 a9 b9] h (.inl (some (mb_F k9 a9 b9)), h) := by
  intro p e R s m args below meth c H locs ls C hS hw hl ol os
  exact vx_ret (W.aret C.1 C.2.1 C.2.2.2.2.2.2.1 (Or.inl ⟨_, rfl⟩) (Or.inr ⟨_, rfl⟩) (fun t ht hW => ⟨⟨_, rfl, rfl, os⟩, by rw [ht]; exact hw, hS.F ht⟩) hS.2.2 dg C.2.2.2.2.2.1)
theorem mb_aretN {nm : String} (dg : decode cc pc = .ok (.areturn, 1)) : mb_Ev l G own cc nL (some (.object nm)) d pc lv [mb_N] h (.inl (some mb_N), h) := by
  intro p e R s m args below meth c H locs ls C hS hw hl ol os
  exact vx_ret (W.aret C.1 C.2.1 C.2.2.2.2.2.2.1 (Or.inl ⟨_, rfl⟩) (Or.inl rfl) (fun t ht hW => ⟨⟨_, rfl, rfl, os⟩, by rw [ht]; exact hw, hS.F ht⟩) hS.2.2 dg C.2.2.2.2.2.1)
end MBS
end
section
section MBC
variable {l : Launch} {G : mb_G} {own : String} {cc : ByteArray} {nL : Nat} {ret : Option FieldType} {d pc pn : Nat} {lv : List (Nat × mb_AV)} {st : List mb_AV} {h : mb_AH} {res : mb_RS}
/-- the entry: a contract out of the walk from place 0 -/
theorem mb_entry {y : MethodName} {as : List mb_AV} (hy : plainName y.cls = true) (ho : y.cls = own) (hlen : (lg_sl (as.map (mb_cz G))).length ≤ nL) (hlv : lv_args 0 (as.map (mb_cz G)) = lv.map (mb_zq G)) (hok0 : lv.map (fun q => q.2) = as)
    (k : l.stackTraces = false → mb_Ev l G own cc nL ret d 0 lv [] h res) (hst : l.stackTraces = false) (hg : mb_gok G) : mb_Mt l G y cc nL ret d as h res := by
  have hok : ∀ q ∈ lv, q.2 ∈ as := fun q hq => by rw [← hok0]; exact List.mem_map.mpr ⟨q, hq, rfl⟩
  intro oks
  refine vx_ofW (cc := cc) (maxL := nL) (ret := ret) hy rfl ?_
  intro p e s m args below meth c s₁ B hml hx hv
  obtain ⟨rfl, hw, hK, hX⟩ := hv
  have hts := atoms_spec (ws := Cond.code y cc nL ret :: mb_GW) B.pre
  have hown : s.vm.findClass own = some m.cls := by rw [← ho]; exact findClass_of_methodNamed B.named
  have hl := lv_entry (as.map (mb_cz G)) (n := nL) hlen
  rw [lg_entry_eq]
  generalize (lg_sl (as.map (mb_cz G)) ++ List.replicate (nL - (lg_sl (as.map (mb_cz G))).length) Slot.unset).toArray = ls at hl ⊢
  rw [hlv] at hl
  have hoks : ∀ v ∈ as, mb_ok v := by
    clear hlen hlv hok hok0 k hl B hw hK hX hts
    induction as with
    | nil => intro v hv; cases hv
    | cons a r ih =>
      intro v hv
      rcases List.mem_cons.mp hv with rfl | q
      · exact oks.1
      · exact ih oks.2 v q
  exact k hst p e (mb_rm d res) s m _ below meth c s.heap [] ls ⟨B.exec, B.bytes, hml, hown, fun w hw9 => hts w (List.mem_cons_of_mem _ hw9), B.notSynchronized, B.returns, hx, ⟨Nat.le_refl _, Nat.le_refl _, Nat.le_refl _, Nat.le_refl _⟩, hK, hX, hst, hg⟩ va_S.rf hw hl (fun q hq => hoks _ (hok q hq)) trivial
theorem mb_XW_S {A : Nat → Prop} {s U : State} {H : Heap} {locs : List Loc} (hS : va_S A s.heap H locs) (hU : U.heap = H) (hW : s.WarmedH U.vm) (h : mb_XW A s) : mb_XW A U :=
  mb_XW_kept hW (by rw [hU]; exact hS.1) (fun q h1 h2 => by rw [hU]; exact hS.2.1 q h1 h2) h
/-- behind a call's run: it has come back, or thrown -/
theorem mb_fin {p : Program} {e : Env} {R : Room} {s : State} {m : MethodId} {args : Array Value} {below : List Frame} {meth : Method} {c : Code} {H : Heap} {locs : List Loc} {ls : Array Slot} {as9 : Array Value} {o9 : List mb_AV} {r : mb_RS}
    (C : mb_Cx p l R s m args meth c G own cc nL ret d res) (hS : va_S (mb_A G) s.heap H locs) (hl : lv_has ls nL (lv.map (mb_zq G))) (ol : ∀ q ∈ lv, mb_ok q.2) (os : mb_oks st)
    (hr : vx_Run p l e R s m args below meth c H locs 0 0 (mb_mc r) (mb_ms r) (F0 m pc ls (o9.map (mb_cz G))) (st.map (mb_cz G)) (mb_Qc G r as9) (mb_XC G r) (mb_A G))
    (kk : ∀ v : Option mb_AV, r.1 = .inl v → mb_Ev l G own cc nL ret d (pc + 3) lv (v.toList ++ st) r.2 res) (kx : ∀ E : String, r.1 = .inr E → res = (.inr E, r.2)) :
    W p l e R s m args below meth c H locs 0 0 (vx_MQ below (mb_Qc G res) (mb_XC G res) args s (mb_mc res) (mb_ms res) (mb_A G)) (F0 m pc ls (o9.map (mb_cz G))) := by
  intro T hT X
  rcases hr T hT X with ⟨v, st₀, t, T', L, h0, X', hL, e1, e2, ⟨⟨v9, hv9, ho9, hk9⟩, hwd, hF⟩, go⟩ | ⟨q, st₀, t, T', L, E, ce, h0, X', hL, e1, e2, ⟨hE, hwd, hF⟩, hce, hcv, hcl, go⟩
  · have hmc : mb_mc r = 0 := by unfold mb_mc; rw [hv9]
    have hms : mb_ms r = 0 := by unfold mb_ms; rw [hv9]
    rw [hmc, hms] at X'
    obtain ⟨-, -, k3⟩ := vx_keep (A1 := mb_A G) h0 e1 hS (fun _ _ z => z) (fun _ z => z) hL hF
    have hv : v = v9.map (mb_cz G) := by cases ho9; rfl
    subst hv
    have hst : ((v9.map (mb_cz G)).toList ++ st.map (mb_cz G)) = (v9.toList ++ st).map (mb_cz G) := by cases v9 <;> rfl
    have hoks : mb_oks (v9.toList ++ st) := by
      cases v9 with
      | none => exact os
      | some x9 => exact ⟨hk9.1, os⟩
    obtain ⟨t2, a1, b1⟩ := kk v9 hv9 p e R s m args below meth c T'.heap (locs ++ L) ls C k3 (by rw [e1]; exact hwd) hl ol hoks T' rfl X'
    rw [← hst] at a1
    exact ⟨t2, go t2 a1, b1⟩
  · obtain ⟨-, -, k3⟩ := vx_keep (A1 := mb_A G) h0 e1 hS (fun _ _ z => z) (fun _ z => z) hL hF
    have hres := kx E hE
    subst hres
    have hmc : mb_mc r = 1 := by unfold mb_mc; rw [hE]
    have hms : mb_ms r = 6 := by unfold mb_ms; rw [hE]
    have hx := vx_out (p := p) (l := l) (e := e) (R := R) (s := s) (m := m) (args := args) (below := below) (H := T'.heap) (locs := locs ++ L) (cells := 0 + mb_mc r) (slots := 0 + mb_ms r) (free := mb_A G) (ls := ls) (rest := st.map (mb_cz G)) (Qc := mb_Qc G (.inr E, r.2)) (XC := mb_XC G (.inr E, r.2)) (pc := pc) (mc := mb_mc (.inr E, r.2)) (ms := mb_ms (.inr E, r.2))
      (fun x hx9 => (C.2.2.2.2.2.2.2.1 x hx9).elim) C.2.2.2.2.2.1 (by rw [e1]; exact hce) hcv hcl
      (fun t9 ht9 _ => ⟨rfl, by rw [ht9, e1]; exact hwd, k3.F ht9⟩) k3.2.2 (by rw [hmc]; exact Nat.le_refl _) (by rw [hms]; exact Nat.le_refl _)
    obtain ⟨t2, a1, b1⟩ := hx T' rfl X'
    exact ⟨t2, go.trans a1, b1⟩
theorem mb_callV {idx nL2 d2 n k9 a9 b9 ci N : Nat} {y : MethodName} {cc2 : ByteArray} {ret2 : Option FieldType} {as : List mb_AV} {r : mb_RS} {C9 : String} {T9 : u_T} {fs : List Value}
    (hM : mb_Mt l G y cc2 nL2 ret2 d2 (mb_F k9 a9 b9 :: as) h r) (hgw : GoodIn mb_GW (wsV own idx C9 y (Cond.code y cc2 nL2 ret2 :: mb_GW)))
    (hd : y.cls = C9 ∧ y.cls ≠ "java/lang/invoke/MethodHandle" ∧ y.cls ≠ "java/lang/invoke/VarHandle" ∧ (parseMethodDescriptor y.desc).map (fun d => d.parameters.length) = some n) (hn : as.length = n)
    (hc : vwCl[ci]? = some (C9, T9, N)) (he : mb_eh G h (k9, a9, b9) = .inr (ci, fs)) (hd2 : d2 + 1 ≤ d) (hnl : nL2 ≤ 45) (hst : st.length ≤ 4) {o9 : List mb_AV} (ho : o9 = as.reverse ++ mb_F k9 a9 b9 :: st) (dg : decode cc pc = .ok (.invokevirtual idx, 3))
    (hres : ∀ E : String, r.1 = .inr E → res = (.inr E, r.2)) (kk : ∀ v : Option mb_AV, r.1 = .inl v → mb_Ev l G own cc nL ret d (pc + 3) lv (v.toList ++ st) r.2 res) : mb_Ev l G own cc nL ret d pc lv o9 h res := by
  subst ho
  intro p e R s m args below meth c H locs ls C hS hw hl ol os
  have os2 : mb_oks (mb_F k9 a9 b9 :: as) ∧ mb_oks st := by
    clear kk hres dg hd hn hM
    have key : ∀ (x y9 : List mb_AV), mb_oks (x ++ y9) → mb_oks x ∧ mb_oks y9 := by
      intro x
      induction x with
      | nil => intro y9 z; exact ⟨trivial, z⟩
      | cons a x ih => intro y9 z; exact ⟨⟨z.1, (ih y9 z.2).1⟩, (ih y9 z.2).2⟩
    have key3 : ∀ (x y9 : List mb_AV), mb_oks x → mb_oks y9 → mb_oks (x ++ y9) := by
      intro x
      induction x with
      | nil => intro y9 _ z; exact z
      | cons a x ih => intro y9 z z2; exact ⟨z.1, ih y9 z.2 z2⟩
    have key2 : ∀ (x : List mb_AV), mb_oks x.reverse → mb_oks x := by
      intro x
      induction x with
      | nil => intro _; trivial
      | cons a x ih =>
        intro z
        rw [List.reverse_cons] at z
        obtain ⟨z1, z2⟩ := key _ _ z
        exact ⟨z2.1, ih z1⟩
    obtain ⟨z1, z2⟩ := key _ _ os
    exact ⟨⟨z2.1, key2 _ z1⟩, z2.2⟩
  obtain ⟨q, hq⟩ := mb_at os2.1.1
  have hcls : mb_mc r ≤ mb_mc res ∧ mb_ms r ≤ mb_ms res := by
    cases hr1 : r.1 with
    | inl v => unfold mb_mc mb_ms; rw [hr1]; exact ⟨Nat.zero_le _, Nat.zero_le _⟩
    | inr E => rw [hres E hr1]; unfold mb_mc mb_ms; rw [hr1]; exact ⟨Nat.le_refl _, Nat.le_refl _⟩
  have hCr := C.2.2.2.2.2.2.2.2.1
  have hrun := vx_runV (p := p) (l := l) (e := e) (R := R) (s := s) (m := m) (args := args) (below := below) (meth := meth) (c := c) (H := H) (locs := locs) (cells := 0) (slots := 0) (b := G.2.2 (k9, a9, b9)) (As := as.map (mb_cz G)) (rest := st.map (mb_cz G)) (g := F0 m pc ls ((as.reverse ++ mb_F k9 a9 b9 :: st).map (mb_cz G))) ⟨C.1, C.2.1, C.2.2.1, C.2.2.2.1, C.2.2.2.2.1⟩ (hM os2.1)
    (cwV (Ts := mb_GW) n C.2.2.2.2.1 hgw rfl rfl rfl hd ⟨by show 8 + d2 + 1 ≤ _; omega, by show 8 + (nL2 + 11) + (128 + 64 * d2) ≤ _; omega⟩)
    ⟨mb_blind G _ h, va_recv C.2.2.2.2.2.2.2.2.2.1 hw.1 hc ((mb_wl_at G h hq).trans (congrArg (fun e9 => some (G.2.2 (k9, a9, b9), e9)) he)), fun U hU hW => ⟨rfl, by rw [hU]; exact hw, va_K.moved hW.alike C.2.2.2.2.2.2.2.2.2.1, mb_XW_S hS hU hW C.2.2.2.2.2.2.2.2.2.2.1⟩⟩
    rfl (by rw [List.length_map]; exact hn) hl.1 (by simp [List.map_append, List.map_reverse, mb_cz]) (lv_room (mb_rest G st 4 hst)) dg ⟨by have := hCr.2.2.1; omega, by have := hCr.2.2.2; omega⟩
  exact mb_fin C hS hl ol os2.2 hrun kk hres
theorem mb_callS {idx nL2 d2 n : Nat} {y : MethodName} {cc2 : ByteArray} {ret2 : Option FieldType} {as : List mb_AV} {r : mb_RS}
    (hM : mb_Mt l G y cc2 nL2 ret2 d2 as h r) (hgw : GoodIn mb_GW (wsS own idx y (Cond.code y cc2 nL2 ret2 :: mb_GW)))
    (hd : y.cls = own ∧ y.cls ≠ "java/lang/invoke/MethodHandle" ∧ y.cls ≠ "java/lang/invoke/VarHandle" ∧ (parseMethodDescriptor y.desc).map (fun d => d.parameters.length) = some n) (hn : as.length = n)
    (hd2 : d2 + 1 ≤ d) (hnl : nL2 ≤ 45) (hst : st.length ≤ 4) {o9 : List mb_AV} (ho : o9 = as.reverse ++ st) (dg : decode cc pc = .ok (.invokestatic idx, 3))
    (hres : ∀ E : String, r.1 = .inr E → res = (.inr E, r.2)) (kk : ∀ v : Option mb_AV, r.1 = .inl v → mb_Ev l G own cc nL ret d (pc + 3) lv (v.toList ++ st) r.2 res) : mb_Ev l G own cc nL ret d pc lv o9 h res := by
  subst ho
  intro p e R s m args below meth c H locs ls C hS hw hl ol os
  have os2 : mb_oks as ∧ mb_oks st := by
    clear kk hres dg hd hn hM
    have key : ∀ (x y9 : List mb_AV), mb_oks (x ++ y9) → mb_oks x ∧ mb_oks y9 := by
      intro x
      induction x with
      | nil => intro y9 z; exact ⟨trivial, z⟩
      | cons a x ih => intro y9 z; exact ⟨⟨z.1, (ih y9 z.2).1⟩, (ih y9 z.2).2⟩
    have key2 : ∀ (x : List mb_AV), mb_oks x.reverse → mb_oks x := by
      intro x
      induction x with
      | nil => intro _; trivial
      | cons a x ih =>
        intro z
        rw [List.reverse_cons] at z
        obtain ⟨z1, z2⟩ := key _ _ z
        exact ⟨z2.1, ih z1⟩
    obtain ⟨z1, z2⟩ := key _ _ os
    exact ⟨key2 _ z1, z2⟩
  have hcls : mb_mc r ≤ mb_mc res ∧ mb_ms r ≤ mb_ms res := by
    cases hr1 : r.1 with
    | inl v => unfold mb_mc mb_ms; rw [hr1]; exact ⟨Nat.zero_le _, Nat.zero_le _⟩
    | inr E => rw [hres E hr1]; unfold mb_mc mb_ms; rw [hr1]; exact ⟨Nat.le_refl _, Nat.le_refl _⟩
  have hCr := C.2.2.2.2.2.2.2.2.1
  have hrun := vx_runS (p := p) (l := l) (e := e) (R := R) (s := s) (m := m) (args := args) (below := below) (meth := meth) (c := c) (H := H) (locs := locs) (cells := 0) (slots := 0) (As := as.map (mb_cz G)) (rest := st.map (mb_cz G)) (g := F0 m pc ls ((as.reverse ++ st).map (mb_cz G))) ⟨C.1, C.2.1, C.2.2.1, C.2.2.2.1, C.2.2.2.2.1⟩ (hM os2.1)
    (cwS (Ts := mb_GW) n C.2.2.2.2.1 hgw rfl rfl rfl hd ⟨by show 8 + d2 + 1 ≤ _; omega, by show 8 + (nL2 + 11) + (128 + 64 * d2) ≤ _; omega⟩)
    ⟨mb_blind G _ h, fun U hU hW => ⟨rfl, by rw [hU]; exact hw, va_K.moved hW.alike C.2.2.2.2.2.2.2.2.2.1, mb_XW_S hS hU hW C.2.2.2.2.2.2.2.2.2.2.1⟩⟩
    rfl (by rw [List.length_map]; exact hn) hl.1 (by simp [List.map_append, List.map_reverse]) (lv_room (mb_rest G st 4 hst)) dg ⟨by have := hCr.2.2.1; omega, by have := hCr.2.2.2; omega⟩
  exact mb_fin C hS hl ol os2.2 hrun kk hres
/-- new X(text), thrown -/
theorem mb_throw {ik is ic : Nat} {cls text : String} {names : List String} (ho9 : own = RX5) (hcls : Bundle.fit cls = true) (hnames : ∀ n ∈ names, Bundle.fit n = true) (hln : names.length ≤ 3)
    (hk : Cond.classLink own ik cls ∈ mb_GW) (hini : Cond.initialized cls ∈ mb_GW) (hstr : (is, text) ∈ mb_strs) (hat : ∀ w ∈ vx_atS own ic cls names, w ∈ mb_GW ∨ w ∈ mb_FW) (hst : st.length ≤ 4)
    (d0 : decode cc pc = .ok (.new ik, 3)) (d3 : decode cc (pc + 3) = .ok (.dup, 1)) (d4 : decode cc (pc + 4) = .ok (.ldc is, 2)) (d6 : decode cc (pc + 6) = .ok (.invokespecial ic, 3)) (d9 : decode cc (pc + 9) = .ok (.athrow, 1)) :
    mb_Ev l G own cc nL ret d pc lv st h (.inr cls, h) := by
  subst ho9
  intro p e R s m args below meth c H locs ls C hS hw hl ol os
  obtain ⟨sa, hsa⟩ := C.2.2.2.2.2.2.2.2.2.2.1.2.2.1 _ hstr
  have hCr := C.2.2.2.2.2.2.2.2.1
  have hr1 := hCr.1
  have hr2 := hCr.2.1
  have hr3 : 1 ≤ R.cells := hCr.2.2.1
  have hr4 : 6 ≤ R.slots := hCr.2.2.2
  have hq := mb_rest G st 4 hst
  have hgood : ∀ w ∈ Cond.classLink RX5 ik cls :: Cond.initialized cls :: vx_atS RX5 ic cls names, vx_ot w = true := by
    intro w hw9
    have : w ∈ mb_GW ∨ w ∈ mb_FW := by
      rcases List.mem_cons.mp hw9 with rfl | hw9
      · exact Or.inl hk
      · rcases List.mem_cons.mp hw9 with rfl | hw9
        · exact Or.inl hini
        · exact hat w hw9
    unfold vx_ot
    rcases this with z | z
    · rw [(List.mem_filter.mp z).2, Bool.or_true]
    · have z2 := (List.mem_filter.mp z).2
      rw [Bool.and_eq_true] at z2
      rw [z2.1, Bool.true_or]
  refine vx_throwS (A := mb_A G) C.1 C.2.1 C.2.2.2.2.2.2.2.2.2.2.2.1 C.2.2.2.1 hcls hnames (C.2.2.2.2.1 _ hk) (C.2.2.2.2.1 _ hini) hsa (fun w hw9 => (hat w hw9).elim (C.2.2.2.2.1 _) (fun z => va_Nw.use (by have z2 := (List.mem_filter.mp z).2; rw [Bool.and_eq_true] at z2; exact z2.1) (C.2.2.2.2.2.2.2.2.2.2.1.2.2.2 w z))) hgood C.2.2.2.2.2.2.2.2.2.2.1.1 C.2.2.2.2.2.2.2.2.2.2.1.2.1 hS (hl.1.trans C.2.2.1.symm) d0 d3 d4 d6 d9
    (fun x hx9 => (C.2.2.2.2.2.2.2.1 x hx9).elim) ?_ ?_ (by omega) (by omega) C.2.2.2.2.2.1 ?_ hS.2.2 (Nat.le_refl _) (Nat.le_refl _)
  · omega
  · have hq2 : (List.map (fun v => v.category) (List.map (mb_cz G) st)).sum ≤ 8 := hq
    have : 13 * (names.length + 1) + 43 ≤ 95 := by omega
    omega
  · intro t hvm hz hkeep
    refine ⟨rfl, ⟨?_, hw.2⟩, ?_⟩
    · exact hw.1.kept (fun k9 q9 hq9 => hkeep _ (hw.1 k9 q9 hq9).lt)
    · exact ⟨Nat.le_trans hS.1 hz, fun q9 h1 h2 => by rw [hkeep q9 (Nat.lt_of_lt_of_le h1 hS.1)]; exact hS.2.1 q9 h1 h2⟩
theorem mb_throwW {ik is ic : Nat} {cls text : String} {names : List String} (ho9 : own = RX5) (hcls : Bundle.fit cls = true) (hnames : ∀ n ∈ names, Bundle.fit n = true) (hln : names.length ≤ 3)
    (hk : Cond.classLink own ik cls ∈ mb_GW) (hini : Cond.initialized cls ∈ mb_GW) (hstr : (is, text) ∈ mb_strs) (hat : ∀ w ∈ vx_atS own ic cls names, w ∈ mb_GW ∨ w ∈ mb_FW) (hst : st.length ≤ 4)
    (d0 : decode cc pc = .ok (.new ik, 3)) (d3 : decode cc (pc + 3) = .ok (.dup, 1)) (d4 : decode cc (pc + 4) = .ok (.ldc_w is, 3)) (d6 : decode cc (pc + 7) = .ok (.invokespecial ic, 3)) (d9 : decode cc (pc + 10) = .ok (.athrow, 1)) :
    mb_Ev l G own cc nL ret d pc lv st h (.inr cls, h) := by
  subst ho9
  intro p e R s m args below meth c H locs ls C hS hw hl ol os
  obtain ⟨sa, hsa⟩ := C.2.2.2.2.2.2.2.2.2.2.1.2.2.1 _ hstr
  have hCr := C.2.2.2.2.2.2.2.2.1
  have hr1 := hCr.1
  have hr2 := hCr.2.1
  have hr3 : 1 ≤ R.cells := hCr.2.2.1
  have hr4 : 6 ≤ R.slots := hCr.2.2.2
  have hq := mb_rest G st 4 hst
  have hgood : ∀ w ∈ Cond.classLink RX5 ik cls :: Cond.initialized cls :: vx_atS RX5 ic cls names, vx_ot w = true := by
    intro w hw9
    have : w ∈ mb_GW ∨ w ∈ mb_FW := by
      rcases List.mem_cons.mp hw9 with rfl | hw9
      · exact Or.inl hk
      · rcases List.mem_cons.mp hw9 with rfl | hw9
        · exact Or.inl hini
        · exact hat w hw9
    unfold vx_ot
    rcases this with z | z
    · rw [(List.mem_filter.mp z).2, Bool.or_true]
    · have z2 := (List.mem_filter.mp z).2
      rw [Bool.and_eq_true] at z2
      rw [z2.1, Bool.true_or]
  refine vx_throwSW (A := mb_A G) C.1 C.2.1 C.2.2.2.2.2.2.2.2.2.2.2.1 C.2.2.2.1 hcls hnames (C.2.2.2.2.1 _ hk) (C.2.2.2.2.1 _ hini) hsa (fun w hw9 => (hat w hw9).elim (C.2.2.2.2.1 _) (fun z => va_Nw.use (by have z2 := (List.mem_filter.mp z).2; rw [Bool.and_eq_true] at z2; exact z2.1) (C.2.2.2.2.2.2.2.2.2.2.1.2.2.2 w z))) hgood C.2.2.2.2.2.2.2.2.2.2.1.1 C.2.2.2.2.2.2.2.2.2.2.1.2.1 hS (hl.1.trans C.2.2.1.symm) d0 d3 d4 d6 d9
    (fun x hx9 => (C.2.2.2.2.2.2.2.1 x hx9).elim) ?_ ?_ (by omega) (by omega) C.2.2.2.2.2.1 ?_ hS.2.2 (Nat.le_refl _) (Nat.le_refl _)
  · omega
  · have hq2 : (List.map (fun v => v.category) (List.map (mb_cz G) st)).sum ≤ 8 := hq
    have : 13 * (names.length + 1) + 43 ≤ 95 := by omega
    omega
  · intro t hvm hz hkeep
    refine ⟨rfl, ⟨?_, hw.2⟩, ?_⟩
    · exact hw.1.kept (fun k9 q9 hq9 => hkeep _ (hw.1 k9 q9 hq9).lt)
    · exact ⟨Nat.le_trans hS.1 hz, fun q9 h1 h2 => by rw [hkeep q9 (Nat.lt_of_lt_of_le h1 hS.1)]; exact hS.2.1 q9 h1 h2⟩
end MBC
/-! the same, with what the function does -/
section MBK
variable {l : Launch} {G : mb_G} {own : String} {cc : ByteArray} {nL : Nat} {ret : Option FieldType} {d pc pn : Nat} {lv : List (Nat × mb_AV)} {st : List mb_AV} {h : mb_AH} {res : mb_RS}
theorem mb_kVI {idx nL2 d2 n k9 a9 b9 ci N : Nat} {y : MethodName} {cc2 : ByteArray} {ret2 : Option FieldType} {as : List mb_AV} {f : Option mb_RS} {C9 : String} {T9 : u_T} {fs : List Value}
    (hM : ∀ r, f = some r → mb_Mt l G y cc2 nL2 ret2 d2 (mb_F k9 a9 b9 :: as) h r) (hgw : GoodIn mb_GW (wsV own idx C9 y (Cond.code y cc2 nL2 ret2 :: mb_GW)))
    (hd : y.cls = C9 ∧ y.cls ≠ "java/lang/invoke/MethodHandle" ∧ y.cls ≠ "java/lang/invoke/VarHandle" ∧ (parseMethodDescriptor y.desc).map (fun d => d.parameters.length) = some n) (hn : as.length = n)
    (hc : vwCl[ci]? = some (C9, T9, N)) (he : mb_eh G h (k9, a9, b9) = .inr (ci, fs)) (hd2 : d2 + 1 ≤ d) (hnl : nL2 ≤ 45) (hst : st.length ≤ 4) {o9 : List mb_AV} (ho : o9 = as.reverse ++ mb_F k9 a9 b9 :: st) (dg : decode cc pc = .ok (.invokevirtual idx, 3))
    (hn9 : pc + 3 = pn) {K : Int32 → mb_AH → Option mb_RS} (hr : mb_cI f K = some res) (kk : ∀ (x : Int32) (h2 : mb_AH), K x h2 = some res → mb_Ev l G own cc nL ret d pn lv (.inl x :: st) h2 res) : mb_Ev l G own cc nL ret d pc lv o9 h res := by
  subst hn9
  cases hf : f with
  | none => rw [hf] at hr; cases hr
  | some r =>
    rw [hf] at hr
    obtain ⟨r1, h2⟩ := r
    refine mb_callV (hM (r1, h2) hf) hgw hd hn hc he hd2 hnl hst ho dg (fun E hE => ?_) (fun v hv => ?_)
    · dsimp only at hE
      subst hE
      exact (Option.some.inj hr).symm
    · dsimp only at hv
      subst hv
      rcases v with _ | x | x | x
      · cases hr
      · exact kk x h2 hr
      · cases hr
      · cases hr
theorem mb_kVL {idx nL2 d2 n k9 a9 b9 ci N : Nat} {y : MethodName} {cc2 : ByteArray} {ret2 : Option FieldType} {as : List mb_AV} {f : Option mb_RS} {C9 : String} {T9 : u_T} {fs : List Value}
    (hM : ∀ r, f = some r → mb_Mt l G y cc2 nL2 ret2 d2 (mb_F k9 a9 b9 :: as) h r) (hgw : GoodIn mb_GW (wsV own idx C9 y (Cond.code y cc2 nL2 ret2 :: mb_GW)))
    (hd : y.cls = C9 ∧ y.cls ≠ "java/lang/invoke/MethodHandle" ∧ y.cls ≠ "java/lang/invoke/VarHandle" ∧ (parseMethodDescriptor y.desc).map (fun d => d.parameters.length) = some n) (hn : as.length = n)
    (hc : vwCl[ci]? = some (C9, T9, N)) (he : mb_eh G h (k9, a9, b9) = .inr (ci, fs)) (hd2 : d2 + 1 ≤ d) (hnl : nL2 ≤ 45) (hst : st.length ≤ 4) {o9 : List mb_AV} (ho : o9 = as.reverse ++ mb_F k9 a9 b9 :: st) (dg : decode cc pc = .ok (.invokevirtual idx, 3))
    (hn9 : pc + 3 = pn) {K : Int64 → mb_AH → Option mb_RS} (hr : mb_cL f K = some res) (kk : ∀ (x : Int64) (h2 : mb_AH), K x h2 = some res → mb_Ev l G own cc nL ret d pn lv (.inr (.inl x) :: st) h2 res) : mb_Ev l G own cc nL ret d pc lv o9 h res := by
  subst hn9
  cases hf : f with
  | none => rw [hf] at hr; cases hr
  | some r =>
    rw [hf] at hr
    obtain ⟨r1, h2⟩ := r
    refine mb_callV (hM (r1, h2) hf) hgw hd hn hc he hd2 hnl hst ho dg (fun E hE => ?_) (fun v hv => ?_)
    · dsimp only at hE
      subst hE
      exact (Option.some.inj hr).symm
    · dsimp only at hv
      subst hv
      rcases v with _ | x | x | x
      · cases hr
      · cases hr
      · exact kk x h2 hr
      · cases hr
theorem mb_kVV {idx nL2 d2 n k9 a9 b9 ci N : Nat} {y : MethodName} {cc2 : ByteArray} {ret2 : Option FieldType} {as : List mb_AV} {f : Option mb_RS} {C9 : String} {T9 : u_T} {fs : List Value}
    (hM : ∀ r, f = some r → mb_Mt l G y cc2 nL2 ret2 d2 (mb_F k9 a9 b9 :: as) h r) (hgw : GoodIn mb_GW (wsV own idx C9 y (Cond.code y cc2 nL2 ret2 :: mb_GW)))
    (hd : y.cls = C9 ∧ y.cls ≠ "java/lang/invoke/MethodHandle" ∧ y.cls ≠ "java/lang/invoke/VarHandle" ∧ (parseMethodDescriptor y.desc).map (fun d => d.parameters.length) = some n) (hn : as.length = n)
    (hc : vwCl[ci]? = some (C9, T9, N)) (he : mb_eh G h (k9, a9, b9) = .inr (ci, fs)) (hd2 : d2 + 1 ≤ d) (hnl : nL2 ≤ 45) (hst : st.length ≤ 4) {o9 : List mb_AV} (ho : o9 = as.reverse ++ mb_F k9 a9 b9 :: st) (dg : decode cc pc = .ok (.invokevirtual idx, 3))
    (hn9 : pc + 3 = pn) {K : mb_AH → Option mb_RS} (hr : mb_cV f K = some res) (kk : ∀ (h2 : mb_AH), K h2 = some res → mb_Ev l G own cc nL ret d pn lv st h2 res) : mb_Ev l G own cc nL ret d pc lv o9 h res := by
  subst hn9
  cases hf : f with
  | none => rw [hf] at hr; cases hr
  | some r =>
    rw [hf] at hr
    obtain ⟨r1, h2⟩ := r
    refine mb_callV (hM (r1, h2) hf) hgw hd hn hc he hd2 hnl hst ho dg (fun E hE => ?_) (fun v hv => ?_)
    · dsimp only at hE
      subst hE
      exact (Option.some.inj hr).symm
    · dsimp only at hv
      subst hv
      rcases v with _ | x
      · exact kk h2 hr
      · cases hr
theorem mb_kVR {idx nL2 d2 n k9 a9 b9 ci N : Nat} {y : MethodName} {cc2 : ByteArray} {ret2 : Option FieldType} {as : List mb_AV} {f : Option mb_RS} {C9 : String} {T9 : u_T} {fs : List Value}
    (hM : ∀ r, f = some r → mb_Mt l G y cc2 nL2 ret2 d2 (mb_F k9 a9 b9 :: as) h r) (hgw : GoodIn mb_GW (wsV own idx C9 y (Cond.code y cc2 nL2 ret2 :: mb_GW)))
    (hd : y.cls = C9 ∧ y.cls ≠ "java/lang/invoke/MethodHandle" ∧ y.cls ≠ "java/lang/invoke/VarHandle" ∧ (parseMethodDescriptor y.desc).map (fun d => d.parameters.length) = some n) (hn : as.length = n)
    (hc : vwCl[ci]? = some (C9, T9, N)) (he : mb_eh G h (k9, a9, b9) = .inr (ci, fs)) (hd2 : d2 + 1 ≤ d) (hnl : nL2 ≤ 45) (hst : st.length ≤ 4) {o9 : List mb_AV} (ho : o9 = as.reverse ++ mb_F k9 a9 b9 :: st) (dg : decode cc pc = .ok (.invokevirtual idx, 3))
    (hn9 : pc + 3 = pn) {kd : Nat} {K0 : mb_AH → Option mb_RS} {K : Nat → Nat → mb_AH → Option mb_RS} (hr : mb_cR kd f K0 K = some res) (k0 : ∀ (h2 : mb_AH), K0 h2 = some res → mb_Ev l G own cc nL ret d pn lv (mb_N :: st) h2 res) (kk : ∀ (a b : Nat) (h2 : mb_AH), K a b h2 = some res → mb_Ev l G own cc nL ret d pn lv (mb_F kd a b :: st) h2 res) : mb_Ev l G own cc nL ret d pc lv o9 h res := by
  subst hn9
  cases hf : f with
  | none => rw [hf] at hr; cases hr
  | some r =>
    rw [hf] at hr
    obtain ⟨r1, h2⟩ := r
    refine mb_callV (hM (r1, h2) hf) hgw hd hn hc he hd2 hnl hst ho dg (fun E hE => ?_) (fun v hv => ?_)
    · dsimp only at hE
      subst hE
      exact (Option.some.inj hr).symm
    · dsimp only at hv
      subst hv
      rcases v with _ | x | x | _ | ⟨k8, a, b⟩
      · cases hr
      · cases hr
      · cases hr
      · exact k0 h2 hr
      · by_cases q : k8 = kd
        · subst q
          have hr2 : (if k8 = k8 then K a b h2 else none) = some res := hr
          rw [if_pos rfl] at hr2
          exact kk a b h2 hr2
        · have hr2 : (if k8 = kd then K a b h2 else none) = some res := hr
          rw [if_neg q] at hr2
          cases hr2
theorem mb_kSI {idx nL2 d2 n : Nat} {y : MethodName} {cc2 : ByteArray} {ret2 : Option FieldType} {as : List mb_AV} {f : Option mb_RS}
    (hM : ∀ r, f = some r → mb_Mt l G y cc2 nL2 ret2 d2 as h r) (hgw : GoodIn mb_GW (wsS own idx y (Cond.code y cc2 nL2 ret2 :: mb_GW)))
    (hd : y.cls = own ∧ y.cls ≠ "java/lang/invoke/MethodHandle" ∧ y.cls ≠ "java/lang/invoke/VarHandle" ∧ (parseMethodDescriptor y.desc).map (fun d => d.parameters.length) = some n) (hn : as.length = n)
    (hd2 : d2 + 1 ≤ d) (hnl : nL2 ≤ 45) (hst : st.length ≤ 4) {o9 : List mb_AV} (ho : o9 = as.reverse ++ st) (dg : decode cc pc = .ok (.invokestatic idx, 3))
    (hn9 : pc + 3 = pn) {K : Int32 → mb_AH → Option mb_RS} (hr : mb_cI f K = some res) (kk : ∀ (x : Int32) (h2 : mb_AH), K x h2 = some res → mb_Ev l G own cc nL ret d pn lv (.inl x :: st) h2 res) : mb_Ev l G own cc nL ret d pc lv o9 h res := by
  subst hn9
  cases hf : f with
  | none => rw [hf] at hr; cases hr
  | some r =>
    rw [hf] at hr
    obtain ⟨r1, h2⟩ := r
    refine mb_callS (hM (r1, h2) hf) hgw hd hn hd2 hnl hst ho dg (fun E hE => ?_) (fun v hv => ?_)
    · dsimp only at hE
      subst hE
      exact (Option.some.inj hr).symm
    · dsimp only at hv
      subst hv
      rcases v with _ | x | x | x
      · cases hr
      · exact kk x h2 hr
      · cases hr
      · cases hr
theorem mb_kSL {idx nL2 d2 n : Nat} {y : MethodName} {cc2 : ByteArray} {ret2 : Option FieldType} {as : List mb_AV} {f : Option mb_RS}
    (hM : ∀ r, f = some r → mb_Mt l G y cc2 nL2 ret2 d2 as h r) (hgw : GoodIn mb_GW (wsS own idx y (Cond.code y cc2 nL2 ret2 :: mb_GW)))
    (hd : y.cls = own ∧ y.cls ≠ "java/lang/invoke/MethodHandle" ∧ y.cls ≠ "java/lang/invoke/VarHandle" ∧ (parseMethodDescriptor y.desc).map (fun d => d.parameters.length) = some n) (hn : as.length = n)
    (hd2 : d2 + 1 ≤ d) (hnl : nL2 ≤ 45) (hst : st.length ≤ 4) {o9 : List mb_AV} (ho : o9 = as.reverse ++ st) (dg : decode cc pc = .ok (.invokestatic idx, 3))
    (hn9 : pc + 3 = pn) {K : Int64 → mb_AH → Option mb_RS} (hr : mb_cL f K = some res) (kk : ∀ (x : Int64) (h2 : mb_AH), K x h2 = some res → mb_Ev l G own cc nL ret d pn lv (.inr (.inl x) :: st) h2 res) : mb_Ev l G own cc nL ret d pc lv o9 h res := by
  subst hn9
  cases hf : f with
  | none => rw [hf] at hr; cases hr
  | some r =>
    rw [hf] at hr
    obtain ⟨r1, h2⟩ := r
    refine mb_callS (hM (r1, h2) hf) hgw hd hn hd2 hnl hst ho dg (fun E hE => ?_) (fun v hv => ?_)
    · dsimp only at hE
      subst hE
      exact (Option.some.inj hr).symm
    · dsimp only at hv
      subst hv
      rcases v with _ | x | x | x
      · cases hr
      · cases hr
      · exact kk x h2 hr
      · cases hr
theorem mb_kSV {idx nL2 d2 n : Nat} {y : MethodName} {cc2 : ByteArray} {ret2 : Option FieldType} {as : List mb_AV} {f : Option mb_RS}
    (hM : ∀ r, f = some r → mb_Mt l G y cc2 nL2 ret2 d2 as h r) (hgw : GoodIn mb_GW (wsS own idx y (Cond.code y cc2 nL2 ret2 :: mb_GW)))
    (hd : y.cls = own ∧ y.cls ≠ "java/lang/invoke/MethodHandle" ∧ y.cls ≠ "java/lang/invoke/VarHandle" ∧ (parseMethodDescriptor y.desc).map (fun d => d.parameters.length) = some n) (hn : as.length = n)
    (hd2 : d2 + 1 ≤ d) (hnl : nL2 ≤ 45) (hst : st.length ≤ 4) {o9 : List mb_AV} (ho : o9 = as.reverse ++ st) (dg : decode cc pc = .ok (.invokestatic idx, 3))
    (hn9 : pc + 3 = pn) {K : mb_AH → Option mb_RS} (hr : mb_cV f K = some res) (kk : ∀ (h2 : mb_AH), K h2 = some res → mb_Ev l G own cc nL ret d pn lv st h2 res) : mb_Ev l G own cc nL ret d pc lv o9 h res := by
  subst hn9
  cases hf : f with
  | none => rw [hf] at hr; cases hr
  | some r =>
    rw [hf] at hr
    obtain ⟨r1, h2⟩ := r
    refine mb_callS (hM (r1, h2) hf) hgw hd hn hd2 hnl hst ho dg (fun E hE => ?_) (fun v hv => ?_)
    · dsimp only at hE
      subst hE
      exact (Option.some.inj hr).symm
    · dsimp only at hv
      subst hv
      rcases v with _ | x
      · exact kk h2 hr
      · cases hr
theorem mb_kSR {idx nL2 d2 n : Nat} {y : MethodName} {cc2 : ByteArray} {ret2 : Option FieldType} {as : List mb_AV} {f : Option mb_RS}
    (hM : ∀ r, f = some r → mb_Mt l G y cc2 nL2 ret2 d2 as h r) (hgw : GoodIn mb_GW (wsS own idx y (Cond.code y cc2 nL2 ret2 :: mb_GW)))
    (hd : y.cls = own ∧ y.cls ≠ "java/lang/invoke/MethodHandle" ∧ y.cls ≠ "java/lang/invoke/VarHandle" ∧ (parseMethodDescriptor y.desc).map (fun d => d.parameters.length) = some n) (hn : as.length = n)
    (hd2 : d2 + 1 ≤ d) (hnl : nL2 ≤ 45) (hst : st.length ≤ 4) {o9 : List mb_AV} (ho : o9 = as.reverse ++ st) (dg : decode cc pc = .ok (.invokestatic idx, 3))
    (hn9 : pc + 3 = pn) {kd : Nat} {K0 : mb_AH → Option mb_RS} {K : Nat → Nat → mb_AH → Option mb_RS} (hr : mb_cR kd f K0 K = some res) (k0 : ∀ (h2 : mb_AH), K0 h2 = some res → mb_Ev l G own cc nL ret d pn lv (mb_N :: st) h2 res) (kk : ∀ (a b : Nat) (h2 : mb_AH), K a b h2 = some res → mb_Ev l G own cc nL ret d pn lv (mb_F kd a b :: st) h2 res) : mb_Ev l G own cc nL ret d pc lv o9 h res := by
  subst hn9
  cases hf : f with
  | none => rw [hf] at hr; cases hr
  | some r =>
    rw [hf] at hr
    obtain ⟨r1, h2⟩ := r
    refine mb_callS (hM (r1, h2) hf) hgw hd hn hd2 hnl hst ho dg (fun E hE => ?_) (fun v hv => ?_)
    · dsimp only at hE
      subst hE
      exact (Option.some.inj hr).symm
    · dsimp only at hv
      subst hv
      rcases v with _ | x | x | _ | ⟨k8, a, b⟩
      · cases hr
      · cases hr
      · cases hr
      · exact k0 h2 hr
      · by_cases q : k8 = kd
        · subst q
          have hr2 : (if k8 = k8 then K a b h2 else none) = some res := hr
          rw [if_pos rfl] at hr2
          exact kk a b h2 hr2
        · have hr2 : (if k8 = kd then K a b h2 else none) = some res := hr
          rw [if_neg q] at hr2
          cases hr2
end MBK
end
section
section MBN
variable {l : Launch} {G : mb_G} {own : String} {cc : ByteArray} {nL : Nat} {ret : Option FieldType} {d pc pn : Nat} {lv : List (Nat × mb_AV)} {st : List mb_AV} {h : mb_AH} {res : mb_RS}
def mb_fu : Nat := 70000
def mb_lI (e : Int32) (K : Int32 → Option mb_RS) : Option mb_RS := K e
def mb_lL (e : Int64) (K : Int64 → Option mb_RS) : Option mb_RS := K e
def mb_up (e : mb_AH) (K : mb_AH → Option mb_RS) : Option mb_RS := K e
theorem mb_nmI {e : Int32} {K : Int32 → Option mb_RS} (hr : mb_lI e K = some res) (kk : ∀ y, K y = some res → mb_Ev l G own cc nL ret d pc lv (.inl y :: st) h res) : mb_Ev l G own cc nL ret d pc lv (.inl e :: st) h res := kk e hr
theorem mb_nmL {e : Int64} {K : Int64 → Option mb_RS} (hr : mb_lL e K = some res) (kk : ∀ y, K y = some res → mb_Ev l G own cc nL ret d pc lv (.inr (.inl y) :: st) h res) : mb_Ev l G own cc nL ret d pc lv (.inr (.inl e) :: st) h res := kk e hr
theorem mb_nmx {e : Int32} {K : Int32 → Option mb_RS} (hr : mb_lI e K = some res) (kk : ∀ y, y = e → K y = some res → mb_Ev l G own cc nL ret d pc lv st h res) : mb_Ev l G own cc nL ret d pc lv st h res := kk e rfl hr
theorem mb_nmh {e : mb_AH} {K : mb_AH → Option mb_RS} (hr : mb_up e K = some res) (kk : ∀ y, K y = some res → mb_Ev l G own cc nL ret d pc lv st y res) : mb_Ev l G own cc nL ret d pc lv st e res := kk e hr
theorem mb_lvs (ks : List Nat) {lv2 : List (Nat × mb_AV)} (hl : ks.filterMap (fun k => lv[k]?) = lv2) (k : mb_Ev l G own cc nL ret d pc lv2 st h res) : mb_Ev l G own cc nL ret d pc lv st h res := by
  have hsub : ∀ q ∈ lv2, q ∈ lv := by
    intro q hq
    rw [← hl] at hq
    obtain ⟨i, -, hi⟩ := List.mem_filterMap.mp hq
    exact List.mem_of_getElem? hi
  intro p e R s m args below meth c H locs ls C hS hw hl2 ol os
  refine k p e R s m args below meth c H locs ls C hS hw ⟨hl2.1, hl2.2.1, fun q hq => ?_⟩ (fun q hq => ol q (hsub q hq)) os
  obtain ⟨q2, hq2, rfl⟩ := List.mem_map.mp hq
  exact hl2.2.2 _ (List.mem_map.mpr ⟨q2, hsub q2 hq2, rfl⟩)
end MBN
theorem wk_X4_18 : Cond.constant RX4 18 (65535) ∈ mb_GW := mb_tb 726 (by decide +kernel) (by decide +kernel)
theorem wf_X4_19 : Cond.fieldLink RX4 19 "MarinaBerths$WinterPlan" "open" "I" ∈ mb_GW := mb_tb 177 (by decide +kernel) (by decide +kernel)
theorem in_X4 : ∀ w ∈ u_ws RX4 TX4 4, w ∈ mb_GW := by
  have e : u_ws RX4 TX4 4 = [Cond.laysFinal RX4 "MarinaBerths$WinterPlan" "wishes" "[I", Cond.laysFinal RX4 "MarinaBerths$WinterPlan" "holders" "[I", Cond.lays RX4 "MarinaBerths$WinterPlan" "open" "I", Cond.lays RX4 "MarinaBerths$WinterPlan" "seen" "I"] := rfl
  rw [e]
  intro w hw
  simp only [List.mem_cons, List.not_mem_nil, or_false] at hw
  rcases hw with rfl | rfl | rfl | rfl
  · exact mb_tb 179 (by decide +kernel) (by decide +kernel)
  · exact mb_tb 181 (by decide +kernel) (by decide +kernel)
  · exact mb_tb 183 (by decide +kernel) (by decide +kernel)
  · exact mb_tb 185 (by decide +kernel) (by decide +kernel)
theorem pf_X4_19 {l : Launch} {G : mb_G} {cc : ByteArray} {nL : Nat} {ret : Option FieldType} {d pc pn : Nat} {lv : List (Nat × mb_AV)} {st : List mb_AV} {h : mb_AH} {res : mb_RS} {a b : Nat} {x : Int32} {K : mb_AH → Option mb_RS} (dg : decode cc pc = .ok (.putfield 19, 3)) (hn : pc + 3 = pn) (hr : mb_up (mb_sI h 4 a b 2 x) K = some res) (kk : ∀ h2, K h2 = some res → mb_Ev l G RX4 cc nL ret d pn lv st h2 res) : mb_Ev l G RX4 cc nL ret d pc lv (.inl x :: mb_F 4 a b :: st) h res := mb_putI (ci := 4) (j := 2) (ty := .int) in_X4 tyX4 tyX4_ok nmX4 rfl (by decide) wf_X4_19 rfl rfl rfl rfl rfl (Nat.le_of_ble_eq_true rfl) rfl dg hn (kk _ hr)
theorem wf_X4_9 : Cond.fieldLink RX4 9 "MarinaBerths$WinterPlan" "wishes" "[I" ∈ mb_GW := mb_tb 175 (by decide +kernel) (by decide +kernel)
theorem gf_X4_9 {l : Launch} {G : mb_G} {cc : ByteArray} {nL : Nat} {ret : Option FieldType} {d pc pn : Nat} {lv : List (Nat × mb_AV)} {st : List mb_AV} {h : mb_AH} {res : mb_RS} {a b : Nat} (dg : decode cc pc = .ok (.getfield 9, 3)) (hn : pc + 3 = pn) (kk : mb_Ev l G RX4 cc nL ret d pn lv (mb_F 14 0 0 :: st) h res) : mb_Ev l G RX4 cc nL ret d pc lv (mb_F 4 a b :: st) h res := mb_get (v := mb_F 14 0 0) (ci := 4) (j := 0) in_X4 rfl (by decide) wf_X4_9 rfl rfl (fun _ => ⟨by decide, by decide⟩) dg hn kk
theorem wf_X4_27 : Cond.fieldLink RX4 27 "MarinaBerths$WinterPlan" "seen" "I" ∈ mb_GW := mb_tb 178 (by decide +kernel) (by decide +kernel)
theorem pf_X4_27 {l : Launch} {G : mb_G} {cc : ByteArray} {nL : Nat} {ret : Option FieldType} {d pc pn : Nat} {lv : List (Nat × mb_AV)} {st : List mb_AV} {h : mb_AH} {res : mb_RS} {a b : Nat} {x : Int32} {K : mb_AH → Option mb_RS} (dg : decode cc pc = .ok (.putfield 27, 3)) (hn : pc + 3 = pn) (hr : mb_up (mb_sI h 4 a b 3 x) K = some res) (kk : ∀ h2, K h2 = some res → mb_Ev l G RX4 cc nL ret d pn lv st h2 res) : mb_Ev l G RX4 cc nL ret d pc lv (.inl x :: mb_F 4 a b :: st) h res := mb_putI (ci := 4) (j := 3) (ty := .int) in_X4 tyX4 tyX4_ok nmX4 rfl (by decide) wf_X4_27 rfl rfl rfl rfl rfl (Nat.le_of_ble_eq_true rfl) rfl dg hn (kk _ hr)
theorem gf_X4_19 {l : Launch} {G : mb_G} {cc : ByteArray} {nL : Nat} {ret : Option FieldType} {d pc pn : Nat} {lv : List (Nat × mb_AV)} {st : List mb_AV} {h : mb_AH} {res : mb_RS} {a b : Nat} (dg : decode cc pc = .ok (.getfield 19, 3)) (hn : pc + 3 = pn) (kk : mb_Ev l G RX4 cc nL ret d pn lv (.inl (h.1 4 a b 2) :: st) h res) : mb_Ev l G RX4 cc nL ret d pc lv (mb_F 4 a b :: st) h res := mb_get (v := .inl (h.1 4 a b 2)) (ci := 4) (j := 2) in_X4 rfl (by decide) wf_X4_19 rfl rfl (fun _ => trivial) dg hn kk
theorem gf_X4_27 {l : Launch} {G : mb_G} {cc : ByteArray} {nL : Nat} {ret : Option FieldType} {d pc pn : Nat} {lv : List (Nat × mb_AV)} {st : List mb_AV} {h : mb_AH} {res : mb_RS} {a b : Nat} (dg : decode cc pc = .ok (.getfield 27, 3)) (hn : pc + 3 = pn) (kk : mb_Ev l G RX4 cc nL ret d pn lv (.inl (h.1 4 a b 3) :: st) h res) : mb_Ev l G RX4 cc nL ret d pc lv (mb_F 4 a b :: st) h res := mb_get (v := .inl (h.1 4 a b 3)) (ci := 4) (j := 3) in_X4 rfl (by decide) wf_X4_27 rfl rfl (fun _ => trivial) dg hn kk
theorem wf_X4_15 : Cond.fieldLink RX4 15 "MarinaBerths$WinterPlan" "holders" "[I" ∈ mb_GW := mb_tb 176 (by decide +kernel) (by decide +kernel)
theorem gf_X4_15 {l : Launch} {G : mb_G} {cc : ByteArray} {nL : Nat} {ret : Option FieldType} {d pc pn : Nat} {lv : List (Nat × mb_AV)} {st : List mb_AV} {h : mb_AH} {res : mb_RS} {a b : Nat} (dg : decode cc pc = .ok (.getfield 15, 3)) (hn : pc + 3 = pn) (kk : mb_Ev l G RX4 cc nL ret d pn lv (mb_F 15 0 0 :: st) h res) : mb_Ev l G RX4 cc nL ret d pc lv (mb_F 4 a b :: st) h res := mb_get (v := mb_F 15 0 0) (ci := 4) (j := 1) in_X4 rfl (by decide) wf_X4_15 rfl rfl (fun _ => ⟨by decide, by decide⟩) dg hn kk
theorem wl_X4_30 : Cond.methodLink RX4 30 yX4_findsBerth ∈ mb_GW := mb_tb 744 (by decide +kernel) (by decide +kernel)
theorem mt_X4_findsBerth : Cond.static yX4_findsBerth ∈ mb_GW := mb_tb 745 (by decide +kernel) (by decide +kernel)
theorem mn_X4 : Cond.initialized RX4 ∈ mb_GW := mb_tb 5 (by decide +kernel) (by decide +kernel)
theorem mc_X4_findsBerth : Cond.code yX4_findsBerth cX4_findsBerth 5 (some .boolean) ∈ mb_GW := mb_tb 746 (by decide +kernel) (by decide +kernel)
theorem wl_X4_23 : Cond.methodLink RX4 23 yX4_mostFrom ∈ mb_GW := mb_tb 740 (by decide +kernel) (by decide +kernel)
theorem mi_X4_mostFrom : Cond.instanceMethod yX4_mostFrom ∈ mb_GW := mb_tb 742 (by decide +kernel) (by decide +kernel)
theorem ms_X4_mostFrom : Cond.selects RX4 yX4_mostFrom yX4_mostFrom ∈ mb_GW := mb_tp 14 (by decide +kernel) (by decide +kernel)
theorem mc_X4_mostFrom : Cond.code yX4_mostFrom cX4_mostFrom 4 (some .int) ∈ mb_GW := mb_tb 743 (by decide +kernel) (by decide +kernel)
theorem wf_X0_7 : Cond.fieldLink RX0 7 "MarinaBerths$Berth" "depth" "I" ∈ mb_GW := mb_tb 38 (by decide +kernel) (by decide +kernel)
theorem in_X0 : ∀ w ∈ u_ws RX0 TX0 4, w ∈ mb_GW := by
  have e : u_ws RX0 TX0 4 = [Cond.lays RX0 "MarinaBerths$Berth" "depth" "I", Cond.lays RX0 "MarinaBerths$Berth" "length" "I", Cond.lays RX0 "MarinaBerths$Berth" "exposed" "Z", Cond.lays RX0 "MarinaBerths$Berth" "rate" "I"] := rfl
  rw [e]
  intro w hw
  simp only [List.mem_cons, List.not_mem_nil, or_false] at hw
  rcases hw with rfl | rfl | rfl | rfl
  · exact mb_tb 50 (by decide +kernel) (by decide +kernel)
  · exact mb_tb 52 (by decide +kernel) (by decide +kernel)
  · exact mb_tb 54 (by decide +kernel) (by decide +kernel)
  · exact mb_tb 56 (by decide +kernel) (by decide +kernel)
theorem pf_X0_7 {l : Launch} {G : mb_G} {cc : ByteArray} {nL : Nat} {ret : Option FieldType} {d pc pn : Nat} {lv : List (Nat × mb_AV)} {st : List mb_AV} {h : mb_AH} {res : mb_RS} {a b : Nat} {x : Int32} {K : mb_AH → Option mb_RS} (dg : decode cc pc = .ok (.putfield 7, 3)) (hn : pc + 3 = pn) (hr : mb_up (mb_sI h 2 a b 0 x) K = some res) (kk : ∀ h2, K h2 = some res → mb_Ev l G RX0 cc nL ret d pn lv st h2 res) : mb_Ev l G RX0 cc nL ret d pc lv (.inl x :: mb_F 2 a b :: st) h res := mb_putI (ci := 0) (j := 0) (ty := .int) in_X0 tyX0 tyX0_ok nmX0 rfl (by decide) wf_X0_7 rfl rfl rfl rfl rfl (Nat.le_of_ble_eq_true rfl) rfl dg hn (kk _ hr)
theorem wf_X0_13 : Cond.fieldLink RX0 13 "MarinaBerths$Berth" "length" "I" ∈ mb_GW := mb_tb 41 (by decide +kernel) (by decide +kernel)
theorem pf_X0_13 {l : Launch} {G : mb_G} {cc : ByteArray} {nL : Nat} {ret : Option FieldType} {d pc pn : Nat} {lv : List (Nat × mb_AV)} {st : List mb_AV} {h : mb_AH} {res : mb_RS} {a b : Nat} {x : Int32} {K : mb_AH → Option mb_RS} (dg : decode cc pc = .ok (.putfield 13, 3)) (hn : pc + 3 = pn) (hr : mb_up (mb_sI h 2 a b 1 x) K = some res) (kk : ∀ h2, K h2 = some res → mb_Ev l G RX0 cc nL ret d pn lv st h2 res) : mb_Ev l G RX0 cc nL ret d pc lv (.inl x :: mb_F 2 a b :: st) h res := mb_putI (ci := 0) (j := 1) (ty := .int) in_X0 tyX0 tyX0_ok nmX0 rfl (by decide) wf_X0_13 rfl rfl rfl rfl rfl (Nat.le_of_ble_eq_true rfl) rfl dg hn (kk _ hr)
theorem wf_X0_16 : Cond.fieldLink RX0 16 "MarinaBerths$Berth" "exposed" "Z" ∈ mb_GW := mb_tb 44 (by decide +kernel) (by decide +kernel)
theorem pf_X0_16 {l : Launch} {G : mb_G} {cc : ByteArray} {nL : Nat} {ret : Option FieldType} {d pc pn : Nat} {lv : List (Nat × mb_AV)} {st : List mb_AV} {h : mb_AH} {res : mb_RS} {a b : Nat} {x : Int32} {K : mb_AH → Option mb_RS} (dg : decode cc pc = .ok (.putfield 16, 3)) (hn : pc + 3 = pn) (hr : mb_gZ x (mb_up (mb_sI h 2 a b 2 x) K) = some res) (kk : ∀ h2, K h2 = some res → mb_Ev l G RX0 cc nL ret d pn lv st h2 res) : mb_Ev l G RX0 cc nL ret d pc lv (.inl x :: mb_F 2 a b :: st) h res := by
  unfold mb_gZ at hr
  by_cases q9 : x = 0 ∨ x = 1
  · rw [if_pos q9] at hr
    exact mb_putI (ci := 0) (j := 2) (ty := .boolean) in_X0 tyX0 tyX0_ok nmX0 rfl (by decide) wf_X0_16 rfl rfl (by rcases q9 with rfl | rfl <;> decide) (by rcases q9 with rfl | rfl <;> decide) rfl (Nat.le_of_ble_eq_true rfl) rfl dg hn (kk _ hr)
  · rw [if_neg q9] at hr; cases hr
theorem wf_X0_20 : Cond.fieldLink RX0 20 "MarinaBerths$Berth" "rate" "I" ∈ mb_GW := mb_tb 47 (by decide +kernel) (by decide +kernel)
theorem pf_X0_20 {l : Launch} {G : mb_G} {cc : ByteArray} {nL : Nat} {ret : Option FieldType} {d pc pn : Nat} {lv : List (Nat × mb_AV)} {st : List mb_AV} {h : mb_AH} {res : mb_RS} {a b : Nat} {x : Int32} {K : mb_AH → Option mb_RS} (dg : decode cc pc = .ok (.putfield 20, 3)) (hn : pc + 3 = pn) (hr : mb_up (mb_sI h 2 a b 3 x) K = some res) (kk : ∀ h2, K h2 = some res → mb_Ev l G RX0 cc nL ret d pn lv st h2 res) : mb_Ev l G RX0 cc nL ret d pc lv (.inl x :: mb_F 2 a b :: st) h res := mb_putI (ci := 0) (j := 3) (ty := .int) in_X0 tyX0 tyX0_ok nmX0 rfl (by decide) wf_X0_20 rfl rfl rfl rfl rfl (Nat.le_of_ble_eq_true rfl) rfl dg hn (kk _ hr)
theorem gf_X0_7 {l : Launch} {G : mb_G} {cc : ByteArray} {nL : Nat} {ret : Option FieldType} {d pc pn : Nat} {lv : List (Nat × mb_AV)} {st : List mb_AV} {h : mb_AH} {res : mb_RS} {a b : Nat} (dg : decode cc pc = .ok (.getfield 7, 3)) (hn : pc + 3 = pn) (kk : mb_Ev l G RX0 cc nL ret d pn lv (.inl (h.1 2 a b 0) :: st) h res) : mb_Ev l G RX0 cc nL ret d pc lv (mb_F 2 a b :: st) h res := mb_get (v := .inl (h.1 2 a b 0)) (ci := 0) (j := 0) in_X0 rfl (by decide) wf_X0_7 rfl rfl (fun _ => trivial) dg hn kk
theorem gf_X0_13 {l : Launch} {G : mb_G} {cc : ByteArray} {nL : Nat} {ret : Option FieldType} {d pc pn : Nat} {lv : List (Nat × mb_AV)} {st : List mb_AV} {h : mb_AH} {res : mb_RS} {a b : Nat} (dg : decode cc pc = .ok (.getfield 13, 3)) (hn : pc + 3 = pn) (kk : mb_Ev l G RX0 cc nL ret d pn lv (.inl (h.1 2 a b 1) :: st) h res) : mb_Ev l G RX0 cc nL ret d pc lv (mb_F 2 a b :: st) h res := mb_get (v := .inl (h.1 2 a b 1)) (ci := 0) (j := 1) in_X0 rfl (by decide) wf_X0_13 rfl rfl (fun _ => trivial) dg hn kk
theorem gf_X0_16 {l : Launch} {G : mb_G} {cc : ByteArray} {nL : Nat} {ret : Option FieldType} {d pc pn : Nat} {lv : List (Nat × mb_AV)} {st : List mb_AV} {h : mb_AH} {res : mb_RS} {a b : Nat} (dg : decode cc pc = .ok (.getfield 16, 3)) (hn : pc + 3 = pn) (kk : mb_Ev l G RX0 cc nL ret d pn lv (.inl (h.1 2 a b 2) :: st) h res) : mb_Ev l G RX0 cc nL ret d pc lv (mb_F 2 a b :: st) h res := mb_get (v := .inl (h.1 2 a b 2)) (ci := 0) (j := 2) in_X0 rfl (by decide) wf_X0_16 rfl rfl (fun _ => trivial) dg hn kk
theorem gf_X0_20 {l : Launch} {G : mb_G} {cc : ByteArray} {nL : Nat} {ret : Option FieldType} {d pc pn : Nat} {lv : List (Nat × mb_AV)} {st : List mb_AV} {h : mb_AH} {res : mb_RS} {a b : Nat} (dg : decode cc pc = .ok (.getfield 20, 3)) (hn : pc + 3 = pn) (kk : mb_Ev l G RX0 cc nL ret d pn lv (.inl (h.1 2 a b 3) :: st) h res) : mb_Ev l G RX0 cc nL ret d pc lv (mb_F 2 a b :: st) h res := mb_get (v := .inl (h.1 2 a b 3)) (ci := 0) (j := 3) in_X0 rfl (by decide) wf_X0_20 rfl rfl (fun _ => trivial) dg hn kk
theorem wl_X0_23 : Cond.methodLink RX0 23 yX0_become ∈ mb_GW := mb_tb 507 (by decide +kernel) (by decide +kernel)
theorem mi_X0_become : Cond.instanceMethod yX0_become ∈ mb_GW := mb_tb 508 (by decide +kernel) (by decide +kernel)
theorem ms_X0_become : Cond.selects RX0 yX0_become yX0_become ∈ mb_GW := mb_tb 509 (by decide +kernel) (by decide +kernel)
theorem mn_X0 : Cond.initialized RX0 ∈ mb_GW := mb_tb 3 (by decide +kernel) (by decide +kernel)
theorem mc_X0_become : Cond.code yX0_become cX0_become 5 none ∈ mb_GW := mb_tb 510 (by decide +kernel) (by decide +kernel)
theorem wf_X1_9 : Cond.fieldLink RX1 9 "MarinaBerths$Boat" "length" "I" ∈ mb_GW := mb_tb 65 (by decide +kernel) (by decide +kernel)
theorem in_X1 : ∀ w ∈ u_ws RX1 TX1 9, w ∈ mb_GW := by
  have e : u_ws RX1 TX1 9 = [Cond.lays RX1 "MarinaBerths$Boat" "length" "I", Cond.lays RX1 "MarinaBerths$Boat" "draft" "I", Cond.lays RX1 "MarinaBerths$Boat" "bonus" "I", Cond.lays RX1 "MarinaBerths$Boat" "state" "I", Cond.lays RX1 "MarinaBerths$Boat" "berth" "I", Cond.lays RX1 "MarinaBerths$Boat" "home" "I", Cond.lays RX1 "MarinaBerths$Boat" "owes" "I", Cond.lays RX1 "MarinaBerths$Boat" "waitsSince" "I", Cond.lays RX1 "MarinaBerths$Boat" "turn" "I"] := rfl
  rw [e]
  intro w hw
  simp only [List.mem_cons, List.not_mem_nil, or_false] at hw
  rcases hw with rfl | rfl | rfl | rfl | rfl | rfl | rfl | rfl | rfl
  · exact mb_tb 90 (by decide +kernel) (by decide +kernel)
  · exact mb_tb 92 (by decide +kernel) (by decide +kernel)
  · exact mb_tb 94 (by decide +kernel) (by decide +kernel)
  · exact mb_tb 96 (by decide +kernel) (by decide +kernel)
  · exact mb_tb 98 (by decide +kernel) (by decide +kernel)
  · exact mb_tb 100 (by decide +kernel) (by decide +kernel)
  · exact mb_tb 102 (by decide +kernel) (by decide +kernel)
  · exact mb_tb 104 (by decide +kernel) (by decide +kernel)
  · exact mb_tb 106 (by decide +kernel) (by decide +kernel)
theorem pf_X1_9 {l : Launch} {G : mb_G} {cc : ByteArray} {nL : Nat} {ret : Option FieldType} {d pc pn : Nat} {lv : List (Nat × mb_AV)} {st : List mb_AV} {h : mb_AH} {res : mb_RS} {a b : Nat} {x : Int32} {K : mb_AH → Option mb_RS} (dg : decode cc pc = .ok (.putfield 9, 3)) (hn : pc + 3 = pn) (hr : mb_up (mb_sI h 3 a b 0 x) K = some res) (kk : ∀ h2, K h2 = some res → mb_Ev l G RX1 cc nL ret d pn lv st h2 res) : mb_Ev l G RX1 cc nL ret d pc lv (.inl x :: mb_F 3 a b :: st) h res := mb_putI (ci := 1) (j := 0) (ty := .int) in_X1 tyX1 tyX1_ok nmX1 rfl (by decide) wf_X1_9 rfl rfl rfl rfl rfl (Nat.le_of_ble_eq_true rfl) rfl dg hn (kk _ hr)
theorem wf_X1_15 : Cond.fieldLink RX1 15 "MarinaBerths$Boat" "draft" "I" ∈ mb_GW := mb_tb 68 (by decide +kernel) (by decide +kernel)
theorem pf_X1_15 {l : Launch} {G : mb_G} {cc : ByteArray} {nL : Nat} {ret : Option FieldType} {d pc pn : Nat} {lv : List (Nat × mb_AV)} {st : List mb_AV} {h : mb_AH} {res : mb_RS} {a b : Nat} {x : Int32} {K : mb_AH → Option mb_RS} (dg : decode cc pc = .ok (.putfield 15, 3)) (hn : pc + 3 = pn) (hr : mb_up (mb_sI h 3 a b 1 x) K = some res) (kk : ∀ h2, K h2 = some res → mb_Ev l G RX1 cc nL ret d pn lv st h2 res) : mb_Ev l G RX1 cc nL ret d pc lv (.inl x :: mb_F 3 a b :: st) h res := mb_putI (ci := 1) (j := 1) (ty := .int) in_X1 tyX1 tyX1_ok nmX1 rfl (by decide) wf_X1_15 rfl rfl rfl rfl rfl (Nat.le_of_ble_eq_true rfl) rfl dg hn (kk _ hr)
theorem wf_X1_18 : Cond.fieldLink RX1 18 "MarinaBerths$Boat" "bonus" "I" ∈ mb_GW := mb_tb 71 (by decide +kernel) (by decide +kernel)
theorem pf_X1_18 {l : Launch} {G : mb_G} {cc : ByteArray} {nL : Nat} {ret : Option FieldType} {d pc pn : Nat} {lv : List (Nat × mb_AV)} {st : List mb_AV} {h : mb_AH} {res : mb_RS} {a b : Nat} {x : Int32} {K : mb_AH → Option mb_RS} (dg : decode cc pc = .ok (.putfield 18, 3)) (hn : pc + 3 = pn) (hr : mb_up (mb_sI h 3 a b 2 x) K = some res) (kk : ∀ h2, K h2 = some res → mb_Ev l G RX1 cc nL ret d pn lv st h2 res) : mb_Ev l G RX1 cc nL ret d pc lv (.inl x :: mb_F 3 a b :: st) h res := mb_putI (ci := 1) (j := 2) (ty := .int) in_X1 tyX1 tyX1_ok nmX1 rfl (by decide) wf_X1_18 rfl rfl rfl rfl rfl (Nat.le_of_ble_eq_true rfl) rfl dg hn (kk _ hr)
theorem wf_X1_21 : Cond.fieldLink RX1 21 "MarinaBerths$Boat" "owes" "I" ∈ mb_GW := mb_tb 83 (by decide +kernel) (by decide +kernel)
theorem pf_X1_21 {l : Launch} {G : mb_G} {cc : ByteArray} {nL : Nat} {ret : Option FieldType} {d pc pn : Nat} {lv : List (Nat × mb_AV)} {st : List mb_AV} {h : mb_AH} {res : mb_RS} {a b : Nat} {x : Int32} {K : mb_AH → Option mb_RS} (dg : decode cc pc = .ok (.putfield 21, 3)) (hn : pc + 3 = pn) (hr : mb_up (mb_sI h 3 a b 6 x) K = some res) (kk : ∀ h2, K h2 = some res → mb_Ev l G RX1 cc nL ret d pn lv st h2 res) : mb_Ev l G RX1 cc nL ret d pc lv (.inl x :: mb_F 3 a b :: st) h res := mb_putI (ci := 1) (j := 6) (ty := .int) in_X1 tyX1 tyX1_ok nmX1 rfl (by decide) wf_X1_21 rfl rfl rfl rfl rfl (Nat.le_of_ble_eq_true rfl) rfl dg hn (kk _ hr)
theorem wf_X1_28 : Cond.fieldLink RX1 28 "MarinaBerths$Boat" "state" "I" ∈ mb_GW := mb_tb 74 (by decide +kernel) (by decide +kernel)
theorem pf_X1_28 {l : Launch} {G : mb_G} {cc : ByteArray} {nL : Nat} {ret : Option FieldType} {d pc pn : Nat} {lv : List (Nat × mb_AV)} {st : List mb_AV} {h : mb_AH} {res : mb_RS} {a b : Nat} {x : Int32} {K : mb_AH → Option mb_RS} (dg : decode cc pc = .ok (.putfield 28, 3)) (hn : pc + 3 = pn) (hr : mb_up (mb_sI h 3 a b 3 x) K = some res) (kk : ∀ h2, K h2 = some res → mb_Ev l G RX1 cc nL ret d pn lv st h2 res) : mb_Ev l G RX1 cc nL ret d pc lv (.inl x :: mb_F 3 a b :: st) h res := mb_putI (ci := 1) (j := 3) (ty := .int) in_X1 tyX1 tyX1_ok nmX1 rfl (by decide) wf_X1_28 rfl rfl rfl rfl rfl (Nat.le_of_ble_eq_true rfl) rfl dg hn (kk _ hr)
theorem wf_X1_31 : Cond.fieldLink RX1 31 "MarinaBerths$Boat" "berth" "I" ∈ mb_GW := mb_tb 77 (by decide +kernel) (by decide +kernel)
theorem pf_X1_31 {l : Launch} {G : mb_G} {cc : ByteArray} {nL : Nat} {ret : Option FieldType} {d pc pn : Nat} {lv : List (Nat × mb_AV)} {st : List mb_AV} {h : mb_AH} {res : mb_RS} {a b : Nat} {x : Int32} {K : mb_AH → Option mb_RS} (dg : decode cc pc = .ok (.putfield 31, 3)) (hn : pc + 3 = pn) (hr : mb_up (mb_sI h 3 a b 4 x) K = some res) (kk : ∀ h2, K h2 = some res → mb_Ev l G RX1 cc nL ret d pn lv st h2 res) : mb_Ev l G RX1 cc nL ret d pc lv (.inl x :: mb_F 3 a b :: st) h res := mb_putI (ci := 1) (j := 4) (ty := .int) in_X1 tyX1 tyX1_ok nmX1 rfl (by decide) wf_X1_31 rfl rfl rfl rfl rfl (Nat.le_of_ble_eq_true rfl) rfl dg hn (kk _ hr)
theorem wl_X1_43 : Cond.methodLink RX1 43 yX1_move ∈ mb_GW := mb_tb 577 (by decide +kernel) (by decide +kernel)
theorem mi_X1_move : Cond.instanceMethod yX1_move ∈ mb_GW := mb_tb 578 (by decide +kernel) (by decide +kernel)
theorem ms_X1_move : Cond.selects RX1 yX1_move yX1_move ∈ mb_GW := mb_tb 579 (by decide +kernel) (by decide +kernel)
theorem mn_X1 : Cond.initialized RX1 ∈ mb_GW := mb_tb 4 (by decide +kernel) (by decide +kernel)
theorem mc_X1_move : Cond.code yX1_move cX1_move 3 none ∈ mb_GW := mb_tb 580 (by decide +kernel) (by decide +kernel)
theorem wf_X1_34 : Cond.fieldLink RX1 34 "MarinaBerths$Boat" "home" "I" ∈ mb_GW := mb_tb 80 (by decide +kernel) (by decide +kernel)
theorem pf_X1_34 {l : Launch} {G : mb_G} {cc : ByteArray} {nL : Nat} {ret : Option FieldType} {d pc pn : Nat} {lv : List (Nat × mb_AV)} {st : List mb_AV} {h : mb_AH} {res : mb_RS} {a b : Nat} {x : Int32} {K : mb_AH → Option mb_RS} (dg : decode cc pc = .ok (.putfield 34, 3)) (hn : pc + 3 = pn) (hr : mb_up (mb_sI h 3 a b 5 x) K = some res) (kk : ∀ h2, K h2 = some res → mb_Ev l G RX1 cc nL ret d pn lv st h2 res) : mb_Ev l G RX1 cc nL ret d pc lv (.inl x :: mb_F 3 a b :: st) h res := mb_putI (ci := 1) (j := 5) (ty := .int) in_X1 tyX1 tyX1_ok nmX1 rfl (by decide) wf_X1_34 rfl rfl rfl rfl rfl (Nat.le_of_ble_eq_true rfl) rfl dg hn (kk _ hr)
theorem wl_X1_24 : Cond.methodLink RX1 24 yX1_moveForGood ∈ mb_GW := mb_tb 573 (by decide +kernel) (by decide +kernel)
theorem mi_X1_moveForGood : Cond.instanceMethod yX1_moveForGood ∈ mb_GW := mb_tb 574 (by decide +kernel) (by decide +kernel)
theorem ms_X1_moveForGood : Cond.selects RX1 yX1_moveForGood yX1_moveForGood ∈ mb_GW := mb_tb 575 (by decide +kernel) (by decide +kernel)
theorem mc_X1_moveForGood : Cond.code yX1_moveForGood cX1_moveForGood 3 none ∈ mb_GW := mb_tb 576 (by decide +kernel) (by decide +kernel)
theorem gf_X1_9 {l : Launch} {G : mb_G} {cc : ByteArray} {nL : Nat} {ret : Option FieldType} {d pc pn : Nat} {lv : List (Nat × mb_AV)} {st : List mb_AV} {h : mb_AH} {res : mb_RS} {a b : Nat} (dg : decode cc pc = .ok (.getfield 9, 3)) (hn : pc + 3 = pn) (kk : mb_Ev l G RX1 cc nL ret d pn lv (.inl (h.1 3 a b 0) :: st) h res) : mb_Ev l G RX1 cc nL ret d pc lv (mb_F 3 a b :: st) h res := mb_get (v := .inl (h.1 3 a b 0)) (ci := 1) (j := 0) in_X1 rfl (by decide) wf_X1_9 rfl rfl (fun _ => trivial) dg hn kk
theorem gf_X1_15 {l : Launch} {G : mb_G} {cc : ByteArray} {nL : Nat} {ret : Option FieldType} {d pc pn : Nat} {lv : List (Nat × mb_AV)} {st : List mb_AV} {h : mb_AH} {res : mb_RS} {a b : Nat} (dg : decode cc pc = .ok (.getfield 15, 3)) (hn : pc + 3 = pn) (kk : mb_Ev l G RX1 cc nL ret d pn lv (.inl (h.1 3 a b 1) :: st) h res) : mb_Ev l G RX1 cc nL ret d pc lv (mb_F 3 a b :: st) h res := mb_get (v := .inl (h.1 3 a b 1)) (ci := 1) (j := 1) in_X1 rfl (by decide) wf_X1_15 rfl rfl (fun _ => trivial) dg hn kk
theorem gf_X1_18 {l : Launch} {G : mb_G} {cc : ByteArray} {nL : Nat} {ret : Option FieldType} {d pc pn : Nat} {lv : List (Nat × mb_AV)} {st : List mb_AV} {h : mb_AH} {res : mb_RS} {a b : Nat} (dg : decode cc pc = .ok (.getfield 18, 3)) (hn : pc + 3 = pn) (kk : mb_Ev l G RX1 cc nL ret d pn lv (.inl (h.1 3 a b 2) :: st) h res) : mb_Ev l G RX1 cc nL ret d pc lv (mb_F 3 a b :: st) h res := mb_get (v := .inl (h.1 3 a b 2)) (ci := 1) (j := 2) in_X1 rfl (by decide) wf_X1_18 rfl rfl (fun _ => trivial) dg hn kk
theorem gf_X1_28 {l : Launch} {G : mb_G} {cc : ByteArray} {nL : Nat} {ret : Option FieldType} {d pc pn : Nat} {lv : List (Nat × mb_AV)} {st : List mb_AV} {h : mb_AH} {res : mb_RS} {a b : Nat} (dg : decode cc pc = .ok (.getfield 28, 3)) (hn : pc + 3 = pn) (kk : mb_Ev l G RX1 cc nL ret d pn lv (.inl (h.1 3 a b 3) :: st) h res) : mb_Ev l G RX1 cc nL ret d pc lv (mb_F 3 a b :: st) h res := mb_get (v := .inl (h.1 3 a b 3)) (ci := 1) (j := 3) in_X1 rfl (by decide) wf_X1_28 rfl rfl (fun _ => trivial) dg hn kk
theorem gf_X1_31 {l : Launch} {G : mb_G} {cc : ByteArray} {nL : Nat} {ret : Option FieldType} {d pc pn : Nat} {lv : List (Nat × mb_AV)} {st : List mb_AV} {h : mb_AH} {res : mb_RS} {a b : Nat} (dg : decode cc pc = .ok (.getfield 31, 3)) (hn : pc + 3 = pn) (kk : mb_Ev l G RX1 cc nL ret d pn lv (.inl (h.1 3 a b 4) :: st) h res) : mb_Ev l G RX1 cc nL ret d pc lv (mb_F 3 a b :: st) h res := mb_get (v := .inl (h.1 3 a b 4)) (ci := 1) (j := 4) in_X1 rfl (by decide) wf_X1_31 rfl rfl (fun _ => trivial) dg hn kk
theorem gf_X1_34 {l : Launch} {G : mb_G} {cc : ByteArray} {nL : Nat} {ret : Option FieldType} {d pc pn : Nat} {lv : List (Nat × mb_AV)} {st : List mb_AV} {h : mb_AH} {res : mb_RS} {a b : Nat} (dg : decode cc pc = .ok (.getfield 34, 3)) (hn : pc + 3 = pn) (kk : mb_Ev l G RX1 cc nL ret d pn lv (.inl (h.1 3 a b 5) :: st) h res) : mb_Ev l G RX1 cc nL ret d pc lv (mb_F 3 a b :: st) h res := mb_get (v := .inl (h.1 3 a b 5)) (ci := 1) (j := 5) in_X1 rfl (by decide) wf_X1_34 rfl rfl (fun _ => trivial) dg hn kk
theorem gf_X1_21 {l : Launch} {G : mb_G} {cc : ByteArray} {nL : Nat} {ret : Option FieldType} {d pc pn : Nat} {lv : List (Nat × mb_AV)} {st : List mb_AV} {h : mb_AH} {res : mb_RS} {a b : Nat} (dg : decode cc pc = .ok (.getfield 21, 3)) (hn : pc + 3 = pn) (kk : mb_Ev l G RX1 cc nL ret d pn lv (.inl (h.1 3 a b 6) :: st) h res) : mb_Ev l G RX1 cc nL ret d pc lv (mb_F 3 a b :: st) h res := mb_get (v := .inl (h.1 3 a b 6)) (ci := 1) (j := 6) in_X1 rfl (by decide) wf_X1_21 rfl rfl (fun _ => trivial) dg hn kk
theorem wf_X1_37 : Cond.fieldLink RX1 37 "MarinaBerths$Boat" "waitsSince" "I" ∈ mb_GW := mb_tb 86 (by decide +kernel) (by decide +kernel)
theorem gf_X1_37 {l : Launch} {G : mb_G} {cc : ByteArray} {nL : Nat} {ret : Option FieldType} {d pc pn : Nat} {lv : List (Nat × mb_AV)} {st : List mb_AV} {h : mb_AH} {res : mb_RS} {a b : Nat} (dg : decode cc pc = .ok (.getfield 37, 3)) (hn : pc + 3 = pn) (kk : mb_Ev l G RX1 cc nL ret d pn lv (.inl (h.1 3 a b 7) :: st) h res) : mb_Ev l G RX1 cc nL ret d pc lv (mb_F 3 a b :: st) h res := mb_get (v := .inl (h.1 3 a b 7)) (ci := 1) (j := 7) in_X1 rfl (by decide) wf_X1_37 rfl rfl (fun _ => trivial) dg hn kk
theorem pf_X1_37 {l : Launch} {G : mb_G} {cc : ByteArray} {nL : Nat} {ret : Option FieldType} {d pc pn : Nat} {lv : List (Nat × mb_AV)} {st : List mb_AV} {h : mb_AH} {res : mb_RS} {a b : Nat} {x : Int32} {K : mb_AH → Option mb_RS} (dg : decode cc pc = .ok (.putfield 37, 3)) (hn : pc + 3 = pn) (hr : mb_up (mb_sI h 3 a b 7 x) K = some res) (kk : ∀ h2, K h2 = some res → mb_Ev l G RX1 cc nL ret d pn lv st h2 res) : mb_Ev l G RX1 cc nL ret d pc lv (.inl x :: mb_F 3 a b :: st) h res := mb_putI (ci := 1) (j := 7) (ty := .int) in_X1 tyX1 tyX1_ok nmX1 rfl (by decide) wf_X1_37 rfl rfl rfl rfl rfl (Nat.le_of_ble_eq_true rfl) rfl dg hn (kk _ hr)
theorem wf_X1_40 : Cond.fieldLink RX1 40 "MarinaBerths$Boat" "turn" "I" ∈ mb_GW := mb_tb 88 (by decide +kernel) (by decide +kernel)
theorem gf_X1_40 {l : Launch} {G : mb_G} {cc : ByteArray} {nL : Nat} {ret : Option FieldType} {d pc pn : Nat} {lv : List (Nat × mb_AV)} {st : List mb_AV} {h : mb_AH} {res : mb_RS} {a b : Nat} (dg : decode cc pc = .ok (.getfield 40, 3)) (hn : pc + 3 = pn) (kk : mb_Ev l G RX1 cc nL ret d pn lv (.inl (h.1 3 a b 8) :: st) h res) : mb_Ev l G RX1 cc nL ret d pc lv (mb_F 3 a b :: st) h res := mb_get (v := .inl (h.1 3 a b 8)) (ci := 1) (j := 8) in_X1 rfl (by decide) wf_X1_40 rfl rfl (fun _ => trivial) dg hn kk
theorem pf_X1_40 {l : Launch} {G : mb_G} {cc : ByteArray} {nL : Nat} {ret : Option FieldType} {d pc pn : Nat} {lv : List (Nat × mb_AV)} {st : List mb_AV} {h : mb_AH} {res : mb_RS} {a b : Nat} {x : Int32} {K : mb_AH → Option mb_RS} (dg : decode cc pc = .ok (.putfield 40, 3)) (hn : pc + 3 = pn) (hr : mb_up (mb_sI h 3 a b 8 x) K = some res) (kk : ∀ h2, K h2 = some res → mb_Ev l G RX1 cc nL ret d pn lv st h2 res) : mb_Ev l G RX1 cc nL ret d pc lv (.inl x :: mb_F 3 a b :: st) h res := mb_putI (ci := 1) (j := 8) (ty := .int) in_X1 tyX1 tyX1_ok nmX1 rfl (by decide) wf_X1_40 rfl rfl rfl rfl rfl (Nat.le_of_ble_eq_true rfl) rfl dg hn (kk _ hr)
theorem wk_X1_46 : Cond.constantLong RX1 46 (2147483647) ∈ mb_GW := mb_tb 717 (by decide +kernel) (by decide +kernel)
theorem wf_X3_9 : Cond.fieldLink RX3 9 "MarinaBerths$TableText" "signs" "[C" ∈ mb_GW := mb_tb 194 (by decide +kernel) (by decide +kernel)
theorem in_X3 : ∀ w ∈ u_ws RX3 TX3 4, w ∈ mb_GW := by
  have e : u_ws RX3 TX3 4 = [Cond.laysFinal RX3 "MarinaBerths$TableText" "signs" "[C", Cond.lays RX3 "MarinaBerths$TableText" "length" "I", Cond.laysFinal RX3 "MarinaBerths$TableText" "numbers" "[I", Cond.lays RX3 "MarinaBerths$TableText" "count" "I"] := rfl
  rw [e]
  intro w hw
  simp only [List.mem_cons, List.not_mem_nil, or_false] at hw
  rcases hw with rfl | rfl | rfl | rfl
  · exact mb_tb 201 (by decide +kernel) (by decide +kernel)
  · exact mb_tb 203 (by decide +kernel) (by decide +kernel)
  · exact mb_tb 205 (by decide +kernel) (by decide +kernel)
  · exact mb_tb 207 (by decide +kernel) (by decide +kernel)
theorem gf_X3_9 {l : Launch} {G : mb_G} {cc : ByteArray} {nL : Nat} {ret : Option FieldType} {d pc pn : Nat} {lv : List (Nat × mb_AV)} {st : List mb_AV} {h : mb_AH} {res : mb_RS} {a b : Nat} (dg : decode cc pc = .ok (.getfield 9, 3)) (hn : pc + 3 = pn) (kk : mb_Ev l G RX3 cc nL ret d pn lv (mb_F 16 0 0 :: st) h res) : mb_Ev l G RX3 cc nL ret d pc lv (mb_F 5 a b :: st) h res := mb_get (v := mb_F 16 0 0) (ci := 3) (j := 0) in_X3 rfl (by decide) wf_X3_9 rfl rfl (fun _ => ⟨by decide, by decide⟩) dg hn kk
theorem wf_X3_19 : Cond.fieldLink RX3 19 "MarinaBerths$TableText" "length" "I" ∈ mb_GW := mb_tb 195 (by decide +kernel) (by decide +kernel)
theorem gf_X3_19 {l : Launch} {G : mb_G} {cc : ByteArray} {nL : Nat} {ret : Option FieldType} {d pc pn : Nat} {lv : List (Nat × mb_AV)} {st : List mb_AV} {h : mb_AH} {res : mb_RS} {a b : Nat} (dg : decode cc pc = .ok (.getfield 19, 3)) (hn : pc + 3 = pn) (kk : mb_Ev l G RX3 cc nL ret d pn lv (.inl (h.1 5 a b 1) :: st) h res) : mb_Ev l G RX3 cc nL ret d pc lv (mb_F 5 a b :: st) h res := mb_get (v := .inl (h.1 5 a b 1)) (ci := 3) (j := 1) in_X3 rfl (by decide) wf_X3_19 rfl rfl (fun _ => trivial) dg hn kk
theorem pf_X3_19 {l : Launch} {G : mb_G} {cc : ByteArray} {nL : Nat} {ret : Option FieldType} {d pc pn : Nat} {lv : List (Nat × mb_AV)} {st : List mb_AV} {h : mb_AH} {res : mb_RS} {a b : Nat} {x : Int32} {K : mb_AH → Option mb_RS} (dg : decode cc pc = .ok (.putfield 19, 3)) (hn : pc + 3 = pn) (hr : mb_up (mb_sI h 5 a b 1 x) K = some res) (kk : ∀ h2, K h2 = some res → mb_Ev l G RX3 cc nL ret d pn lv st h2 res) : mb_Ev l G RX3 cc nL ret d pc lv (.inl x :: mb_F 5 a b :: st) h res := mb_putI (ci := 3) (j := 1) (ty := .int) in_X3 tyX3 tyX3_ok nmX3 rfl (by decide) wf_X3_19 rfl rfl rfl rfl rfl (Nat.le_of_ble_eq_true rfl) rfl dg hn (kk _ hr)
theorem wf_X3_23 : Cond.fieldLink RX3 23 "MarinaBerths$TableText" "count" "I" ∈ mb_GW := mb_tb 200 (by decide +kernel) (by decide +kernel)
theorem pf_X3_23 {l : Launch} {G : mb_G} {cc : ByteArray} {nL : Nat} {ret : Option FieldType} {d pc pn : Nat} {lv : List (Nat × mb_AV)} {st : List mb_AV} {h : mb_AH} {res : mb_RS} {a b : Nat} {x : Int32} {K : mb_AH → Option mb_RS} (dg : decode cc pc = .ok (.putfield 23, 3)) (hn : pc + 3 = pn) (hr : mb_up (mb_sI h 5 a b 3 x) K = some res) (kk : ∀ h2, K h2 = some res → mb_Ev l G RX3 cc nL ret d pn lv st h2 res) : mb_Ev l G RX3 cc nL ret d pc lv (.inl x :: mb_F 5 a b :: st) h res := mb_putI (ci := 3) (j := 3) (ty := .int) in_X3 tyX3 tyX3_ok nmX3 rfl (by decide) wf_X3_23 rfl rfl rfl rfl rfl (Nat.le_of_ble_eq_true rfl) rfl dg hn (kk _ hr)
theorem gf_X3_23 {l : Launch} {G : mb_G} {cc : ByteArray} {nL : Nat} {ret : Option FieldType} {d pc pn : Nat} {lv : List (Nat × mb_AV)} {st : List mb_AV} {h : mb_AH} {res : mb_RS} {a b : Nat} (dg : decode cc pc = .ok (.getfield 23, 3)) (hn : pc + 3 = pn) (kk : mb_Ev l G RX3 cc nL ret d pn lv (.inl (h.1 5 a b 3) :: st) h res) : mb_Ev l G RX3 cc nL ret d pc lv (mb_F 5 a b :: st) h res := mb_get (v := .inl (h.1 5 a b 3)) (ci := 3) (j := 3) in_X3 rfl (by decide) wf_X3_23 rfl rfl (fun _ => trivial) dg hn kk
theorem wl_X3_26 : Cond.methodLink RX3 26 yX3_isAt ∈ mb_GW := mb_tb 289 (by decide +kernel) (by decide +kernel)
theorem mi_X3_isAt : Cond.instanceMethod yX3_isAt ∈ mb_GW := mb_tb 291 (by decide +kernel) (by decide +kernel)
theorem ms_X3_isAt : Cond.selects RX3 yX3_isAt yX3_isAt ∈ mb_GW := mb_tp 0 (by decide +kernel) (by decide +kernel)
theorem mn_X3 : Cond.initialized RX3 ∈ mb_GW := mb_tb 6 (by decide +kernel) (by decide +kernel)
theorem mc_X3_isAt : Cond.code yX3_isAt cX3_isAt 3 (some .boolean) ∈ mb_GW := mb_tb 292 (by decide +kernel) (by decide +kernel)
theorem wl_X3_30 : Cond.methodLink RX3 30 yX3_endOfDigits ∈ mb_GW := mb_tb 293 (by decide +kernel) (by decide +kernel)
theorem mi_X3_endOfDigits : Cond.instanceMethod yX3_endOfDigits ∈ mb_GW := mb_tb 295 (by decide +kernel) (by decide +kernel)
theorem ms_X3_endOfDigits : Cond.selects RX3 yX3_endOfDigits yX3_endOfDigits ∈ mb_GW := mb_tp 1 (by decide +kernel) (by decide +kernel)
theorem mc_X3_endOfDigits : Cond.code yX3_endOfDigits cX3_endOfDigits 3 (some .int) ∈ mb_GW := mb_tb 296 (by decide +kernel) (by decide +kernel)
theorem wl_X3_34 : Cond.methodLink RX3 34 yX3_valueOf ∈ mb_GW := mb_tb 297 (by decide +kernel) (by decide +kernel)
theorem mi_X3_valueOf : Cond.instanceMethod yX3_valueOf ∈ mb_GW := mb_tb 299 (by decide +kernel) (by decide +kernel)
theorem ms_X3_valueOf : Cond.selects RX3 yX3_valueOf yX3_valueOf ∈ mb_GW := mb_tp 2 (by decide +kernel) (by decide +kernel)
theorem mc_X3_valueOf : Cond.code yX3_valueOf cX3_valueOf 5 (some .int) ∈ mb_GW := mb_tb 300 (by decide +kernel) (by decide +kernel)
theorem wf_X3_15 : Cond.fieldLink RX3 15 "MarinaBerths$TableText" "numbers" "[I" ∈ mb_GW := mb_tb 197 (by decide +kernel) (by decide +kernel)
theorem gf_X3_15 {l : Launch} {G : mb_G} {cc : ByteArray} {nL : Nat} {ret : Option FieldType} {d pc pn : Nat} {lv : List (Nat × mb_AV)} {st : List mb_AV} {h : mb_AH} {res : mb_RS} {a b : Nat} (dg : decode cc pc = .ok (.getfield 15, 3)) (hn : pc + 3 = pn) (kk : mb_Ev l G RX3 cc nL ret d pn lv (mb_F 17 0 0 :: st) h res) : mb_Ev l G RX3 cc nL ret d pc lv (mb_F 5 a b :: st) h res := mb_get (v := mb_F 17 0 0) (ci := 3) (j := 2) in_X3 rfl (by decide) wf_X3_15 rfl rfl (fun _ => ⟨by decide, by decide⟩) dg hn kk
theorem wf_X2_42 : Cond.fieldLink RX2 42 "MarinaBerths$Marina" "berthCount" "I" ∈ mb_GW := mb_tb 111 (by decide +kernel) (by decide +kernel)
theorem in_X2 : ∀ w ∈ u_ws RX2 TX2 15, w ∈ mb_GW := by
  have e : u_ws RX2 TX2 15 = [Cond.laysFinal RX2 "MarinaBerths$Marina" "berths" "[LMarinaBerths$Berth;", Cond.lays RX2 "MarinaBerths$Marina" "berthCount" "I", Cond.laysFinal RX2 "MarinaBerths$Marina" "boats" "[LMarinaBerths$Boat;", Cond.lays RX2 "MarinaBerths$Marina" "boatCount" "I", Cond.laysFinal RX2 "MarinaBerths$Marina" "lows" "[I", Cond.lays RX2 "MarinaBerths$Marina" "lowCount" "I", Cond.lays RX2 "MarinaBerths$Marina" "lowest" "I", Cond.lays RX2 "MarinaBerths$Marina" "clearance" "I", Cond.lays RX2 "MarinaBerths$Marina" "rateAshore" "I", Cond.lays RX2 "MarinaBerths$Marina" "firstOfWinter" "I", Cond.lays RX2 "MarinaBerths$Marina" "firstOfSpring" "I", Cond.lays RX2 "MarinaBerths$Marina" "day" "I", Cond.lays RX2 "MarinaBerths$Marina" "winter" "Z", Cond.lays RX2 "MarinaBerths$Marina" "paidInAll" "J", Cond.lays RX2 "MarinaBerths$Marina" "turns" "I"] := rfl
  rw [e]
  intro w hw
  simp only [List.mem_cons, List.not_mem_nil, or_false] at hw
  rcases hw with rfl | rfl | rfl | rfl | rfl | rfl | rfl | rfl | rfl | rfl | rfl | rfl | rfl | rfl | rfl
  · exact mb_tb 137 (by decide +kernel) (by decide +kernel)
  · exact mb_tb 139 (by decide +kernel) (by decide +kernel)
  · exact mb_tb 141 (by decide +kernel) (by decide +kernel)
  · exact mb_tb 143 (by decide +kernel) (by decide +kernel)
  · exact mb_tb 145 (by decide +kernel) (by decide +kernel)
  · exact mb_tb 147 (by decide +kernel) (by decide +kernel)
  · exact mb_tb 149 (by decide +kernel) (by decide +kernel)
  · exact mb_tb 151 (by decide +kernel) (by decide +kernel)
  · exact mb_tb 153 (by decide +kernel) (by decide +kernel)
  · exact mb_tb 155 (by decide +kernel) (by decide +kernel)
  · exact mb_tb 157 (by decide +kernel) (by decide +kernel)
  · exact mb_tb 159 (by decide +kernel) (by decide +kernel)
  · exact mb_tb 161 (by decide +kernel) (by decide +kernel)
  · exact mb_tb 163 (by decide +kernel) (by decide +kernel)
  · exact mb_tb 165 (by decide +kernel) (by decide +kernel)
theorem gf_X2_42 {l : Launch} {G : mb_G} {cc : ByteArray} {nL : Nat} {ret : Option FieldType} {d pc pn : Nat} {lv : List (Nat × mb_AV)} {st : List mb_AV} {h : mb_AH} {res : mb_RS} {a b : Nat} (dg : decode cc pc = .ok (.getfield 42, 3)) (hn : pc + 3 = pn) (kk : mb_Ev l G RX2 cc nL ret d pn lv (.inl (h.1 1 a b 1) :: st) h res) : mb_Ev l G RX2 cc nL ret d pc lv (mb_F 1 a b :: st) h res := mb_get (v := .inl (h.1 1 a b 1)) (ci := 2) (j := 1) in_X2 rfl (by decide) wf_X2_42 rfl rfl (fun _ => trivial) dg hn kk
theorem pf_X2_42 {l : Launch} {G : mb_G} {cc : ByteArray} {nL : Nat} {ret : Option FieldType} {d pc pn : Nat} {lv : List (Nat × mb_AV)} {st : List mb_AV} {h : mb_AH} {res : mb_RS} {a b : Nat} {x : Int32} {K : mb_AH → Option mb_RS} (dg : decode cc pc = .ok (.putfield 42, 3)) (hn : pc + 3 = pn) (hr : mb_up (mb_sI h 1 a b 1 x) K = some res) (kk : ∀ h2, K h2 = some res → mb_Ev l G RX2 cc nL ret d pn lv st h2 res) : mb_Ev l G RX2 cc nL ret d pc lv (.inl x :: mb_F 1 a b :: st) h res := mb_putI (ci := 2) (j := 1) (ty := .int) in_X2 tyX2 tyX2_ok nmX2 rfl (by decide) wf_X2_42 rfl rfl rfl rfl rfl (Nat.le_of_ble_eq_true rfl) rfl dg hn (kk _ hr)
theorem wf_X2_49 : Cond.fieldLink RX2 49 "MarinaBerths$Marina" "boatCount" "I" ∈ mb_GW := mb_tb 115 (by decide +kernel) (by decide +kernel)
theorem gf_X2_49 {l : Launch} {G : mb_G} {cc : ByteArray} {nL : Nat} {ret : Option FieldType} {d pc pn : Nat} {lv : List (Nat × mb_AV)} {st : List mb_AV} {h : mb_AH} {res : mb_RS} {a b : Nat} (dg : decode cc pc = .ok (.getfield 49, 3)) (hn : pc + 3 = pn) (kk : mb_Ev l G RX2 cc nL ret d pn lv (.inl (h.1 1 a b 3) :: st) h res) : mb_Ev l G RX2 cc nL ret d pc lv (mb_F 1 a b :: st) h res := mb_get (v := .inl (h.1 1 a b 3)) (ci := 2) (j := 3) in_X2 rfl (by decide) wf_X2_49 rfl rfl (fun _ => trivial) dg hn kk
theorem pf_X2_49 {l : Launch} {G : mb_G} {cc : ByteArray} {nL : Nat} {ret : Option FieldType} {d pc pn : Nat} {lv : List (Nat × mb_AV)} {st : List mb_AV} {h : mb_AH} {res : mb_RS} {a b : Nat} {x : Int32} {K : mb_AH → Option mb_RS} (dg : decode cc pc = .ok (.putfield 49, 3)) (hn : pc + 3 = pn) (hr : mb_up (mb_sI h 1 a b 3 x) K = some res) (kk : ∀ h2, K h2 = some res → mb_Ev l G RX2 cc nL ret d pn lv st h2 res) : mb_Ev l G RX2 cc nL ret d pc lv (.inl x :: mb_F 1 a b :: st) h res := mb_putI (ci := 2) (j := 3) (ty := .int) in_X2 tyX2 tyX2_ok nmX2 rfl (by decide) wf_X2_49 rfl rfl rfl rfl rfl (Nat.le_of_ble_eq_true rfl) rfl dg hn (kk _ hr)
theorem wf_X2_27 : Cond.fieldLink RX2 27 "MarinaBerths$Marina" "lowCount" "I" ∈ mb_GW := mb_tb 118 (by decide +kernel) (by decide +kernel)
theorem gf_X2_27 {l : Launch} {G : mb_G} {cc : ByteArray} {nL : Nat} {ret : Option FieldType} {d pc pn : Nat} {lv : List (Nat × mb_AV)} {st : List mb_AV} {h : mb_AH} {res : mb_RS} {a b : Nat} (dg : decode cc pc = .ok (.getfield 27, 3)) (hn : pc + 3 = pn) (kk : mb_Ev l G RX2 cc nL ret d pn lv (.inl (h.1 1 a b 5) :: st) h res) : mb_Ev l G RX2 cc nL ret d pc lv (mb_F 1 a b :: st) h res := mb_get (v := .inl (h.1 1 a b 5)) (ci := 2) (j := 5) in_X2 rfl (by decide) wf_X2_27 rfl rfl (fun _ => trivial) dg hn kk
theorem pf_X2_27 {l : Launch} {G : mb_G} {cc : ByteArray} {nL : Nat} {ret : Option FieldType} {d pc pn : Nat} {lv : List (Nat × mb_AV)} {st : List mb_AV} {h : mb_AH} {res : mb_RS} {a b : Nat} {x : Int32} {K : mb_AH → Option mb_RS} (dg : decode cc pc = .ok (.putfield 27, 3)) (hn : pc + 3 = pn) (hr : mb_up (mb_sI h 1 a b 5 x) K = some res) (kk : ∀ h2, K h2 = some res → mb_Ev l G RX2 cc nL ret d pn lv st h2 res) : mb_Ev l G RX2 cc nL ret d pc lv (.inl x :: mb_F 1 a b :: st) h res := mb_putI (ci := 2) (j := 5) (ty := .int) in_X2 tyX2 tyX2_ok nmX2 rfl (by decide) wf_X2_27 rfl rfl rfl rfl rfl (Nat.le_of_ble_eq_true rfl) rfl dg hn (kk _ hr)
theorem wf_X2_55 : Cond.fieldLink RX2 55 "MarinaBerths$Marina" "lowest" "I" ∈ mb_GW := mb_tb 120 (by decide +kernel) (by decide +kernel)
theorem gf_X2_55 {l : Launch} {G : mb_G} {cc : ByteArray} {nL : Nat} {ret : Option FieldType} {d pc pn : Nat} {lv : List (Nat × mb_AV)} {st : List mb_AV} {h : mb_AH} {res : mb_RS} {a b : Nat} (dg : decode cc pc = .ok (.getfield 55, 3)) (hn : pc + 3 = pn) (kk : mb_Ev l G RX2 cc nL ret d pn lv (.inl (h.1 1 a b 6) :: st) h res) : mb_Ev l G RX2 cc nL ret d pc lv (mb_F 1 a b :: st) h res := mb_get (v := .inl (h.1 1 a b 6)) (ci := 2) (j := 6) in_X2 rfl (by decide) wf_X2_55 rfl rfl (fun _ => trivial) dg hn kk
theorem pf_X2_55 {l : Launch} {G : mb_G} {cc : ByteArray} {nL : Nat} {ret : Option FieldType} {d pc pn : Nat} {lv : List (Nat × mb_AV)} {st : List mb_AV} {h : mb_AH} {res : mb_RS} {a b : Nat} {x : Int32} {K : mb_AH → Option mb_RS} (dg : decode cc pc = .ok (.putfield 55, 3)) (hn : pc + 3 = pn) (hr : mb_up (mb_sI h 1 a b 6 x) K = some res) (kk : ∀ h2, K h2 = some res → mb_Ev l G RX2 cc nL ret d pn lv st h2 res) : mb_Ev l G RX2 cc nL ret d pc lv (.inl x :: mb_F 1 a b :: st) h res := mb_putI (ci := 2) (j := 6) (ty := .int) in_X2 tyX2 tyX2_ok nmX2 rfl (by decide) wf_X2_55 rfl rfl rfl rfl rfl (Nat.le_of_ble_eq_true rfl) rfl dg hn (kk _ hr)
theorem wf_X2_31 : Cond.fieldLink RX2 31 "MarinaBerths$Marina" "clearance" "I" ∈ mb_GW := mb_tb 122 (by decide +kernel) (by decide +kernel)
theorem gf_X2_31 {l : Launch} {G : mb_G} {cc : ByteArray} {nL : Nat} {ret : Option FieldType} {d pc pn : Nat} {lv : List (Nat × mb_AV)} {st : List mb_AV} {h : mb_AH} {res : mb_RS} {a b : Nat} (dg : decode cc pc = .ok (.getfield 31, 3)) (hn : pc + 3 = pn) (kk : mb_Ev l G RX2 cc nL ret d pn lv (.inl (h.1 1 a b 7) :: st) h res) : mb_Ev l G RX2 cc nL ret d pc lv (mb_F 1 a b :: st) h res := mb_get (v := .inl (h.1 1 a b 7)) (ci := 2) (j := 7) in_X2 rfl (by decide) wf_X2_31 rfl rfl (fun _ => trivial) dg hn kk
theorem pf_X2_31 {l : Launch} {G : mb_G} {cc : ByteArray} {nL : Nat} {ret : Option FieldType} {d pc pn : Nat} {lv : List (Nat × mb_AV)} {st : List mb_AV} {h : mb_AH} {res : mb_RS} {a b : Nat} {x : Int32} {K : mb_AH → Option mb_RS} (dg : decode cc pc = .ok (.putfield 31, 3)) (hn : pc + 3 = pn) (hr : mb_up (mb_sI h 1 a b 7 x) K = some res) (kk : ∀ h2, K h2 = some res → mb_Ev l G RX2 cc nL ret d pn lv st h2 res) : mb_Ev l G RX2 cc nL ret d pc lv (.inl x :: mb_F 1 a b :: st) h res := mb_putI (ci := 2) (j := 7) (ty := .int) in_X2 tyX2 tyX2_ok nmX2 rfl (by decide) wf_X2_31 rfl rfl rfl rfl rfl (Nat.le_of_ble_eq_true rfl) rfl dg hn (kk _ hr)
theorem wf_X2_58 : Cond.fieldLink RX2 58 "MarinaBerths$Marina" "rateAshore" "I" ∈ mb_GW := mb_tb 124 (by decide +kernel) (by decide +kernel)
theorem gf_X2_58 {l : Launch} {G : mb_G} {cc : ByteArray} {nL : Nat} {ret : Option FieldType} {d pc pn : Nat} {lv : List (Nat × mb_AV)} {st : List mb_AV} {h : mb_AH} {res : mb_RS} {a b : Nat} (dg : decode cc pc = .ok (.getfield 58, 3)) (hn : pc + 3 = pn) (kk : mb_Ev l G RX2 cc nL ret d pn lv (.inl (h.1 1 a b 8) :: st) h res) : mb_Ev l G RX2 cc nL ret d pc lv (mb_F 1 a b :: st) h res := mb_get (v := .inl (h.1 1 a b 8)) (ci := 2) (j := 8) in_X2 rfl (by decide) wf_X2_58 rfl rfl (fun _ => trivial) dg hn kk
theorem pf_X2_58 {l : Launch} {G : mb_G} {cc : ByteArray} {nL : Nat} {ret : Option FieldType} {d pc pn : Nat} {lv : List (Nat × mb_AV)} {st : List mb_AV} {h : mb_AH} {res : mb_RS} {a b : Nat} {x : Int32} {K : mb_AH → Option mb_RS} (dg : decode cc pc = .ok (.putfield 58, 3)) (hn : pc + 3 = pn) (hr : mb_up (mb_sI h 1 a b 8 x) K = some res) (kk : ∀ h2, K h2 = some res → mb_Ev l G RX2 cc nL ret d pn lv st h2 res) : mb_Ev l G RX2 cc nL ret d pc lv (.inl x :: mb_F 1 a b :: st) h res := mb_putI (ci := 2) (j := 8) (ty := .int) in_X2 tyX2 tyX2_ok nmX2 rfl (by decide) wf_X2_58 rfl rfl rfl rfl rfl (Nat.le_of_ble_eq_true rfl) rfl dg hn (kk _ hr)
theorem wf_X2_34 : Cond.fieldLink RX2 34 "MarinaBerths$Marina" "firstOfWinter" "I" ∈ mb_GW := mb_tb 126 (by decide +kernel) (by decide +kernel)
theorem gf_X2_34 {l : Launch} {G : mb_G} {cc : ByteArray} {nL : Nat} {ret : Option FieldType} {d pc pn : Nat} {lv : List (Nat × mb_AV)} {st : List mb_AV} {h : mb_AH} {res : mb_RS} {a b : Nat} (dg : decode cc pc = .ok (.getfield 34, 3)) (hn : pc + 3 = pn) (kk : mb_Ev l G RX2 cc nL ret d pn lv (.inl (h.1 1 a b 9) :: st) h res) : mb_Ev l G RX2 cc nL ret d pc lv (mb_F 1 a b :: st) h res := mb_get (v := .inl (h.1 1 a b 9)) (ci := 2) (j := 9) in_X2 rfl (by decide) wf_X2_34 rfl rfl (fun _ => trivial) dg hn kk
theorem pf_X2_34 {l : Launch} {G : mb_G} {cc : ByteArray} {nL : Nat} {ret : Option FieldType} {d pc pn : Nat} {lv : List (Nat × mb_AV)} {st : List mb_AV} {h : mb_AH} {res : mb_RS} {a b : Nat} {x : Int32} {K : mb_AH → Option mb_RS} (dg : decode cc pc = .ok (.putfield 34, 3)) (hn : pc + 3 = pn) (hr : mb_up (mb_sI h 1 a b 9 x) K = some res) (kk : ∀ h2, K h2 = some res → mb_Ev l G RX2 cc nL ret d pn lv st h2 res) : mb_Ev l G RX2 cc nL ret d pc lv (.inl x :: mb_F 1 a b :: st) h res := mb_putI (ci := 2) (j := 9) (ty := .int) in_X2 tyX2 tyX2_ok nmX2 rfl (by decide) wf_X2_34 rfl rfl rfl rfl rfl (Nat.le_of_ble_eq_true rfl) rfl dg hn (kk _ hr)
theorem wf_X2_37 : Cond.fieldLink RX2 37 "MarinaBerths$Marina" "firstOfSpring" "I" ∈ mb_GW := mb_tb 128 (by decide +kernel) (by decide +kernel)
theorem gf_X2_37 {l : Launch} {G : mb_G} {cc : ByteArray} {nL : Nat} {ret : Option FieldType} {d pc pn : Nat} {lv : List (Nat × mb_AV)} {st : List mb_AV} {h : mb_AH} {res : mb_RS} {a b : Nat} (dg : decode cc pc = .ok (.getfield 37, 3)) (hn : pc + 3 = pn) (kk : mb_Ev l G RX2 cc nL ret d pn lv (.inl (h.1 1 a b 10) :: st) h res) : mb_Ev l G RX2 cc nL ret d pc lv (mb_F 1 a b :: st) h res := mb_get (v := .inl (h.1 1 a b 10)) (ci := 2) (j := 10) in_X2 rfl (by decide) wf_X2_37 rfl rfl (fun _ => trivial) dg hn kk
theorem pf_X2_37 {l : Launch} {G : mb_G} {cc : ByteArray} {nL : Nat} {ret : Option FieldType} {d pc pn : Nat} {lv : List (Nat × mb_AV)} {st : List mb_AV} {h : mb_AH} {res : mb_RS} {a b : Nat} {x : Int32} {K : mb_AH → Option mb_RS} (dg : decode cc pc = .ok (.putfield 37, 3)) (hn : pc + 3 = pn) (hr : mb_up (mb_sI h 1 a b 10 x) K = some res) (kk : ∀ h2, K h2 = some res → mb_Ev l G RX2 cc nL ret d pn lv st h2 res) : mb_Ev l G RX2 cc nL ret d pc lv (.inl x :: mb_F 1 a b :: st) h res := mb_putI (ci := 2) (j := 10) (ty := .int) in_X2 tyX2 tyX2_ok nmX2 rfl (by decide) wf_X2_37 rfl rfl rfl rfl rfl (Nat.le_of_ble_eq_true rfl) rfl dg hn (kk _ hr)
theorem wf_X2_61 : Cond.fieldLink RX2 61 "MarinaBerths$Marina" "day" "I" ∈ mb_GW := mb_tb 130 (by decide +kernel) (by decide +kernel)
theorem gf_X2_61 {l : Launch} {G : mb_G} {cc : ByteArray} {nL : Nat} {ret : Option FieldType} {d pc pn : Nat} {lv : List (Nat × mb_AV)} {st : List mb_AV} {h : mb_AH} {res : mb_RS} {a b : Nat} (dg : decode cc pc = .ok (.getfield 61, 3)) (hn : pc + 3 = pn) (kk : mb_Ev l G RX2 cc nL ret d pn lv (.inl (h.1 1 a b 11) :: st) h res) : mb_Ev l G RX2 cc nL ret d pc lv (mb_F 1 a b :: st) h res := mb_get (v := .inl (h.1 1 a b 11)) (ci := 2) (j := 11) in_X2 rfl (by decide) wf_X2_61 rfl rfl (fun _ => trivial) dg hn kk
theorem pf_X2_61 {l : Launch} {G : mb_G} {cc : ByteArray} {nL : Nat} {ret : Option FieldType} {d pc pn : Nat} {lv : List (Nat × mb_AV)} {st : List mb_AV} {h : mb_AH} {res : mb_RS} {a b : Nat} {x : Int32} {K : mb_AH → Option mb_RS} (dg : decode cc pc = .ok (.putfield 61, 3)) (hn : pc + 3 = pn) (hr : mb_up (mb_sI h 1 a b 11 x) K = some res) (kk : ∀ h2, K h2 = some res → mb_Ev l G RX2 cc nL ret d pn lv st h2 res) : mb_Ev l G RX2 cc nL ret d pc lv (.inl x :: mb_F 1 a b :: st) h res := mb_putI (ci := 2) (j := 11) (ty := .int) in_X2 tyX2 tyX2_ok nmX2 rfl (by decide) wf_X2_61 rfl rfl rfl rfl rfl (Nat.le_of_ble_eq_true rfl) rfl dg hn (kk _ hr)
theorem wf_X2_64 : Cond.fieldLink RX2 64 "MarinaBerths$Marina" "winter" "Z" ∈ mb_GW := mb_tb 132 (by decide +kernel) (by decide +kernel)
theorem gf_X2_64 {l : Launch} {G : mb_G} {cc : ByteArray} {nL : Nat} {ret : Option FieldType} {d pc pn : Nat} {lv : List (Nat × mb_AV)} {st : List mb_AV} {h : mb_AH} {res : mb_RS} {a b : Nat} (dg : decode cc pc = .ok (.getfield 64, 3)) (hn : pc + 3 = pn) (kk : mb_Ev l G RX2 cc nL ret d pn lv (.inl (h.1 1 a b 12) :: st) h res) : mb_Ev l G RX2 cc nL ret d pc lv (mb_F 1 a b :: st) h res := mb_get (v := .inl (h.1 1 a b 12)) (ci := 2) (j := 12) in_X2 rfl (by decide) wf_X2_64 rfl rfl (fun _ => trivial) dg hn kk
theorem pf_X2_64 {l : Launch} {G : mb_G} {cc : ByteArray} {nL : Nat} {ret : Option FieldType} {d pc pn : Nat} {lv : List (Nat × mb_AV)} {st : List mb_AV} {h : mb_AH} {res : mb_RS} {a b : Nat} {x : Int32} {K : mb_AH → Option mb_RS} (dg : decode cc pc = .ok (.putfield 64, 3)) (hn : pc + 3 = pn) (hr : mb_gZ x (mb_up (mb_sI h 1 a b 12 x) K) = some res) (kk : ∀ h2, K h2 = some res → mb_Ev l G RX2 cc nL ret d pn lv st h2 res) : mb_Ev l G RX2 cc nL ret d pc lv (.inl x :: mb_F 1 a b :: st) h res := by
  unfold mb_gZ at hr
  by_cases q9 : x = 0 ∨ x = 1
  · rw [if_pos q9] at hr
    exact mb_putI (ci := 2) (j := 12) (ty := .boolean) in_X2 tyX2 tyX2_ok nmX2 rfl (by decide) wf_X2_64 rfl rfl (by rcases q9 with rfl | rfl <;> decide) (by rcases q9 with rfl | rfl <;> decide) rfl (Nat.le_of_ble_eq_true rfl) rfl dg hn (kk _ hr)
  · rw [if_neg q9] at hr; cases hr
theorem wf_X2_68 : Cond.fieldLink RX2 68 "MarinaBerths$Marina" "paidInAll" "J" ∈ mb_GW := mb_tb 134 (by decide +kernel) (by decide +kernel)
theorem gf_X2_68 {l : Launch} {G : mb_G} {cc : ByteArray} {nL : Nat} {ret : Option FieldType} {d pc pn : Nat} {lv : List (Nat × mb_AV)} {st : List mb_AV} {h : mb_AH} {res : mb_RS} {a b : Nat} (dg : decode cc pc = .ok (.getfield 68, 3)) (hn : pc + 3 = pn) (kk : mb_Ev l G RX2 cc nL ret d pn lv (.inr (.inl (h.2.1 1 a b 13)) :: st) h res) : mb_Ev l G RX2 cc nL ret d pc lv (mb_F 1 a b :: st) h res := mb_get (v := .inr (.inl (h.2.1 1 a b 13))) (ci := 2) (j := 13) in_X2 rfl (by decide) wf_X2_68 rfl rfl (fun _ => trivial) dg hn kk
theorem pf_X2_68 {l : Launch} {G : mb_G} {cc : ByteArray} {nL : Nat} {ret : Option FieldType} {d pc pn : Nat} {lv : List (Nat × mb_AV)} {st : List mb_AV} {h : mb_AH} {res : mb_RS} {a b : Nat} {x : Int64} {K : mb_AH → Option mb_RS} (dg : decode cc pc = .ok (.putfield 68, 3)) (hn : pc + 3 = pn) (hr : mb_up (mb_sL h 1 a b 13 x) K = some res) (kk : ∀ h2, K h2 = some res → mb_Ev l G RX2 cc nL ret d pn lv st h2 res) : mb_Ev l G RX2 cc nL ret d pc lv (.inr (.inl x) :: mb_F 1 a b :: st) h res := mb_putL (ci := 2) (j := 13) (ty := .long) in_X2 tyX2 tyX2_ok nmX2 rfl (by decide) wf_X2_68 rfl rfl rfl rfl rfl (Nat.le_of_ble_eq_true rfl) rfl dg hn (kk _ hr)
theorem wf_X2_72 : Cond.fieldLink RX2 72 "MarinaBerths$Marina" "turns" "I" ∈ mb_GW := mb_tb 136 (by decide +kernel) (by decide +kernel)
theorem gf_X2_72 {l : Launch} {G : mb_G} {cc : ByteArray} {nL : Nat} {ret : Option FieldType} {d pc pn : Nat} {lv : List (Nat × mb_AV)} {st : List mb_AV} {h : mb_AH} {res : mb_RS} {a b : Nat} (dg : decode cc pc = .ok (.getfield 72, 3)) (hn : pc + 3 = pn) (kk : mb_Ev l G RX2 cc nL ret d pn lv (.inl (h.1 1 a b 14) :: st) h res) : mb_Ev l G RX2 cc nL ret d pc lv (mb_F 1 a b :: st) h res := mb_get (v := .inl (h.1 1 a b 14)) (ci := 2) (j := 14) in_X2 rfl (by decide) wf_X2_72 rfl rfl (fun _ => trivial) dg hn kk
theorem pf_X2_72 {l : Launch} {G : mb_G} {cc : ByteArray} {nL : Nat} {ret : Option FieldType} {d pc pn : Nat} {lv : List (Nat × mb_AV)} {st : List mb_AV} {h : mb_AH} {res : mb_RS} {a b : Nat} {x : Int32} {K : mb_AH → Option mb_RS} (dg : decode cc pc = .ok (.putfield 72, 3)) (hn : pc + 3 = pn) (hr : mb_up (mb_sI h 1 a b 14 x) K = some res) (kk : ∀ h2, K h2 = some res → mb_Ev l G RX2 cc nL ret d pn lv st h2 res) : mb_Ev l G RX2 cc nL ret d pc lv (.inl x :: mb_F 1 a b :: st) h res := mb_putI (ci := 2) (j := 14) (ty := .int) in_X2 tyX2 tyX2_ok nmX2 rfl (by decide) wf_X2_72 rfl rfl rfl rfl rfl (Nat.le_of_ble_eq_true rfl) rfl dg hn (kk _ hr)
theorem wf_X2_23 : Cond.fieldLink RX2 23 "MarinaBerths$Marina" "lows" "[I" ∈ mb_GW := mb_tb 117 (by decide +kernel) (by decide +kernel)
theorem gf_X2_23 {l : Launch} {G : mb_G} {cc : ByteArray} {nL : Nat} {ret : Option FieldType} {d pc pn : Nat} {lv : List (Nat × mb_AV)} {st : List mb_AV} {h : mb_AH} {res : mb_RS} {a b : Nat} (dg : decode cc pc = .ok (.getfield 23, 3)) (hn : pc + 3 = pn) (kk : mb_Ev l G RX2 cc nL ret d pn lv (mb_F 12 a 0 :: st) h res) : mb_Ev l G RX2 cc nL ret d pc lv (mb_F 1 a b :: st) h res := mb_get (v := mb_F 12 a 0) (ci := 2) (j := 4) in_X2 rfl (by decide) wf_X2_23 rfl rfl (fun z => ⟨z.1, Nat.zero_lt_one⟩) dg hn kk
theorem wf_X2_19 : Cond.fieldLink RX2 19 "MarinaBerths$Marina" "boats" "[LMarinaBerths$Boat;" ∈ mb_GW := mb_tb 113 (by decide +kernel) (by decide +kernel)
theorem gf_X2_19 {l : Launch} {G : mb_G} {cc : ByteArray} {nL : Nat} {ret : Option FieldType} {d pc pn : Nat} {lv : List (Nat × mb_AV)} {st : List mb_AV} {h : mb_AH} {res : mb_RS} {a b : Nat} (dg : decode cc pc = .ok (.getfield 19, 3)) (hn : pc + 3 = pn) (kk : mb_Ev l G RX2 cc nL ret d pn lv (mb_F 11 a 0 :: st) h res) : mb_Ev l G RX2 cc nL ret d pc lv (mb_F 1 a b :: st) h res := mb_get (v := mb_F 11 a 0) (ci := 2) (j := 2) in_X2 rfl (by decide) wf_X2_19 rfl rfl (fun z => ⟨z.1, Nat.zero_lt_one⟩) dg hn kk
theorem wl_X2_52 : Cond.methodLink RX2 52 yX1_copyFrom ∈ mb_GW := mb_tb 511 (by decide +kernel) (by decide +kernel)
theorem mi_X1_copyFrom : Cond.instanceMethod yX1_copyFrom ∈ mb_GW := mb_tb 512 (by decide +kernel) (by decide +kernel)
theorem ms_X1_copyFrom : Cond.selects RX1 yX1_copyFrom yX1_copyFrom ∈ mb_GW := mb_tb 513 (by decide +kernel) (by decide +kernel)
theorem mc_X1_copyFrom : Cond.code yX1_copyFrom cX1_copyFrom 2 none ∈ mb_GW := mb_tb 514 (by decide +kernel) (by decide +kernel)
theorem wf_X2_11 : Cond.fieldLink RX2 11 "MarinaBerths$Marina" "berths" "[LMarinaBerths$Berth;" ∈ mb_GW := mb_tb 109 (by decide +kernel) (by decide +kernel)
theorem gf_X2_11 {l : Launch} {G : mb_G} {cc : ByteArray} {nL : Nat} {ret : Option FieldType} {d pc pn : Nat} {lv : List (Nat × mb_AV)} {st : List mb_AV} {h : mb_AH} {res : mb_RS} {a b : Nat} (dg : decode cc pc = .ok (.getfield 11, 3)) (hn : pc + 3 = pn) (kk : mb_Ev l G RX2 cc nL ret d pn lv (mb_F 10 a 0 :: st) h res) : mb_Ev l G RX2 cc nL ret d pc lv (mb_F 1 a b :: st) h res := mb_get (v := mb_F 10 a 0) (ci := 2) (j := 0) in_X2 rfl (by decide) wf_X2_11 rfl rfl (fun z => ⟨z.1, Nat.zero_lt_one⟩) dg hn kk
theorem wl_X2_45 : Cond.methodLink RX2 45 yX0_copyFrom ∈ mb_GW := mb_tb 503 (by decide +kernel) (by decide +kernel)
theorem mi_X0_copyFrom : Cond.instanceMethod yX0_copyFrom ∈ mb_GW := mb_tb 504 (by decide +kernel) (by decide +kernel)
theorem ms_X0_copyFrom : Cond.selects RX0 yX0_copyFrom yX0_copyFrom ∈ mb_GW := mb_tb 505 (by decide +kernel) (by decide +kernel)
theorem mc_X0_copyFrom : Cond.code yX0_copyFrom cX0_copyFrom 2 none ∈ mb_GW := mb_tb 506 (by decide +kernel) (by decide +kernel)
theorem wf_X2_75 : Cond.fieldLink RX2 75 "MarinaBerths$TableText" "count" "I" ∈ mb_GW := mb_tb 199 (by decide +kernel) (by decide +kernel)
theorem gf_X2_75 {l : Launch} {G : mb_G} {cc : ByteArray} {nL : Nat} {ret : Option FieldType} {d pc pn : Nat} {lv : List (Nat × mb_AV)} {st : List mb_AV} {h : mb_AH} {res : mb_RS} {a b : Nat} (dg : decode cc pc = .ok (.getfield 75, 3)) (hn : pc + 3 = pn) (kk : mb_Ev l G RX2 cc nL ret d pn lv (.inl (h.1 5 a b 3) :: st) h res) : mb_Ev l G RX2 cc nL ret d pc lv (mb_F 5 a b :: st) h res := mb_get (v := .inl (h.1 5 a b 3)) (ci := 3) (j := 3) in_X3 rfl (by decide) wf_X2_75 rfl rfl (fun _ => trivial) dg hn kk
theorem wf_X2_80 : Cond.fieldLink RX2 80 "MarinaBerths$TableText" "numbers" "[I" ∈ mb_GW := mb_tb 198 (by decide +kernel) (by decide +kernel)
theorem gf_X2_80 {l : Launch} {G : mb_G} {cc : ByteArray} {nL : Nat} {ret : Option FieldType} {d pc pn : Nat} {lv : List (Nat × mb_AV)} {st : List mb_AV} {h : mb_AH} {res : mb_RS} {a b : Nat} (dg : decode cc pc = .ok (.getfield 80, 3)) (hn : pc + 3 = pn) (kk : mb_Ev l G RX2 cc nL ret d pn lv (mb_F 17 0 0 :: st) h res) : mb_Ev l G RX2 cc nL ret d pc lv (mb_F 5 a b :: st) h res := mb_get (v := mb_F 17 0 0) (ci := 3) (j := 2) in_X3 rfl (by decide) wf_X2_80 rfl rfl (fun _ => ⟨by decide, by decide⟩) dg hn kk
theorem wl_X2_83 : Cond.methodLink RX2 83 Lib.Math.min.name ∈ mb_GW := mb_tb 274 (by decide +kernel) (by decide +kernel)
theorem mM_min_s : Cond.static Lib.Math.min.name ∈ mb_GW := mb_tb 275 (by decide +kernel) (by decide +kernel)
theorem mM_i : Cond.initialized "java/lang/Math" ∈ mb_GW := mb_tb 12 (by decide +kernel) (by decide +kernel)
theorem mM_min_c : Cond.code Lib.Math.min.name Lib.Math.min.code 2 (some .int) ∈ mb_GW := mb_tb 276 (by decide +kernel) (by decide +kernel)
theorem wf_X2_89 : Cond.fieldLink RX2 89 "MarinaBerths$Boat" "draft" "I" ∈ mb_GW := mb_tb 69 (by decide +kernel) (by decide +kernel)
theorem gf_X2_89 {l : Launch} {G : mb_G} {cc : ByteArray} {nL : Nat} {ret : Option FieldType} {d pc pn : Nat} {lv : List (Nat × mb_AV)} {st : List mb_AV} {h : mb_AH} {res : mb_RS} {a b : Nat} (dg : decode cc pc = .ok (.getfield 89, 3)) (hn : pc + 3 = pn) (kk : mb_Ev l G RX2 cc nL ret d pn lv (.inl (h.1 3 a b 1) :: st) h res) : mb_Ev l G RX2 cc nL ret d pc lv (mb_F 3 a b :: st) h res := mb_get (v := .inl (h.1 3 a b 1)) (ci := 1) (j := 1) in_X1 rfl (by decide) wf_X2_89 rfl rfl (fun _ => trivial) dg hn kk
theorem wf_X2_92 : Cond.fieldLink RX2 92 "MarinaBerths$Berth" "depth" "I" ∈ mb_GW := mb_tb 39 (by decide +kernel) (by decide +kernel)
theorem gf_X2_92 {l : Launch} {G : mb_G} {cc : ByteArray} {nL : Nat} {ret : Option FieldType} {d pc pn : Nat} {lv : List (Nat × mb_AV)} {st : List mb_AV} {h : mb_AH} {res : mb_RS} {a b : Nat} (dg : decode cc pc = .ok (.getfield 92, 3)) (hn : pc + 3 = pn) (kk : mb_Ev l G RX2 cc nL ret d pn lv (.inl (h.1 2 a b 0) :: st) h res) : mb_Ev l G RX2 cc nL ret d pc lv (mb_F 2 a b :: st) h res := mb_get (v := .inl (h.1 2 a b 0)) (ci := 0) (j := 0) in_X0 rfl (by decide) wf_X2_92 rfl rfl (fun _ => trivial) dg hn kk
theorem wf_X2_95 : Cond.fieldLink RX2 95 "MarinaBerths$Boat" "length" "I" ∈ mb_GW := mb_tb 66 (by decide +kernel) (by decide +kernel)
theorem gf_X2_95 {l : Launch} {G : mb_G} {cc : ByteArray} {nL : Nat} {ret : Option FieldType} {d pc pn : Nat} {lv : List (Nat × mb_AV)} {st : List mb_AV} {h : mb_AH} {res : mb_RS} {a b : Nat} (dg : decode cc pc = .ok (.getfield 95, 3)) (hn : pc + 3 = pn) (kk : mb_Ev l G RX2 cc nL ret d pn lv (.inl (h.1 3 a b 0) :: st) h res) : mb_Ev l G RX2 cc nL ret d pc lv (mb_F 3 a b :: st) h res := mb_get (v := .inl (h.1 3 a b 0)) (ci := 1) (j := 0) in_X1 rfl (by decide) wf_X2_95 rfl rfl (fun _ => trivial) dg hn kk
theorem wf_X2_98 : Cond.fieldLink RX2 98 "MarinaBerths$Berth" "length" "I" ∈ mb_GW := mb_tb 42 (by decide +kernel) (by decide +kernel)
theorem gf_X2_98 {l : Launch} {G : mb_G} {cc : ByteArray} {nL : Nat} {ret : Option FieldType} {d pc pn : Nat} {lv : List (Nat × mb_AV)} {st : List mb_AV} {h : mb_AH} {res : mb_RS} {a b : Nat} (dg : decode cc pc = .ok (.getfield 98, 3)) (hn : pc + 3 = pn) (kk : mb_Ev l G RX2 cc nL ret d pn lv (.inl (h.1 2 a b 1) :: st) h res) : mb_Ev l G RX2 cc nL ret d pc lv (mb_F 2 a b :: st) h res := mb_get (v := .inl (h.1 2 a b 1)) (ci := 0) (j := 1) in_X0 rfl (by decide) wf_X2_98 rfl rfl (fun _ => trivial) dg hn kk
theorem wl_X2_99 : Cond.methodLink RX2 99 yX2_lackOfWater ∈ mb_GW := mb_tb 440 (by decide +kernel) (by decide +kernel)
theorem mi_X2_lackOfWater : Cond.instanceMethod yX2_lackOfWater ∈ mb_GW := mb_tb 441 (by decide +kernel) (by decide +kernel)
theorem ms_X2_lackOfWater : Cond.selects RX2 yX2_lackOfWater yX2_lackOfWater ∈ mb_GW := mb_tb 442 (by decide +kernel) (by decide +kernel)
theorem mn_X2 : Cond.initialized RX2 ∈ mb_GW := mb_tb 2 (by decide +kernel) (by decide +kernel)
theorem mc_X2_lackOfWater : Cond.code yX2_lackOfWater cX2_lackOfWater 3 (some .int) ∈ mb_GW := mb_tb 443 (by decide +kernel) (by decide +kernel)
theorem wf_X2_111 : Cond.fieldLink RX2 111 "MarinaBerths$Boat" "berth" "I" ∈ mb_GW := mb_tb 78 (by decide +kernel) (by decide +kernel)
theorem gf_X2_111 {l : Launch} {G : mb_G} {cc : ByteArray} {nL : Nat} {ret : Option FieldType} {d pc pn : Nat} {lv : List (Nat × mb_AV)} {st : List mb_AV} {h : mb_AH} {res : mb_RS} {a b : Nat} (dg : decode cc pc = .ok (.getfield 111, 3)) (hn : pc + 3 = pn) (kk : mb_Ev l G RX2 cc nL ret d pn lv (.inl (h.1 3 a b 4) :: st) h res) : mb_Ev l G RX2 cc nL ret d pc lv (mb_F 3 a b :: st) h res := mb_get (v := .inl (h.1 3 a b 4)) (ci := 1) (j := 4) in_X1 rfl (by decide) wf_X2_111 rfl rfl (fun _ => trivial) dg hn kk
theorem wl_X2_103 : Cond.methodLink RX2 103 yX2_berthOf ∈ mb_GW := mb_tb 270 (by decide +kernel) (by decide +kernel)
theorem mi_X2_berthOf : Cond.instanceMethod yX2_berthOf ∈ mb_GW := mb_tb 271 (by decide +kernel) (by decide +kernel)
theorem ms_X2_berthOf : Cond.selects RX2 yX2_berthOf yX2_berthOf ∈ mb_GW := mb_tb 272 (by decide +kernel) (by decide +kernel)
theorem mc_X2_berthOf : Cond.code yX2_berthOf cX2_berthOf 2 (some (.object "MarinaBerths$Berth")) ∈ mb_GW := mb_tb 273 (by decide +kernel) (by decide +kernel)
theorem wl_X2_107 : Cond.methodLink RX2 107 yX2_suits ∈ mb_GW := mb_tb 436 (by decide +kernel) (by decide +kernel)
theorem mi_X2_suits : Cond.instanceMethod yX2_suits ∈ mb_GW := mb_tb 437 (by decide +kernel) (by decide +kernel)
theorem ms_X2_suits : Cond.selects RX2 yX2_suits yX2_suits ∈ mb_GW := mb_tb 438 (by decide +kernel) (by decide +kernel)
theorem mc_X2_suits : Cond.code yX2_suits cX2_suits 3 (some .boolean) ∈ mb_GW := mb_tb 439 (by decide +kernel) (by decide +kernel)
theorem wl_X2_114 : Cond.methodLink RX2 114 yX2_boatIn ∈ mb_GW := mb_tb 473 (by decide +kernel) (by decide +kernel)
theorem mi_X2_boatIn : Cond.instanceMethod yX2_boatIn ∈ mb_GW := mb_tb 429 (by decide +kernel) (by decide +kernel)
theorem ms_X2_boatIn : Cond.selects RX2 yX2_boatIn yX2_boatIn ∈ mb_GW := mb_tb 430 (by decide +kernel) (by decide +kernel)
theorem mc_X2_boatIn : Cond.code yX2_boatIn cX2_boatIn 3 (some .int) ∈ mb_GW := mb_tb 431 (by decide +kernel) (by decide +kernel)
theorem wf_X2_118 : Cond.fieldLink RX2 118 "MarinaBerths$Berth" "exposed" "Z" ∈ mb_GW := mb_tb 46 (by decide +kernel) (by decide +kernel)
theorem gf_X2_118 {l : Launch} {G : mb_G} {cc : ByteArray} {nL : Nat} {ret : Option FieldType} {d pc pn : Nat} {lv : List (Nat × mb_AV)} {st : List mb_AV} {h : mb_AH} {res : mb_RS} {a b : Nat} (dg : decode cc pc = .ok (.getfield 118, 3)) (hn : pc + 3 = pn) (kk : mb_Ev l G RX2 cc nL ret d pn lv (.inl (h.1 2 a b 2) :: st) h res) : mb_Ev l G RX2 cc nL ret d pc lv (mb_F 2 a b :: st) h res := mb_get (v := .inl (h.1 2 a b 2)) (ci := 0) (j := 2) in_X0 rfl (by decide) wf_X2_118 rfl rfl (fun _ => trivial) dg hn kk
theorem wf_X2_121 : Cond.fieldLink RX2 121 "MarinaBerths$Boat" "state" "I" ∈ mb_GW := mb_tb 76 (by decide +kernel) (by decide +kernel)
theorem gf_X2_121 {l : Launch} {G : mb_G} {cc : ByteArray} {nL : Nat} {ret : Option FieldType} {d pc pn : Nat} {lv : List (Nat × mb_AV)} {st : List mb_AV} {h : mb_AH} {res : mb_RS} {a b : Nat} (dg : decode cc pc = .ok (.getfield 121, 3)) (hn : pc + 3 = pn) (kk : mb_Ev l G RX2 cc nL ret d pn lv (.inl (h.1 3 a b 3) :: st) h res) : mb_Ev l G RX2 cc nL ret d pc lv (mb_F 3 a b :: st) h res := mb_get (v := .inl (h.1 3 a b 3)) (ci := 1) (j := 3) in_X1 rfl (by decide) wf_X2_121 rfl rfl (fun _ => trivial) dg hn kk
theorem wl_X2_124 : Cond.methodLink RX2 124 yX2_isOpen ∈ mb_GW := mb_tb 469 (by decide +kernel) (by decide +kernel)
theorem mi_X2_isOpen : Cond.instanceMethod yX2_isOpen ∈ mb_GW := mb_tb 470 (by decide +kernel) (by decide +kernel)
theorem ms_X2_isOpen : Cond.selects RX2 yX2_isOpen yX2_isOpen ∈ mb_GW := mb_tb 471 (by decide +kernel) (by decide +kernel)
theorem mc_X2_isOpen : Cond.code yX2_isOpen cX2_isOpen 2 (some .boolean) ∈ mb_GW := mb_tb 472 (by decide +kernel) (by decide +kernel)
theorem wl_X2_128 : Cond.methodLink RX2 128 yX0_isTighterThan ∈ mb_GW := mb_tb 474 (by decide +kernel) (by decide +kernel)
theorem mi_X0_isTighterThan : Cond.instanceMethod yX0_isTighterThan ∈ mb_GW := mb_tb 475 (by decide +kernel) (by decide +kernel)
theorem ms_X0_isTighterThan : Cond.selects RX0 yX0_isTighterThan yX0_isTighterThan ∈ mb_GW := mb_tb 476 (by decide +kernel) (by decide +kernel)
theorem mc_X0_isTighterThan : Cond.code yX0_isTighterThan cX0_isTighterThan 2 (some .boolean) ∈ mb_GW := mb_tb 477 (by decide +kernel) (by decide +kernel)
theorem wl_X2_136 : Cond.methodLink RX2 136 yX2_lowWater ∈ mb_GW := mb_tb 327 (by decide +kernel) (by decide +kernel)
theorem mi_X2_lowWater : Cond.instanceMethod yX2_lowWater ∈ mb_GW := mb_tb 328 (by decide +kernel) (by decide +kernel)
theorem ms_X2_lowWater : Cond.selects RX2 yX2_lowWater yX2_lowWater ∈ mb_GW := mb_tb 329 (by decide +kernel) (by decide +kernel)
theorem mc_X2_lowWater : Cond.code yX2_lowWater cX2_lowWater 2 (some .int) ∈ mb_GW := mb_tb 330 (by decide +kernel) (by decide +kernel)
theorem wl_X2_132 : Cond.methodLink RX2 132 yX2_isAgroundOn ∈ mb_GW := mb_tb 323 (by decide +kernel) (by decide +kernel)
theorem mi_X2_isAgroundOn : Cond.instanceMethod yX2_isAgroundOn ∈ mb_GW := mb_tb 324 (by decide +kernel) (by decide +kernel)
theorem ms_X2_isAgroundOn : Cond.selects RX2 yX2_isAgroundOn yX2_isAgroundOn ∈ mb_GW := mb_tb 325 (by decide +kernel) (by decide +kernel)
theorem mc_X2_isAgroundOn : Cond.code yX2_isAgroundOn cX2_isAgroundOn 4 (some .boolean) ∈ mb_GW := mb_tb 326 (by decide +kernel) (by decide +kernel)
theorem wl_X2_139 : Cond.methodLink RX2 139 yX2_isAground ∈ mb_GW := mb_tb 319 (by decide +kernel) (by decide +kernel)
theorem mi_X2_isAground : Cond.instanceMethod yX2_isAground ∈ mb_GW := mb_tb 320 (by decide +kernel) (by decide +kernel)
theorem ms_X2_isAground : Cond.selects RX2 yX2_isAground yX2_isAground ∈ mb_GW := mb_tb 321 (by decide +kernel) (by decide +kernel)
theorem mc_X2_isAground : Cond.code yX2_isAground cX2_isAground 2 (some .boolean) ∈ mb_GW := mb_tb 322 (by decide +kernel) (by decide +kernel)
theorem wl_X2_143 : Cond.methodLink RX2 143 yX1_moveForGood ∈ mb_GW := mb_tb 668 (by decide +kernel) (by decide +kernel)
theorem wf_X2_147 : Cond.fieldLink RX2 147 "MarinaBerths$Boat" "waitsSince" "I" ∈ mb_GW := mb_tb 87 (by decide +kernel) (by decide +kernel)
theorem pf_X2_147 {l : Launch} {G : mb_G} {cc : ByteArray} {nL : Nat} {ret : Option FieldType} {d pc pn : Nat} {lv : List (Nat × mb_AV)} {st : List mb_AV} {h : mb_AH} {res : mb_RS} {a b : Nat} {x : Int32} {K : mb_AH → Option mb_RS} (dg : decode cc pc = .ok (.putfield 147, 3)) (hn : pc + 3 = pn) (hr : mb_up (mb_sI h 3 a b 7 x) K = some res) (kk : ∀ h2, K h2 = some res → mb_Ev l G RX2 cc nL ret d pn lv st h2 res) : mb_Ev l G RX2 cc nL ret d pc lv (.inl x :: mb_F 3 a b :: st) h res := mb_putI (ci := 1) (j := 7) (ty := .int) in_X1 tyX1 tyX1_ok nmX1 rfl (by decide) wf_X2_147 rfl rfl rfl rfl rfl (Nat.le_of_ble_eq_true rfl) rfl dg hn (kk _ hr)
theorem wf_X2_150 : Cond.fieldLink RX2 150 "MarinaBerths$Boat" "turn" "I" ∈ mb_GW := mb_tb 89 (by decide +kernel) (by decide +kernel)
theorem pf_X2_150 {l : Launch} {G : mb_G} {cc : ByteArray} {nL : Nat} {ret : Option FieldType} {d pc pn : Nat} {lv : List (Nat × mb_AV)} {st : List mb_AV} {h : mb_AH} {res : mb_RS} {a b : Nat} {x : Int32} {K : mb_AH → Option mb_RS} (dg : decode cc pc = .ok (.putfield 150, 3)) (hn : pc + 3 = pn) (hr : mb_up (mb_sI h 3 a b 8 x) K = some res) (kk : ∀ h2, K h2 = some res → mb_Ev l G RX2 cc nL ret d pn lv st h2 res) : mb_Ev l G RX2 cc nL ret d pc lv (.inl x :: mb_F 3 a b :: st) h res := mb_putI (ci := 1) (j := 8) (ty := .int) in_X1 tyX1 tyX1_ok nmX1 rfl (by decide) wf_X2_150 rfl rfl rfl rfl rfl (Nat.le_of_ble_eq_true rfl) rfl dg hn (kk _ hr)
theorem gf_X2_147 {l : Launch} {G : mb_G} {cc : ByteArray} {nL : Nat} {ret : Option FieldType} {d pc pn : Nat} {lv : List (Nat × mb_AV)} {st : List mb_AV} {h : mb_AH} {res : mb_RS} {a b : Nat} (dg : decode cc pc = .ok (.getfield 147, 3)) (hn : pc + 3 = pn) (kk : mb_Ev l G RX2 cc nL ret d pn lv (.inl (h.1 3 a b 7) :: st) h res) : mb_Ev l G RX2 cc nL ret d pc lv (mb_F 3 a b :: st) h res := mb_get (v := .inl (h.1 3 a b 7)) (ci := 1) (j := 7) in_X1 rfl (by decide) wf_X2_147 rfl rfl (fun _ => trivial) dg hn kk
theorem wf_X2_153 : Cond.fieldLink RX2 153 "MarinaBerths$Boat" "bonus" "I" ∈ mb_GW := mb_tb 73 (by decide +kernel) (by decide +kernel)
theorem gf_X2_153 {l : Launch} {G : mb_G} {cc : ByteArray} {nL : Nat} {ret : Option FieldType} {d pc pn : Nat} {lv : List (Nat × mb_AV)} {st : List mb_AV} {h : mb_AH} {res : mb_RS} {a b : Nat} (dg : decode cc pc = .ok (.getfield 153, 3)) (hn : pc + 3 = pn) (kk : mb_Ev l G RX2 cc nL ret d pn lv (.inl (h.1 3 a b 2) :: st) h res) : mb_Ev l G RX2 cc nL ret d pc lv (mb_F 3 a b :: st) h res := mb_get (v := .inl (h.1 3 a b 2)) (ci := 1) (j := 2) in_X1 rfl (by decide) wf_X2_153 rfl rfl (fun _ => trivial) dg hn kk
theorem wl_X2_156 : Cond.methodLink RX2 156 yX2_points ∈ mb_GW := mb_tb 246 (by decide +kernel) (by decide +kernel)
theorem mi_X2_points : Cond.instanceMethod yX2_points ∈ mb_GW := mb_tb 247 (by decide +kernel) (by decide +kernel)
theorem ms_X2_points : Cond.selects RX2 yX2_points yX2_points ∈ mb_GW := mb_tb 248 (by decide +kernel) (by decide +kernel)
theorem mc_X2_points : Cond.code yX2_points cX2_points 2 (some .int) ∈ mb_GW := mb_tb 249 (by decide +kernel) (by decide +kernel)
theorem gf_X2_150 {l : Launch} {G : mb_G} {cc : ByteArray} {nL : Nat} {ret : Option FieldType} {d pc pn : Nat} {lv : List (Nat × mb_AV)} {st : List mb_AV} {h : mb_AH} {res : mb_RS} {a b : Nat} (dg : decode cc pc = .ok (.getfield 150, 3)) (hn : pc + 3 = pn) (kk : mb_Ev l G RX2 cc nL ret d pn lv (.inl (h.1 3 a b 8) :: st) h res) : mb_Ev l G RX2 cc nL ret d pc lv (mb_F 3 a b :: st) h res := mb_get (v := .inl (h.1 3 a b 8)) (ci := 1) (j := 8) in_X1 rfl (by decide) wf_X2_150 rfl rfl (fun _ => trivial) dg hn kk
theorem wl_X2_160 : Cond.methodLink RX2 160 yX2_isAhead ∈ mb_GW := mb_tb 242 (by decide +kernel) (by decide +kernel)
theorem mi_X2_isAhead : Cond.instanceMethod yX2_isAhead ∈ mb_GW := mb_tb 243 (by decide +kernel) (by decide +kernel)
theorem ms_X2_isAhead : Cond.selects RX2 yX2_isAhead yX2_isAhead ∈ mb_GW := mb_tb 244 (by decide +kernel) (by decide +kernel)
theorem mc_X2_isAhead : Cond.code yX2_isAhead cX2_isAhead 4 (some .boolean) ∈ mb_GW := mb_tb 245 (by decide +kernel) (by decide +kernel)
theorem wl_X2_164 : Cond.methodLink RX2 164 yX2_countAheadOf ∈ mb_GW := mb_tb 238 (by decide +kernel) (by decide +kernel)
theorem mi_X2_countAheadOf : Cond.instanceMethod yX2_countAheadOf ∈ mb_GW := mb_tb 239 (by decide +kernel) (by decide +kernel)
theorem ms_X2_countAheadOf : Cond.selects RX2 yX2_countAheadOf yX2_countAheadOf ∈ mb_GW := mb_tb 240 (by decide +kernel) (by decide +kernel)
theorem mc_X2_countAheadOf : Cond.code yX2_countAheadOf cX2_countAheadOf 4 (some .int) ∈ mb_GW := mb_tb 241 (by decide +kernel) (by decide +kernel)
theorem wf_X2_167 : Cond.fieldLink RX2 167 "MarinaBerths$Boat" "owes" "I" ∈ mb_GW := mb_tb 85 (by decide +kernel) (by decide +kernel)
theorem gf_X2_167 {l : Launch} {G : mb_G} {cc : ByteArray} {nL : Nat} {ret : Option FieldType} {d pc pn : Nat} {lv : List (Nat × mb_AV)} {st : List mb_AV} {h : mb_AH} {res : mb_RS} {a b : Nat} (dg : decode cc pc = .ok (.getfield 167, 3)) (hn : pc + 3 = pn) (kk : mb_Ev l G RX2 cc nL ret d pn lv (.inl (h.1 3 a b 6) :: st) h res) : mb_Ev l G RX2 cc nL ret d pc lv (mb_F 3 a b :: st) h res := mb_get (v := .inl (h.1 3 a b 6)) (ci := 1) (j := 6) in_X1 rfl (by decide) wf_X2_167 rfl rfl (fun _ => trivial) dg hn kk
theorem wk_X2_192 : Cond.constantLong RX2 192 (10) ∈ mb_GW := mb_tb 712 (by decide +kernel) (by decide +kernel)
theorem wf_X2_189 : Cond.fieldLink RX2 189 "MarinaBerths$Berth" "rate" "I" ∈ mb_GW := mb_tb 49 (by decide +kernel) (by decide +kernel)
theorem gf_X2_189 {l : Launch} {G : mb_G} {cc : ByteArray} {nL : Nat} {ret : Option FieldType} {d pc pn : Nat} {lv : List (Nat × mb_AV)} {st : List mb_AV} {h : mb_AH} {res : mb_RS} {a b : Nat} (dg : decode cc pc = .ok (.getfield 189, 3)) (hn : pc + 3 = pn) (kk : mb_Ev l G RX2 cc nL ret d pn lv (.inl (h.1 2 a b 3) :: st) h res) : mb_Ev l G RX2 cc nL ret d pc lv (mb_F 2 a b :: st) h res := mb_get (v := .inl (h.1 2 a b 3)) (ci := 0) (j := 3) in_X0 rfl (by decide) wf_X2_189 rfl rfl (fun _ => trivial) dg hn kk
theorem wl_X2_181 : Cond.methodLink RX2 181 yX2_feeOfDay ∈ mb_GW := mb_tb 708 (by decide +kernel) (by decide +kernel)
theorem mi_X2_feeOfDay : Cond.instanceMethod yX2_feeOfDay ∈ mb_GW := mb_tb 710 (by decide +kernel) (by decide +kernel)
theorem ms_X2_feeOfDay : Cond.selects RX2 yX2_feeOfDay yX2_feeOfDay ∈ mb_GW := mb_tp 12 (by decide +kernel) (by decide +kernel)
theorem mc_X2_feeOfDay : Cond.code yX2_feeOfDay cX2_feeOfDay 3 (some .long) ∈ mb_GW := mb_tb 711 (by decide +kernel) (by decide +kernel)
theorem wl_X2_185 : Cond.methodLink RX2 185 yX1_canOweMore ∈ mb_GW := mb_tb 713 (by decide +kernel) (by decide +kernel)
theorem mi_X1_canOweMore : Cond.instanceMethod yX1_canOweMore ∈ mb_GW := mb_tb 714 (by decide +kernel) (by decide +kernel)
theorem ms_X1_canOweMore : Cond.selects RX1 yX1_canOweMore yX1_canOweMore ∈ mb_GW := mb_tb 715 (by decide +kernel) (by decide +kernel)
theorem mc_X1_canOweMore : Cond.code yX1_canOweMore cX1_canOweMore 3 (some .boolean) ∈ mb_GW := mb_tb 716 (by decide +kernel) (by decide +kernel)
theorem pf_X2_167 {l : Launch} {G : mb_G} {cc : ByteArray} {nL : Nat} {ret : Option FieldType} {d pc pn : Nat} {lv : List (Nat × mb_AV)} {st : List mb_AV} {h : mb_AH} {res : mb_RS} {a b : Nat} {x : Int32} {K : mb_AH → Option mb_RS} (dg : decode cc pc = .ok (.putfield 167, 3)) (hn : pc + 3 = pn) (hr : mb_up (mb_sI h 3 a b 6 x) K = some res) (kk : ∀ h2, K h2 = some res → mb_Ev l G RX2 cc nL ret d pn lv st h2 res) : mb_Ev l G RX2 cc nL ret d pc lv (.inl x :: mb_F 3 a b :: st) h res := mb_putI (ci := 1) (j := 6) (ty := .int) in_X1 tyX1 tyX1_ok nmX1 rfl (by decide) wf_X2_167 rfl rfl rfl rfl rfl (Nat.le_of_ble_eq_true rfl) rfl dg hn (kk _ hr)
theorem wl_X2_170 : Cond.methodLink RX2 170 yX2_chargeAll ∈ mb_GW := mb_tb 704 (by decide +kernel) (by decide +kernel)
theorem mi_X2_chargeAll : Cond.instanceMethod yX2_chargeAll ∈ mb_GW := mb_tb 706 (by decide +kernel) (by decide +kernel)
theorem ms_X2_chargeAll : Cond.selects RX2 yX2_chargeAll yX2_chargeAll ∈ mb_GW := mb_tp 11 (by decide +kernel) (by decide +kernel)
theorem mc_X2_chargeAll : Cond.code yX2_chargeAll cX2_chargeAll 4 (some .boolean) ∈ mb_GW := mb_tb 707 (by decide +kernel) (by decide +kernel)
theorem wf_X2_199 : Cond.fieldLink RX2 199 "MarinaBerths$Boat" "home" "I" ∈ mb_GW := mb_tb 82 (by decide +kernel) (by decide +kernel)
theorem gf_X2_199 {l : Launch} {G : mb_G} {cc : ByteArray} {nL : Nat} {ret : Option FieldType} {d pc pn : Nat} {lv : List (Nat × mb_AV)} {st : List mb_AV} {h : mb_AH} {res : mb_RS} {a b : Nat} (dg : decode cc pc = .ok (.getfield 199, 3)) (hn : pc + 3 = pn) (kk : mb_Ev l G RX2 cc nL ret d pn lv (.inl (h.1 3 a b 5) :: st) h res) : mb_Ev l G RX2 cc nL ret d pc lv (mb_F 3 a b :: st) h res := mb_get (v := .inl (h.1 3 a b 5)) (ci := 1) (j := 5) in_X1 rfl (by decide) wf_X2_199 rfl rfl (fun _ => trivial) dg hn kk
theorem pf_X2_199 {l : Launch} {G : mb_G} {cc : ByteArray} {nL : Nat} {ret : Option FieldType} {d pc pn : Nat} {lv : List (Nat × mb_AV)} {st : List mb_AV} {h : mb_AH} {res : mb_RS} {a b : Nat} {x : Int32} {K : mb_AH → Option mb_RS} (dg : decode cc pc = .ok (.putfield 199, 3)) (hn : pc + 3 = pn) (hr : mb_up (mb_sI h 3 a b 5 x) K = some res) (kk : ∀ h2, K h2 = some res → mb_Ev l G RX2 cc nL ret d pn lv st h2 res) : mb_Ev l G RX2 cc nL ret d pc lv (.inl x :: mb_F 3 a b :: st) h res := mb_putI (ci := 1) (j := 5) (ty := .int) in_X1 tyX1 tyX1_ok nmX1 rfl (by decide) wf_X2_199 rfl rfl rfl rfl rfl (Nat.le_of_ble_eq_true rfl) rfl dg hn (kk _ hr)
theorem wl_X2_214 : Cond.methodLink RX2 214 yX2_beginToWait ∈ mb_GW := mb_tb 751 (by decide +kernel) (by decide +kernel)
theorem mi_X2_beginToWait : Cond.instanceMethod yX2_beginToWait ∈ mb_GW := mb_tb 665 (by decide +kernel) (by decide +kernel)
theorem ms_X2_beginToWait : Cond.selects RX2 yX2_beginToWait yX2_beginToWait ∈ mb_GW := mb_tb 666 (by decide +kernel) (by decide +kernel)
theorem mc_X2_beginToWait : Cond.code yX2_beginToWait cX2_beginToWait 2 none ∈ mb_GW := mb_tb 667 (by decide +kernel) (by decide +kernel)
theorem wl_X2_202 : Cond.methodLink RX2 202 yX1_move ∈ mb_GW := mb_tb 727 (by decide +kernel) (by decide +kernel)
theorem wl_X2_178 : Cond.methodLink RX2 178 yX2_beginSpring ∈ mb_GW := mb_tb 747 (by decide +kernel) (by decide +kernel)
theorem mi_X2_beginSpring : Cond.instanceMethod yX2_beginSpring ∈ mb_GW := mb_tb 749 (by decide +kernel) (by decide +kernel)
theorem ms_X2_beginSpring : Cond.selects RX2 yX2_beginSpring yX2_beginSpring ∈ mb_GW := mb_tp 15 (by decide +kernel) (by decide +kernel)
theorem mc_X2_beginSpring : Cond.code yX2_beginSpring cX2_beginSpring 4 none ∈ mb_GW := mb_tb 750 (by decide +kernel) (by decide +kernel)
theorem wl_X2_194 : Cond.methodLink RX2 194 yX4_clear ∈ mb_GW := mb_tb 722 (by decide +kernel) (by decide +kernel)
theorem mi_X4_clear : Cond.instanceMethod yX4_clear ∈ mb_GW := mb_tb 723 (by decide +kernel) (by decide +kernel)
theorem ms_X4_clear : Cond.selects RX4 yX4_clear yX4_clear ∈ mb_GW := mb_tb 724 (by decide +kernel) (by decide +kernel)
theorem mc_X4_clear : Cond.code yX4_clear cX4_clear 2 none ∈ mb_GW := mb_tb 725 (by decide +kernel) (by decide +kernel)
theorem wl_X2_211 : Cond.methodLink RX2 211 yX4_giveTo ∈ mb_GW := mb_tb 736 (by decide +kernel) (by decide +kernel)
theorem mi_X4_giveTo : Cond.instanceMethod yX4_giveTo ∈ mb_GW := mb_tb 737 (by decide +kernel) (by decide +kernel)
theorem ms_X4_giveTo : Cond.selects RX4 yX4_giveTo yX4_giveTo ∈ mb_GW := mb_tb 738 (by decide +kernel) (by decide +kernel)
theorem mc_X4_giveTo : Cond.code yX4_giveTo cX4_giveTo 5 (some .int) ∈ mb_GW := mb_tb 739 (by decide +kernel) (by decide +kernel)
theorem wl_X2_205 : Cond.methodLink RX2 205 yX2_shelterFor ∈ mb_GW := mb_tb 728 (by decide +kernel) (by decide +kernel)
theorem mi_X2_shelterFor : Cond.instanceMethod yX2_shelterFor ∈ mb_GW := mb_tb 730 (by decide +kernel) (by decide +kernel)
theorem ms_X2_shelterFor : Cond.selects RX2 yX2_shelterFor yX2_shelterFor ∈ mb_GW := mb_tp 13 (by decide +kernel) (by decide +kernel)
theorem mc_X2_shelterFor : Cond.code yX2_shelterFor cX2_shelterFor 4 (some .int) ∈ mb_GW := mb_tb 731 (by decide +kernel) (by decide +kernel)
theorem wl_X2_208 : Cond.methodLink RX2 208 yX4_ask ∈ mb_GW := mb_tb 732 (by decide +kernel) (by decide +kernel)
theorem mi_X4_ask : Cond.instanceMethod yX4_ask ∈ mb_GW := mb_tb 733 (by decide +kernel) (by decide +kernel)
theorem ms_X4_ask : Cond.selects RX4 yX4_ask yX4_ask ∈ mb_GW := mb_tb 734 (by decide +kernel) (by decide +kernel)
theorem mc_X4_ask : Cond.code yX4_ask cX4_ask 3 none ∈ mb_GW := mb_tb 735 (by decide +kernel) (by decide +kernel)
theorem wl_X2_174 : Cond.methodLink RX2 174 yX2_beginWinter ∈ mb_GW := mb_tb 718 (by decide +kernel) (by decide +kernel)
theorem mi_X2_beginWinter : Cond.instanceMethod yX2_beginWinter ∈ mb_GW := mb_tb 719 (by decide +kernel) (by decide +kernel)
theorem ms_X2_beginWinter : Cond.selects RX2 yX2_beginWinter yX2_beginWinter ∈ mb_GW := mb_tb 720 (by decide +kernel) (by decide +kernel)
theorem mc_X2_beginWinter : Cond.code yX2_beginWinter cX2_beginWinter 4 none ∈ mb_GW := mb_tb 721 (by decide +kernel) (by decide +kernel)
theorem wf_X5_33 : Cond.fieldLink RX5 33 "MarinaBerths" "text" "LMarinaBerths$TableText;" ∈ mb_GW := mb_tb 216 (by decide +kernel) (by decide +kernel)
theorem in_X5 : ∀ w ∈ u_ws RX5 TX5 6, w ∈ mb_GW := by
  have e : u_ws RX5 TX5 6 = [Cond.laysFinal RX5 "MarinaBerths" "now" "LMarinaBerths$Marina;", Cond.laysFinal RX5 "MarinaBerths" "thought" "LMarinaBerths$Marina;", Cond.laysFinal RX5 "MarinaBerths" "records" "[LMarinaBerths$Marina;", Cond.lays RX5 "MarinaBerths" "recordCount" "I", Cond.laysFinal RX5 "MarinaBerths" "plan" "LMarinaBerths$WinterPlan;", Cond.laysFinal RX5 "MarinaBerths" "text" "LMarinaBerths$TableText;"] := rfl
  rw [e]
  intro w hw
  simp only [List.mem_cons, List.not_mem_nil, or_false] at hw
  rcases hw with rfl | rfl | rfl | rfl | rfl | rfl
  · exact mb_tb 217 (by decide +kernel) (by decide +kernel)
  · exact mb_tb 219 (by decide +kernel) (by decide +kernel)
  · exact mb_tb 221 (by decide +kernel) (by decide +kernel)
  · exact mb_tb 223 (by decide +kernel) (by decide +kernel)
  · exact mb_tb 225 (by decide +kernel) (by decide +kernel)
  · exact mb_tb 227 (by decide +kernel) (by decide +kernel)
theorem gf_X5_33 {l : Launch} {G : mb_G} {cc : ByteArray} {nL : Nat} {ret : Option FieldType} {d pc pn : Nat} {lv : List (Nat × mb_AV)} {st : List mb_AV} {h : mb_AH} {res : mb_RS} {a b : Nat} (dg : decode cc pc = .ok (.getfield 33, 3)) (hn : pc + 3 = pn) (kk : mb_Ev l G RX5 cc nL ret d pn lv (mb_F 5 0 0 :: st) h res) : mb_Ev l G RX5 cc nL ret d pc lv (mb_F 0 a b :: st) h res := mb_get (v := mb_F 5 0 0) (ci := 5) (j := 5) in_X5 rfl (by decide) wf_X5_33 rfl rfl (fun _ => ⟨by decide, by decide⟩) dg hn kk
theorem wl_X5_37 : Cond.methodLink RX5 37 yX3_findFault ∈ mb_GW := mb_tb 285 (by decide +kernel) (by decide +kernel)
theorem mi_X3_findFault : Cond.instanceMethod yX3_findFault ∈ mb_GW := mb_tb 286 (by decide +kernel) (by decide +kernel)
theorem ms_X3_findFault : Cond.selects RX3 yX3_findFault yX3_findFault ∈ mb_GW := mb_tb 287 (by decide +kernel) (by decide +kernel)
theorem mc_X3_findFault : Cond.code yX3_findFault cX3_findFault 6 (some .int) ∈ mb_GW := mb_tb 288 (by decide +kernel) (by decide +kernel)
theorem wf_X5_312 : Cond.fieldLink RX5 312 "MarinaBerths" "recordCount" "I" ∈ mb_GW := mb_tb 214 (by decide +kernel) (by decide +kernel)
theorem gf_X5_312 {l : Launch} {G : mb_G} {cc : ByteArray} {nL : Nat} {ret : Option FieldType} {d pc pn : Nat} {lv : List (Nat × mb_AV)} {st : List mb_AV} {h : mb_AH} {res : mb_RS} {a b : Nat} (dg : decode cc pc = .ok (.getfield 312, 3)) (hn : pc + 3 = pn) (kk : mb_Ev l G RX5 cc nL ret d pn lv (.inl (h.1 0 a b 3) :: st) h res) : mb_Ev l G RX5 cc nL ret d pc lv (mb_F 0 a b :: st) h res := mb_get (v := .inl (h.1 0 a b 3)) (ci := 5) (j := 3) in_X5 rfl (by decide) wf_X5_312 rfl rfl (fun _ => trivial) dg hn kk
theorem wf_X5_19 : Cond.fieldLink RX5 19 "MarinaBerths" "records" "[LMarinaBerths$Marina;" ∈ mb_GW := mb_tb 213 (by decide +kernel) (by decide +kernel)
theorem gf_X5_19 {l : Launch} {G : mb_G} {cc : ByteArray} {nL : Nat} {ret : Option FieldType} {d pc pn : Nat} {lv : List (Nat × mb_AV)} {st : List mb_AV} {h : mb_AH} {res : mb_RS} {a b : Nat} (dg : decode cc pc = .ok (.getfield 19, 3)) (hn : pc + 3 = pn) (kk : mb_Ev l G RX5 cc nL ret d pn lv (mb_F 13 0 0 :: st) h res) : mb_Ev l G RX5 cc nL ret d pc lv (mb_F 0 a b :: st) h res := mb_get (v := mb_F 13 0 0) (ci := 5) (j := 2) in_X5 rfl (by decide) wf_X5_19 rfl rfl (fun _ => ⟨by decide, by decide⟩) dg hn kk
theorem wf_X5_10 : Cond.fieldLink RX5 10 "MarinaBerths" "now" "LMarinaBerths$Marina;" ∈ mb_GW := mb_tb 211 (by decide +kernel) (by decide +kernel)
theorem gf_X5_10 {l : Launch} {G : mb_G} {cc : ByteArray} {nL : Nat} {ret : Option FieldType} {d pc pn : Nat} {lv : List (Nat × mb_AV)} {st : List mb_AV} {h : mb_AH} {res : mb_RS} {a b : Nat} (dg : decode cc pc = .ok (.getfield 10, 3)) (hn : pc + 3 = pn) (kk : mb_Ev l G RX5 cc nL ret d pn lv (mb_F 1 0 0 :: st) h res) : mb_Ev l G RX5 cc nL ret d pc lv (mb_F 0 a b :: st) h res := mb_get (v := mb_F 1 0 0) (ci := 5) (j := 0) in_X5 rfl (by decide) wf_X5_10 rfl rfl (fun _ => ⟨by decide, by decide⟩) dg hn kk
theorem wl_X5_256 : Cond.methodLink RX5 256 yX2_copyFrom ∈ mb_GW := mb_tb 499 (by decide +kernel) (by decide +kernel)
theorem mi_X2_copyFrom : Cond.instanceMethod yX2_copyFrom ∈ mb_GW := mb_tb 500 (by decide +kernel) (by decide +kernel)
theorem ms_X2_copyFrom : Cond.selects RX2 yX2_copyFrom yX2_copyFrom ∈ mb_GW := mb_tb 501 (by decide +kernel) (by decide +kernel)
theorem mc_X2_copyFrom : Cond.code yX2_copyFrom cX2_copyFrom 3 none ∈ mb_GW := mb_tb 502 (by decide +kernel) (by decide +kernel)
theorem pf_X5_312 {l : Launch} {G : mb_G} {cc : ByteArray} {nL : Nat} {ret : Option FieldType} {d pc pn : Nat} {lv : List (Nat × mb_AV)} {st : List mb_AV} {h : mb_AH} {res : mb_RS} {a b : Nat} {x : Int32} {K : mb_AH → Option mb_RS} (dg : decode cc pc = .ok (.putfield 312, 3)) (hn : pc + 3 = pn) (hr : mb_up (mb_sI h 0 a b 3 x) K = some res) (kk : ∀ h2, K h2 = some res → mb_Ev l G RX5 cc nL ret d pn lv st h2 res) : mb_Ev l G RX5 cc nL ret d pc lv (.inl x :: mb_F 0 a b :: st) h res := mb_putI (ci := 5) (j := 3) (ty := .int) in_X5 tyX5 tyX5_ok nmX5 rfl (by decide) wf_X5_312 rfl rfl rfl rfl rfl (Nat.le_of_ble_eq_true rfl) rfl dg hn (kk _ hr)
theorem wl_X5_333 : Cond.methodLink RX5 333 yX5_dropOldestRecord ∈ mb_GW := mb_tb 495 (by decide +kernel) (by decide +kernel)
theorem mi_X5_dropOldestRecord : Cond.instanceMethod yX5_dropOldestRecord ∈ mb_GW := mb_tb 497 (by decide +kernel) (by decide +kernel)
theorem ms_X5_dropOldestRecord : Cond.selects RX5 yX5_dropOldestRecord yX5_dropOldestRecord ∈ mb_GW := mb_tp 9 (by decide +kernel) (by decide +kernel)
theorem mn_X5 : Cond.initialized RX5 ∈ mb_GW := mb_tb 1 (by decide +kernel) (by decide +kernel)
theorem mc_X5_dropOldestRecord : Cond.code yX5_dropOldestRecord cX5_dropOldestRecord 3 none ∈ mb_GW := mb_tb 498 (by decide +kernel) (by decide +kernel)
theorem wl_X5_48 : Cond.methodLink RX5 48 yX5_remember ∈ mb_GW := mb_tb 491 (by decide +kernel) (by decide +kernel)
theorem mi_X5_remember : Cond.instanceMethod yX5_remember ∈ mb_GW := mb_tb 493 (by decide +kernel) (by decide +kernel)
theorem ms_X5_remember : Cond.selects RX5 yX5_remember yX5_remember ∈ mb_GW := mb_tp 8 (by decide +kernel) (by decide +kernel)
theorem mc_X5_remember : Cond.code yX5_remember cX5_remember 1 none ∈ mb_GW := mb_tb 494 (by decide +kernel) (by decide +kernel)
theorem wl_X5_51 : Cond.methodLink RX5 51 yX2_takeLows ∈ mb_GW := mb_tb 515 (by decide +kernel) (by decide +kernel)
theorem mi_X2_takeLows : Cond.instanceMethod yX2_takeLows ∈ mb_GW := mb_tb 516 (by decide +kernel) (by decide +kernel)
theorem ms_X2_takeLows : Cond.selects RX2 yX2_takeLows yX2_takeLows ∈ mb_GW := mb_tb 517 (by decide +kernel) (by decide +kernel)
theorem mc_X2_takeLows : Cond.code yX2_takeLows cX2_takeLows 3 none ∈ mb_GW := mb_tb 518 (by decide +kernel) (by decide +kernel)
theorem wf_X5_55 : Cond.fieldLink RX5 55 "MarinaBerths$Marina" "lowCount" "I" ∈ mb_GW := mb_tb 119 (by decide +kernel) (by decide +kernel)
theorem gf_X5_55 {l : Launch} {G : mb_G} {cc : ByteArray} {nL : Nat} {ret : Option FieldType} {d pc pn : Nat} {lv : List (Nat × mb_AV)} {st : List mb_AV} {h : mb_AH} {res : mb_RS} {a b : Nat} (dg : decode cc pc = .ok (.getfield 55, 3)) (hn : pc + 3 = pn) (kk : mb_Ev l G RX5 cc nL ret d pn lv (.inl (h.1 1 a b 5) :: st) h res) : mb_Ev l G RX5 cc nL ret d pc lv (mb_F 1 a b :: st) h res := mb_get (v := .inl (h.1 1 a b 5)) (ci := 2) (j := 5) in_X2 rfl (by decide) wf_X5_55 rfl rfl (fun _ => trivial) dg hn kk
theorem wc_X5_41 : Cond.classLink RX5 41 "java/lang/IllegalArgumentException" ∈ mb_GW := mb_tb 331 (by decide +kernel) (by decide +kernel)
theorem mn_IAE : Cond.initialized "java/lang/IllegalArgumentException" ∈ mb_GW := mb_tb 11 (by decide +kernel) (by decide +kernel)
set_option maxRecDepth 100000 in
theorem at_X5_45 : ∀ w ∈ vx_atS RX5 45 "java/lang/IllegalArgumentException" ["java/lang/RuntimeException", "java/lang/Exception"], w ∈ mb_GW ∨ w ∈ mb_FW := by decide +kernel
theorem fn_X5_45 : ∀ n ∈ (["java/lang/RuntimeException", "java/lang/Exception"] : List String), Bundle.fit n = true := by decide +kernel
theorem wl_X5_61 : Cond.methodLink RX5 61 yX2_lowWater ∈ mb_GW := mb_tb 399 (by decide +kernel) (by decide +kernel)
theorem wl_X5_65 : Cond.methodLink RX5 65 yX5_isWithin ∈ mb_GW := mb_tb 535 (by decide +kernel) (by decide +kernel)
theorem mt_X5_isWithin : Cond.static yX5_isWithin ∈ mb_GW := mb_tb 536 (by decide +kernel) (by decide +kernel)
theorem mc_X5_isWithin : Cond.code yX5_isWithin cX5_isWithin 3 (some .boolean) ∈ mb_GW := mb_tb 537 (by decide +kernel) (by decide +kernel)
theorem wk_X5_354 : Cond.constant RX5 354 (9999999) ∈ mb_GW := mb_tb 541 (by decide +kernel) (by decide +kernel)
theorem wl_X5_69 : Cond.methodLink RX5 69 yX5_isRate ∈ mb_GW := mb_tb 538 (by decide +kernel) (by decide +kernel)
theorem mt_X5_isRate : Cond.static yX5_isRate ∈ mb_GW := mb_tb 539 (by decide +kernel) (by decide +kernel)
theorem mc_X5_isRate : Cond.code yX5_isRate cX5_isRate 1 (some .boolean) ∈ mb_GW := mb_tb 540 (by decide +kernel) (by decide +kernel)
theorem wf_X5_75 : Cond.fieldLink RX5 75 "MarinaBerths$Marina" "berthCount" "I" ∈ mb_GW := mb_tb 112 (by decide +kernel) (by decide +kernel)
theorem gf_X5_75 {l : Launch} {G : mb_G} {cc : ByteArray} {nL : Nat} {ret : Option FieldType} {d pc pn : Nat} {lv : List (Nat × mb_AV)} {st : List mb_AV} {h : mb_AH} {res : mb_RS} {a b : Nat} (dg : decode cc pc = .ok (.getfield 75, 3)) (hn : pc + 3 = pn) (kk : mb_Ev l G RX5 cc nL ret d pn lv (.inl (h.1 1 a b 1) :: st) h res) : mb_Ev l G RX5 cc nL ret d pc lv (mb_F 1 a b :: st) h res := mb_get (v := .inl (h.1 1 a b 1)) (ci := 2) (j := 1) in_X2 rfl (by decide) wf_X5_75 rfl rfl (fun _ => trivial) dg hn kk
theorem wf_X5_83 : Cond.fieldLink RX5 83 "MarinaBerths$Marina" "berths" "[LMarinaBerths$Berth;" ∈ mb_GW := mb_tb 110 (by decide +kernel) (by decide +kernel)
theorem gf_X5_83 {l : Launch} {G : mb_G} {cc : ByteArray} {nL : Nat} {ret : Option FieldType} {d pc pn : Nat} {lv : List (Nat × mb_AV)} {st : List mb_AV} {h : mb_AH} {res : mb_RS} {a b : Nat} (dg : decode cc pc = .ok (.getfield 83, 3)) (hn : pc + 3 = pn) (kk : mb_Ev l G RX5 cc nL ret d pn lv (mb_F 10 a 0 :: st) h res) : mb_Ev l G RX5 cc nL ret d pc lv (mb_F 1 a b :: st) h res := mb_get (v := mb_F 10 a 0) (ci := 2) (j := 0) in_X2 rfl (by decide) wf_X5_83 rfl rfl (fun z => ⟨z.1, Nat.zero_lt_one⟩) dg hn kk
theorem wl_X5_87 : Cond.methodLink RX5 87 yX0_become ∈ mb_GW := mb_tb 559 (by decide +kernel) (by decide +kernel)
theorem pf_X5_75 {l : Launch} {G : mb_G} {cc : ByteArray} {nL : Nat} {ret : Option FieldType} {d pc pn : Nat} {lv : List (Nat × mb_AV)} {st : List mb_AV} {h : mb_AH} {res : mb_RS} {a b : Nat} {x : Int32} {K : mb_AH → Option mb_RS} (dg : decode cc pc = .ok (.putfield 75, 3)) (hn : pc + 3 = pn) (hr : mb_up (mb_sI h 1 a b 1 x) K = some res) (kk : ∀ h2, K h2 = some res → mb_Ev l G RX5 cc nL ret d pn lv st h2 res) : mb_Ev l G RX5 cc nL ret d pc lv (.inl x :: mb_F 1 a b :: st) h res := mb_putI (ci := 2) (j := 1) (ty := .int) in_X2 tyX2 tyX2_ok nmX2 rfl (by decide) wf_X5_75 rfl rfl rfl rfl rfl (Nat.le_of_ble_eq_true rfl) rfl dg hn (kk _ hr)
theorem wc_X5_78 : Cond.classLink RX5 78 "java/lang/IllegalStateException" ∈ mb_GW := mb_tb 543 (by decide +kernel) (by decide +kernel)
theorem mn_ISE : Cond.initialized "java/lang/IllegalStateException" ∈ mb_GW := mb_tb 13 (by decide +kernel) (by decide +kernel)
set_option maxRecDepth 100000 in
theorem at_X5_82 : ∀ w ∈ vx_atS RX5 82 "java/lang/IllegalStateException" ["java/lang/RuntimeException", "java/lang/Exception"], w ∈ mb_GW ∨ w ∈ mb_FW := by decide +kernel
theorem fn_X5_82 : ∀ n ∈ (["java/lang/RuntimeException", "java/lang/Exception"] : List String), Bundle.fit n = true := by decide +kernel
theorem wf_X5_95 : Cond.fieldLink RX5 95 "MarinaBerths$Marina" "boatCount" "I" ∈ mb_GW := mb_tb 116 (by decide +kernel) (by decide +kernel)
theorem gf_X5_95 {l : Launch} {G : mb_G} {cc : ByteArray} {nL : Nat} {ret : Option FieldType} {d pc pn : Nat} {lv : List (Nat × mb_AV)} {st : List mb_AV} {h : mb_AH} {res : mb_RS} {a b : Nat} (dg : decode cc pc = .ok (.getfield 95, 3)) (hn : pc + 3 = pn) (kk : mb_Ev l G RX5 cc nL ret d pn lv (.inl (h.1 1 a b 3) :: st) h res) : mb_Ev l G RX5 cc nL ret d pc lv (mb_F 1 a b :: st) h res := mb_get (v := .inl (h.1 1 a b 3)) (ci := 2) (j := 3) in_X2 rfl (by decide) wf_X5_95 rfl rfl (fun _ => trivial) dg hn kk
theorem wf_X5_100 : Cond.fieldLink RX5 100 "MarinaBerths$Marina" "boats" "[LMarinaBerths$Boat;" ∈ mb_GW := mb_tb 114 (by decide +kernel) (by decide +kernel)
theorem gf_X5_100 {l : Launch} {G : mb_G} {cc : ByteArray} {nL : Nat} {ret : Option FieldType} {d pc pn : Nat} {lv : List (Nat × mb_AV)} {st : List mb_AV} {h : mb_AH} {res : mb_RS} {a b : Nat} (dg : decode cc pc = .ok (.getfield 100, 3)) (hn : pc + 3 = pn) (kk : mb_Ev l G RX5 cc nL ret d pn lv (mb_F 11 a 0 :: st) h res) : mb_Ev l G RX5 cc nL ret d pc lv (mb_F 1 a b :: st) h res := mb_get (v := mb_F 11 a 0) (ci := 2) (j := 2) in_X2 rfl (by decide) wf_X5_100 rfl rfl (fun z => ⟨z.1, Nat.zero_lt_one⟩) dg hn kk
theorem wl_X5_104 : Cond.methodLink RX5 104 yX1_become ∈ mb_GW := mb_tb 569 (by decide +kernel) (by decide +kernel)
theorem mi_X1_become : Cond.instanceMethod yX1_become ∈ mb_GW := mb_tb 570 (by decide +kernel) (by decide +kernel)
theorem ms_X1_become : Cond.selects RX1 yX1_become yX1_become ∈ mb_GW := mb_tb 571 (by decide +kernel) (by decide +kernel)
theorem mc_X1_become : Cond.code yX1_become cX1_become 4 none ∈ mb_GW := mb_tb 572 (by decide +kernel) (by decide +kernel)
theorem pf_X5_95 {l : Launch} {G : mb_G} {cc : ByteArray} {nL : Nat} {ret : Option FieldType} {d pc pn : Nat} {lv : List (Nat × mb_AV)} {st : List mb_AV} {h : mb_AH} {res : mb_RS} {a b : Nat} {x : Int32} {K : mb_AH → Option mb_RS} (dg : decode cc pc = .ok (.putfield 95, 3)) (hn : pc + 3 = pn) (hr : mb_up (mb_sI h 1 a b 3 x) K = some res) (kk : ∀ h2, K h2 = some res → mb_Ev l G RX5 cc nL ret d pn lv st h2 res) : mb_Ev l G RX5 cc nL ret d pc lv (.inl x :: mb_F 1 a b :: st) h res := mb_putI (ci := 2) (j := 3) (ty := .int) in_X2 tyX2 tyX2_ok nmX2 rfl (by decide) wf_X5_95 rfl rfl rfl rfl rfl (Nat.le_of_ble_eq_true rfl) rfl dg hn (kk _ hr)
theorem wl_X5_351 : Cond.methodLink RX5 351 yX5_isDayOfYear ∈ mb_GW := mb_tb 592 (by decide +kernel) (by decide +kernel)
theorem mt_X5_isDayOfYear : Cond.static yX5_isDayOfYear ∈ mb_GW := mb_tb 593 (by decide +kernel) (by decide +kernel)
theorem mc_X5_isDayOfYear : Cond.code yX5_isDayOfYear cX5_isDayOfYear 1 (some .boolean) ∈ mb_GW := mb_tb 594 (by decide +kernel) (by decide +kernel)
theorem wf_X5_127 : Cond.fieldLink RX5 127 "MarinaBerths$Marina" "firstOfSpring" "I" ∈ mb_GW := mb_tb 129 (by decide +kernel) (by decide +kernel)
theorem gf_X5_127 {l : Launch} {G : mb_G} {cc : ByteArray} {nL : Nat} {ret : Option FieldType} {d pc pn : Nat} {lv : List (Nat × mb_AV)} {st : List mb_AV} {h : mb_AH} {res : mb_RS} {a b : Nat} (dg : decode cc pc = .ok (.getfield 127, 3)) (hn : pc + 3 = pn) (kk : mb_Ev l G RX5 cc nL ret d pn lv (.inl (h.1 1 a b 10) :: st) h res) : mb_Ev l G RX5 cc nL ret d pc lv (mb_F 1 a b :: st) h res := mb_get (v := .inl (h.1 1 a b 10)) (ci := 2) (j := 10) in_X2 rfl (by decide) wf_X5_127 rfl rfl (fun _ => trivial) dg hn kk
theorem wf_X5_124 : Cond.fieldLink RX5 124 "MarinaBerths$Marina" "firstOfWinter" "I" ∈ mb_GW := mb_tb 127 (by decide +kernel) (by decide +kernel)
theorem gf_X5_124 {l : Launch} {G : mb_G} {cc : ByteArray} {nL : Nat} {ret : Option FieldType} {d pc pn : Nat} {lv : List (Nat × mb_AV)} {st : List mb_AV} {h : mb_AH} {res : mb_RS} {a b : Nat} (dg : decode cc pc = .ok (.getfield 124, 3)) (hn : pc + 3 = pn) (kk : mb_Ev l G RX5 cc nL ret d pn lv (.inl (h.1 1 a b 9) :: st) h res) : mb_Ev l G RX5 cc nL ret d pc lv (mb_F 1 a b :: st) h res := mb_get (v := .inl (h.1 1 a b 9)) (ci := 2) (j := 9) in_X2 rfl (by decide) wf_X5_124 rfl rfl (fun _ => trivial) dg hn kk
theorem mb_out0_3 {x : Int32} (q0 : x ≠ 0) (q1 : x ≠ 1) (q2 : x ≠ 2) (q3 : x ≠ 3) : x.toInt < 0 ∨ 3 < x.toInt := by
  rcases Int.lt_or_le x.toInt 0 with z | z
  · exact Or.inl z
  · rcases Int.lt_or_le 3 x.toInt with z2 | z2
    · exact Or.inr z2
    · exfalso
      have e : x.toInt = 0 ∨ x.toInt = 1 ∨ x.toInt = 2 ∨ x.toInt = 3 := by omega
      rcases e with e | e | e | e
      · exact q0 (Int32.toInt_inj.mp (e.trans (by decide)))
      · exact q1 (Int32.toInt_inj.mp (e.trans (by decide)))
      · exact q2 (Int32.toInt_inj.mp (e.trans (by decide)))
      · exact q3 (Int32.toInt_inj.mp (e.trans (by decide)))
theorem wl_X5_109 : Cond.methodLink RX5 109 yX5_maySet ∈ mb_GW := mb_tb 588 (by decide +kernel) (by decide +kernel)
theorem mi_X5_maySet : Cond.instanceMethod yX5_maySet ∈ mb_GW := mb_tb 590 (by decide +kernel) (by decide +kernel)
theorem ms_X5_maySet : Cond.selects RX5 yX5_maySet yX5_maySet ∈ mb_GW := mb_tp 10 (by decide +kernel) (by decide +kernel)
theorem mc_X5_maySet : Cond.code yX5_maySet cX5_maySet 3 (some .boolean) ∈ mb_GW := mb_tb 591 (by decide +kernel) (by decide +kernel)
theorem wf_X5_118 : Cond.fieldLink RX5 118 "MarinaBerths$Marina" "clearance" "I" ∈ mb_GW := mb_tb 123 (by decide +kernel) (by decide +kernel)
theorem gf_X5_118 {l : Launch} {G : mb_G} {cc : ByteArray} {nL : Nat} {ret : Option FieldType} {d pc pn : Nat} {lv : List (Nat × mb_AV)} {st : List mb_AV} {h : mb_AH} {res : mb_RS} {a b : Nat} (dg : decode cc pc = .ok (.getfield 118, 3)) (hn : pc + 3 = pn) (kk : mb_Ev l G RX5 cc nL ret d pn lv (.inl (h.1 1 a b 7) :: st) h res) : mb_Ev l G RX5 cc nL ret d pc lv (mb_F 1 a b :: st) h res := mb_get (v := .inl (h.1 1 a b 7)) (ci := 2) (j := 7) in_X2 rfl (by decide) wf_X5_118 rfl rfl (fun _ => trivial) dg hn kk
theorem wf_X5_121 : Cond.fieldLink RX5 121 "MarinaBerths$Marina" "rateAshore" "I" ∈ mb_GW := mb_tb 125 (by decide +kernel) (by decide +kernel)
theorem gf_X5_121 {l : Launch} {G : mb_G} {cc : ByteArray} {nL : Nat} {ret : Option FieldType} {d pc pn : Nat} {lv : List (Nat × mb_AV)} {st : List mb_AV} {h : mb_AH} {res : mb_RS} {a b : Nat} (dg : decode cc pc = .ok (.getfield 121, 3)) (hn : pc + 3 = pn) (kk : mb_Ev l G RX5 cc nL ret d pn lv (.inl (h.1 1 a b 8) :: st) h res) : mb_Ev l G RX5 cc nL ret d pc lv (mb_F 1 a b :: st) h res := mb_get (v := .inl (h.1 1 a b 8)) (ci := 2) (j := 8) in_X2 rfl (by decide) wf_X5_121 rfl rfl (fun _ => trivial) dg hn kk
theorem wf_X5_200 : Cond.fieldLink RX5 200 "MarinaBerths$Marina" "day" "I" ∈ mb_GW := mb_tb 131 (by decide +kernel) (by decide +kernel)
theorem gf_X5_200 {l : Launch} {G : mb_G} {cc : ByteArray} {nL : Nat} {ret : Option FieldType} {d pc pn : Nat} {lv : List (Nat × mb_AV)} {st : List mb_AV} {h : mb_AH} {res : mb_RS} {a b : Nat} (dg : decode cc pc = .ok (.getfield 200, 3)) (hn : pc + 3 = pn) (kk : mb_Ev l G RX5 cc nL ret d pn lv (.inl (h.1 1 a b 11) :: st) h res) : mb_Ev l G RX5 cc nL ret d pc lv (mb_F 1 a b :: st) h res := mb_get (v := .inl (h.1 1 a b 11)) (ci := 2) (j := 11) in_X2 rfl (by decide) wf_X5_200 rfl rfl (fun _ => trivial) dg hn kk
theorem wf_X5_203 : Cond.fieldLink RX5 203 "MarinaBerths$Marina" "winter" "Z" ∈ mb_GW := mb_tb 133 (by decide +kernel) (by decide +kernel)
theorem gf_X5_203 {l : Launch} {G : mb_G} {cc : ByteArray} {nL : Nat} {ret : Option FieldType} {d pc pn : Nat} {lv : List (Nat × mb_AV)} {st : List mb_AV} {h : mb_AH} {res : mb_RS} {a b : Nat} (dg : decode cc pc = .ok (.getfield 203, 3)) (hn : pc + 3 = pn) (kk : mb_Ev l G RX5 cc nL ret d pn lv (.inl (h.1 1 a b 12) :: st) h res) : mb_Ev l G RX5 cc nL ret d pc lv (mb_F 1 a b :: st) h res := mb_get (v := .inl (h.1 1 a b 12)) (ci := 2) (j := 12) in_X2 rfl (by decide) wf_X5_203 rfl rfl (fun _ => trivial) dg hn kk
theorem wl_X5_206 : Cond.methodLink RX5 206 yX2_countIn ∈ mb_GW := mb_tb 311 (by decide +kernel) (by decide +kernel)
theorem mi_X2_countIn : Cond.instanceMethod yX2_countIn ∈ mb_GW := mb_tb 312 (by decide +kernel) (by decide +kernel)
theorem ms_X2_countIn : Cond.selects RX2 yX2_countIn yX2_countIn ∈ mb_GW := mb_tb 313 (by decide +kernel) (by decide +kernel)
theorem mc_X2_countIn : Cond.code yX2_countIn cX2_countIn 4 (some .int) ∈ mb_GW := mb_tb 314 (by decide +kernel) (by decide +kernel)
theorem wl_X5_209 : Cond.methodLink RX5 209 yX2_countAground ∈ mb_GW := mb_tb 315 (by decide +kernel) (by decide +kernel)
theorem mi_X2_countAground : Cond.instanceMethod yX2_countAground ∈ mb_GW := mb_tb 316 (by decide +kernel) (by decide +kernel)
theorem ms_X2_countAground : Cond.selects RX2 yX2_countAground yX2_countAground ∈ mb_GW := mb_tb 317 (by decide +kernel) (by decide +kernel)
theorem mc_X2_countAground : Cond.code yX2_countAground cX2_countAground 3 (some .int) ∈ mb_GW := mb_tb 318 (by decide +kernel) (by decide +kernel)
theorem wf_X5_152 : Cond.fieldLink RX5 152 "MarinaBerths$Marina" "lowest" "I" ∈ mb_GW := mb_tb 121 (by decide +kernel) (by decide +kernel)
theorem gf_X5_152 {l : Launch} {G : mb_G} {cc : ByteArray} {nL : Nat} {ret : Option FieldType} {d pc pn : Nat} {lv : List (Nat × mb_AV)} {st : List mb_AV} {h : mb_AH} {res : mb_RS} {a b : Nat} (dg : decode cc pc = .ok (.getfield 152, 3)) (hn : pc + 3 = pn) (kk : mb_Ev l G RX5 cc nL ret d pn lv (.inl (h.1 1 a b 6) :: st) h res) : mb_Ev l G RX5 cc nL ret d pc lv (mb_F 1 a b :: st) h res := mb_get (v := .inl (h.1 1 a b 6)) (ci := 2) (j := 6) in_X2 rfl (by decide) wf_X5_152 rfl rfl (fun _ => trivial) dg hn kk
theorem mb_out0_13 {x : Int32} (q0 : x ≠ 0) (q1 : x ≠ 1) (q2 : x ≠ 2) (q3 : x ≠ 3) (q4 : x ≠ 4) (q5 : x ≠ 5) (q6 : x ≠ 6) (q7 : x ≠ 7) (q8 : x ≠ 8) (q9 : x ≠ 9) (q10 : x ≠ 10) (q11 : x ≠ 11) (q12 : x ≠ 12) (q13 : x ≠ 13) : x.toInt < 0 ∨ 13 < x.toInt := by
  rcases Int.lt_or_le x.toInt 0 with z | z
  · exact Or.inl z
  · rcases Int.lt_or_le 13 x.toInt with z2 | z2
    · exact Or.inr z2
    · exfalso
      have e : x.toInt = 0 ∨ x.toInt = 1 ∨ x.toInt = 2 ∨ x.toInt = 3 ∨ x.toInt = 4 ∨ x.toInt = 5 ∨ x.toInt = 6 ∨ x.toInt = 7 ∨ x.toInt = 8 ∨ x.toInt = 9 ∨ x.toInt = 10 ∨ x.toInt = 11 ∨ x.toInt = 12 ∨ x.toInt = 13 := by omega
      rcases e with e | e | e | e | e | e | e | e | e | e | e | e | e | e
      · exact q0 (Int32.toInt_inj.mp (e.trans (by decide)))
      · exact q1 (Int32.toInt_inj.mp (e.trans (by decide)))
      · exact q2 (Int32.toInt_inj.mp (e.trans (by decide)))
      · exact q3 (Int32.toInt_inj.mp (e.trans (by decide)))
      · exact q4 (Int32.toInt_inj.mp (e.trans (by decide)))
      · exact q5 (Int32.toInt_inj.mp (e.trans (by decide)))
      · exact q6 (Int32.toInt_inj.mp (e.trans (by decide)))
      · exact q7 (Int32.toInt_inj.mp (e.trans (by decide)))
      · exact q8 (Int32.toInt_inj.mp (e.trans (by decide)))
      · exact q9 (Int32.toInt_inj.mp (e.trans (by decide)))
      · exact q10 (Int32.toInt_inj.mp (e.trans (by decide)))
      · exact q11 (Int32.toInt_inj.mp (e.trans (by decide)))
      · exact q12 (Int32.toInt_inj.mp (e.trans (by decide)))
      · exact q13 (Int32.toInt_inj.mp (e.trans (by decide)))
theorem wl_X5_115 : Cond.methodLink RX5 115 yX5_info ∈ mb_GW := mb_tb 307 (by decide +kernel) (by decide +kernel)
theorem mi_X5_info : Cond.instanceMethod yX5_info ∈ mb_GW := mb_tb 308 (by decide +kernel) (by decide +kernel)
theorem ms_X5_info : Cond.selects RX5 yX5_info yX5_info ∈ mb_GW := mb_tb 309 (by decide +kernel) (by decide +kernel)
theorem mc_X5_info : Cond.code yX5_info cX5_info 2 (some .int) ∈ mb_GW := mb_tb 310 (by decide +kernel) (by decide +kernel)
theorem pf_X5_118 {l : Launch} {G : mb_G} {cc : ByteArray} {nL : Nat} {ret : Option FieldType} {d pc pn : Nat} {lv : List (Nat × mb_AV)} {st : List mb_AV} {h : mb_AH} {res : mb_RS} {a b : Nat} {x : Int32} {K : mb_AH → Option mb_RS} (dg : decode cc pc = .ok (.putfield 118, 3)) (hn : pc + 3 = pn) (hr : mb_up (mb_sI h 1 a b 7 x) K = some res) (kk : ∀ h2, K h2 = some res → mb_Ev l G RX5 cc nL ret d pn lv st h2 res) : mb_Ev l G RX5 cc nL ret d pc lv (.inl x :: mb_F 1 a b :: st) h res := mb_putI (ci := 2) (j := 7) (ty := .int) in_X2 tyX2 tyX2_ok nmX2 rfl (by decide) wf_X5_118 rfl rfl rfl rfl rfl (Nat.le_of_ble_eq_true rfl) rfl dg hn (kk _ hr)
theorem pf_X5_121 {l : Launch} {G : mb_G} {cc : ByteArray} {nL : Nat} {ret : Option FieldType} {d pc pn : Nat} {lv : List (Nat × mb_AV)} {st : List mb_AV} {h : mb_AH} {res : mb_RS} {a b : Nat} {x : Int32} {K : mb_AH → Option mb_RS} (dg : decode cc pc = .ok (.putfield 121, 3)) (hn : pc + 3 = pn) (hr : mb_up (mb_sI h 1 a b 8 x) K = some res) (kk : ∀ h2, K h2 = some res → mb_Ev l G RX5 cc nL ret d pn lv st h2 res) : mb_Ev l G RX5 cc nL ret d pc lv (.inl x :: mb_F 1 a b :: st) h res := mb_putI (ci := 2) (j := 8) (ty := .int) in_X2 tyX2 tyX2_ok nmX2 rfl (by decide) wf_X5_121 rfl rfl rfl rfl rfl (Nat.le_of_ble_eq_true rfl) rfl dg hn (kk _ hr)
theorem pf_X5_124 {l : Launch} {G : mb_G} {cc : ByteArray} {nL : Nat} {ret : Option FieldType} {d pc pn : Nat} {lv : List (Nat × mb_AV)} {st : List mb_AV} {h : mb_AH} {res : mb_RS} {a b : Nat} {x : Int32} {K : mb_AH → Option mb_RS} (dg : decode cc pc = .ok (.putfield 124, 3)) (hn : pc + 3 = pn) (hr : mb_up (mb_sI h 1 a b 9 x) K = some res) (kk : ∀ h2, K h2 = some res → mb_Ev l G RX5 cc nL ret d pn lv st h2 res) : mb_Ev l G RX5 cc nL ret d pc lv (.inl x :: mb_F 1 a b :: st) h res := mb_putI (ci := 2) (j := 9) (ty := .int) in_X2 tyX2 tyX2_ok nmX2 rfl (by decide) wf_X5_124 rfl rfl rfl rfl rfl (Nat.le_of_ble_eq_true rfl) rfl dg hn (kk _ hr)
theorem pf_X5_127 {l : Launch} {G : mb_G} {cc : ByteArray} {nL : Nat} {ret : Option FieldType} {d pc pn : Nat} {lv : List (Nat × mb_AV)} {st : List mb_AV} {h : mb_AH} {res : mb_RS} {a b : Nat} {x : Int32} {K : mb_AH → Option mb_RS} (dg : decode cc pc = .ok (.putfield 127, 3)) (hn : pc + 3 = pn) (hr : mb_up (mb_sI h 1 a b 10 x) K = some res) (kk : ∀ h2, K h2 = some res → mb_Ev l G RX5 cc nL ret d pn lv st h2 res) : mb_Ev l G RX5 cc nL ret d pc lv (.inl x :: mb_F 1 a b :: st) h res := mb_putI (ci := 2) (j := 10) (ty := .int) in_X2 tyX2 tyX2_ok nmX2 rfl (by decide) wf_X5_127 rfl rfl rfl rfl rfl (Nat.le_of_ble_eq_true rfl) rfl dg hn (kk _ hr)
theorem mb_out0_2 {x : Int32} (q0 : x ≠ 0) (q1 : x ≠ 1) (q2 : x ≠ 2) : x.toInt < 0 ∨ 2 < x.toInt := by
  rcases Int.lt_or_le x.toInt 0 with z | z
  · exact Or.inl z
  · rcases Int.lt_or_le 2 x.toInt with z2 | z2
    · exact Or.inr z2
    · exfalso
      have e : x.toInt = 0 ∨ x.toInt = 1 ∨ x.toInt = 2 := by omega
      rcases e with e | e | e
      · exact q0 (Int32.toInt_inj.mp (e.trans (by decide)))
      · exact q1 (Int32.toInt_inj.mp (e.trans (by decide)))
      · exact q2 (Int32.toInt_inj.mp (e.trans (by decide)))
theorem wc_X5_342 : Cond.classLink RX5 342 "java/lang/IndexOutOfBoundsException" ∈ mb_GW := mb_tb 412 (by decide +kernel) (by decide +kernel)
theorem mn_IOE : Cond.initialized "java/lang/IndexOutOfBoundsException" ∈ mb_GW := mb_tb 14 (by decide +kernel) (by decide +kernel)
set_option maxRecDepth 100000 in
theorem at_X5_346 : ∀ w ∈ vx_atS RX5 346 "java/lang/IndexOutOfBoundsException" ["java/lang/RuntimeException", "java/lang/Exception"], w ∈ mb_GW ∨ w ∈ mb_FW := by decide +kernel
theorem fn_X5_346 : ∀ n ∈ (["java/lang/RuntimeException", "java/lang/Exception"] : List String), Bundle.fit n = true := by decide +kernel
theorem wl_X5_130 : Cond.methodLink RX5 130 yX5_checkBerth ∈ mb_GW := mb_tb 408 (by decide +kernel) (by decide +kernel)
theorem mi_X5_checkBerth : Cond.instanceMethod yX5_checkBerth ∈ mb_GW := mb_tb 410 (by decide +kernel) (by decide +kernel)
theorem ms_X5_checkBerth : Cond.selects RX5 yX5_checkBerth yX5_checkBerth ∈ mb_GW := mb_tp 5 (by decide +kernel) (by decide +kernel)
theorem mc_X5_checkBerth : Cond.code yX5_checkBerth cX5_checkBerth 2 none ∈ mb_GW := mb_tb 411 (by decide +kernel) (by decide +kernel)
theorem wf_X5_136 : Cond.fieldLink RX5 136 "MarinaBerths$Berth" "rate" "I" ∈ mb_GW := mb_tb 48 (by decide +kernel) (by decide +kernel)
theorem gf_X5_136 {l : Launch} {G : mb_G} {cc : ByteArray} {nL : Nat} {ret : Option FieldType} {d pc pn : Nat} {lv : List (Nat × mb_AV)} {st : List mb_AV} {h : mb_AH} {res : mb_RS} {a b : Nat} (dg : decode cc pc = .ok (.getfield 136, 3)) (hn : pc + 3 = pn) (kk : mb_Ev l G RX5 cc nL ret d pn lv (.inl (h.1 2 a b 3) :: st) h res) : mb_Ev l G RX5 cc nL ret d pc lv (mb_F 2 a b :: st) h res := mb_get (v := .inl (h.1 2 a b 3)) (ci := 0) (j := 3) in_X0 rfl (by decide) wf_X5_136 rfl rfl (fun _ => trivial) dg hn kk
theorem pf_X5_136 {l : Launch} {G : mb_G} {cc : ByteArray} {nL : Nat} {ret : Option FieldType} {d pc pn : Nat} {lv : List (Nat × mb_AV)} {st : List mb_AV} {h : mb_AH} {res : mb_RS} {a b : Nat} {x : Int32} {K : mb_AH → Option mb_RS} (dg : decode cc pc = .ok (.putfield 136, 3)) (hn : pc + 3 = pn) (hr : mb_up (mb_sI h 2 a b 3 x) K = some res) (kk : ∀ h2, K h2 = some res → mb_Ev l G RX5 cc nL ret d pn lv st h2 res) : mb_Ev l G RX5 cc nL ret d pc lv (.inl x :: mb_F 2 a b :: st) h res := mb_putI (ci := 0) (j := 3) (ty := .int) in_X0 tyX0 tyX0_ok nmX0 rfl (by decide) wf_X5_136 rfl rfl rfl rfl rfl (Nat.le_of_ble_eq_true rfl) rfl dg hn (kk _ hr)
theorem wf_X5_139 : Cond.fieldLink RX5 139 "MarinaBerths$Berth" "depth" "I" ∈ mb_GW := mb_tb 40 (by decide +kernel) (by decide +kernel)
theorem gf_X5_139 {l : Launch} {G : mb_G} {cc : ByteArray} {nL : Nat} {ret : Option FieldType} {d pc pn : Nat} {lv : List (Nat × mb_AV)} {st : List mb_AV} {h : mb_AH} {res : mb_RS} {a b : Nat} (dg : decode cc pc = .ok (.getfield 139, 3)) (hn : pc + 3 = pn) (kk : mb_Ev l G RX5 cc nL ret d pn lv (.inl (h.1 2 a b 0) :: st) h res) : mb_Ev l G RX5 cc nL ret d pc lv (mb_F 2 a b :: st) h res := mb_get (v := .inl (h.1 2 a b 0)) (ci := 0) (j := 0) in_X0 rfl (by decide) wf_X5_139 rfl rfl (fun _ => trivial) dg hn kk
theorem wf_X5_142 : Cond.fieldLink RX5 142 "MarinaBerths$Berth" "length" "I" ∈ mb_GW := mb_tb 43 (by decide +kernel) (by decide +kernel)
theorem gf_X5_142 {l : Launch} {G : mb_G} {cc : ByteArray} {nL : Nat} {ret : Option FieldType} {d pc pn : Nat} {lv : List (Nat × mb_AV)} {st : List mb_AV} {h : mb_AH} {res : mb_RS} {a b : Nat} (dg : decode cc pc = .ok (.getfield 142, 3)) (hn : pc + 3 = pn) (kk : mb_Ev l G RX5 cc nL ret d pn lv (.inl (h.1 2 a b 1) :: st) h res) : mb_Ev l G RX5 cc nL ret d pc lv (mb_F 2 a b :: st) h res := mb_get (v := .inl (h.1 2 a b 1)) (ci := 0) (j := 1) in_X0 rfl (by decide) wf_X5_142 rfl rfl (fun _ => trivial) dg hn kk
theorem wf_X5_145 : Cond.fieldLink RX5 145 "MarinaBerths$Berth" "exposed" "Z" ∈ mb_GW := mb_tb 45 (by decide +kernel) (by decide +kernel)
theorem gf_X5_145 {l : Launch} {G : mb_G} {cc : ByteArray} {nL : Nat} {ret : Option FieldType} {d pc pn : Nat} {lv : List (Nat × mb_AV)} {st : List mb_AV} {h : mb_AH} {res : mb_RS} {a b : Nat} (dg : decode cc pc = .ok (.getfield 145, 3)) (hn : pc + 3 = pn) (kk : mb_Ev l G RX5 cc nL ret d pn lv (.inl (h.1 2 a b 2) :: st) h res) : mb_Ev l G RX5 cc nL ret d pc lv (mb_F 2 a b :: st) h res := mb_get (v := .inl (h.1 2 a b 2)) (ci := 0) (j := 2) in_X0 rfl (by decide) wf_X5_145 rfl rfl (fun _ => trivial) dg hn kk
theorem wl_X5_149 : Cond.methodLink RX5 149 yX2_boatIn ∈ mb_GW := mb_tb 428 (by decide +kernel) (by decide +kernel)
theorem wl_X5_155 : Cond.methodLink RX5 155 yX2_countFitting ∈ mb_GW := mb_tb 432 (by decide +kernel) (by decide +kernel)
theorem mi_X2_countFitting : Cond.instanceMethod yX2_countFitting ∈ mb_GW := mb_tb 433 (by decide +kernel) (by decide +kernel)
theorem ms_X2_countFitting : Cond.selects RX2 yX2_countFitting yX2_countFitting ∈ mb_GW := mb_tb 434 (by decide +kernel) (by decide +kernel)
theorem mc_X2_countFitting : Cond.code yX2_countFitting cX2_countFitting 4 (some .int) ∈ mb_GW := mb_tb 435 (by decide +kernel) (by decide +kernel)
theorem mb_out0_6 {x : Int32} (q0 : x ≠ 0) (q1 : x ≠ 1) (q2 : x ≠ 2) (q3 : x ≠ 3) (q4 : x ≠ 4) (q5 : x ≠ 5) (q6 : x ≠ 6) : x.toInt < 0 ∨ 6 < x.toInt := by
  rcases Int.lt_or_le x.toInt 0 with z | z
  · exact Or.inl z
  · rcases Int.lt_or_le 6 x.toInt with z2 | z2
    · exact Or.inr z2
    · exfalso
      have e : x.toInt = 0 ∨ x.toInt = 1 ∨ x.toInt = 2 ∨ x.toInt = 3 ∨ x.toInt = 4 ∨ x.toInt = 5 ∨ x.toInt = 6 := by omega
      rcases e with e | e | e | e | e | e | e
      · exact q0 (Int32.toInt_inj.mp (e.trans (by decide)))
      · exact q1 (Int32.toInt_inj.mp (e.trans (by decide)))
      · exact q2 (Int32.toInt_inj.mp (e.trans (by decide)))
      · exact q3 (Int32.toInt_inj.mp (e.trans (by decide)))
      · exact q4 (Int32.toInt_inj.mp (e.trans (by decide)))
      · exact q5 (Int32.toInt_inj.mp (e.trans (by decide)))
      · exact q6 (Int32.toInt_inj.mp (e.trans (by decide)))
theorem wl_X5_161 : Cond.methodLink RX5 161 yX5_checkBoat ∈ mb_GW := mb_tb 453 (by decide +kernel) (by decide +kernel)
theorem mi_X5_checkBoat : Cond.instanceMethod yX5_checkBoat ∈ mb_GW := mb_tb 455 (by decide +kernel) (by decide +kernel)
theorem ms_X5_checkBoat : Cond.selects RX5 yX5_checkBoat yX5_checkBoat ∈ mb_GW := mb_tp 7 (by decide +kernel) (by decide +kernel)
theorem mc_X5_checkBoat : Cond.code yX5_checkBoat cX5_checkBoat 2 none ∈ mb_GW := mb_tb 456 (by decide +kernel) (by decide +kernel)
theorem wf_X5_164 : Cond.fieldLink RX5 164 "MarinaBerths$Boat" "length" "I" ∈ mb_GW := mb_tb 67 (by decide +kernel) (by decide +kernel)
theorem gf_X5_164 {l : Launch} {G : mb_G} {cc : ByteArray} {nL : Nat} {ret : Option FieldType} {d pc pn : Nat} {lv : List (Nat × mb_AV)} {st : List mb_AV} {h : mb_AH} {res : mb_RS} {a b : Nat} (dg : decode cc pc = .ok (.getfield 164, 3)) (hn : pc + 3 = pn) (kk : mb_Ev l G RX5 cc nL ret d pn lv (.inl (h.1 3 a b 0) :: st) h res) : mb_Ev l G RX5 cc nL ret d pc lv (mb_F 3 a b :: st) h res := mb_get (v := .inl (h.1 3 a b 0)) (ci := 1) (j := 0) in_X1 rfl (by decide) wf_X5_164 rfl rfl (fun _ => trivial) dg hn kk
theorem wf_X5_165 : Cond.fieldLink RX5 165 "MarinaBerths$Boat" "draft" "I" ∈ mb_GW := mb_tb 70 (by decide +kernel) (by decide +kernel)
theorem gf_X5_165 {l : Launch} {G : mb_G} {cc : ByteArray} {nL : Nat} {ret : Option FieldType} {d pc pn : Nat} {lv : List (Nat × mb_AV)} {st : List mb_AV} {h : mb_AH} {res : mb_RS} {a b : Nat} (dg : decode cc pc = .ok (.getfield 165, 3)) (hn : pc + 3 = pn) (kk : mb_Ev l G RX5 cc nL ret d pn lv (.inl (h.1 3 a b 1) :: st) h res) : mb_Ev l G RX5 cc nL ret d pc lv (mb_F 3 a b :: st) h res := mb_get (v := .inl (h.1 3 a b 1)) (ci := 1) (j := 1) in_X1 rfl (by decide) wf_X5_165 rfl rfl (fun _ => trivial) dg hn kk
theorem wf_X5_168 : Cond.fieldLink RX5 168 "MarinaBerths$Boat" "bonus" "I" ∈ mb_GW := mb_tb 72 (by decide +kernel) (by decide +kernel)
theorem gf_X5_168 {l : Launch} {G : mb_G} {cc : ByteArray} {nL : Nat} {ret : Option FieldType} {d pc pn : Nat} {lv : List (Nat × mb_AV)} {st : List mb_AV} {h : mb_AH} {res : mb_RS} {a b : Nat} (dg : decode cc pc = .ok (.getfield 168, 3)) (hn : pc + 3 = pn) (kk : mb_Ev l G RX5 cc nL ret d pn lv (.inl (h.1 3 a b 2) :: st) h res) : mb_Ev l G RX5 cc nL ret d pc lv (mb_F 3 a b :: st) h res := mb_get (v := .inl (h.1 3 a b 2)) (ci := 1) (j := 2) in_X1 rfl (by decide) wf_X5_168 rfl rfl (fun _ => trivial) dg hn kk
theorem wf_X5_171 : Cond.fieldLink RX5 171 "MarinaBerths$Boat" "state" "I" ∈ mb_GW := mb_tb 75 (by decide +kernel) (by decide +kernel)
theorem gf_X5_171 {l : Launch} {G : mb_G} {cc : ByteArray} {nL : Nat} {ret : Option FieldType} {d pc pn : Nat} {lv : List (Nat × mb_AV)} {st : List mb_AV} {h : mb_AH} {res : mb_RS} {a b : Nat} (dg : decode cc pc = .ok (.getfield 171, 3)) (hn : pc + 3 = pn) (kk : mb_Ev l G RX5 cc nL ret d pn lv (.inl (h.1 3 a b 3) :: st) h res) : mb_Ev l G RX5 cc nL ret d pc lv (mb_F 3 a b :: st) h res := mb_get (v := .inl (h.1 3 a b 3)) (ci := 1) (j := 3) in_X1 rfl (by decide) wf_X5_171 rfl rfl (fun _ => trivial) dg hn kk
theorem wf_X5_174 : Cond.fieldLink RX5 174 "MarinaBerths$Boat" "berth" "I" ∈ mb_GW := mb_tb 79 (by decide +kernel) (by decide +kernel)
theorem gf_X5_174 {l : Launch} {G : mb_G} {cc : ByteArray} {nL : Nat} {ret : Option FieldType} {d pc pn : Nat} {lv : List (Nat × mb_AV)} {st : List mb_AV} {h : mb_AH} {res : mb_RS} {a b : Nat} (dg : decode cc pc = .ok (.getfield 174, 3)) (hn : pc + 3 = pn) (kk : mb_Ev l G RX5 cc nL ret d pn lv (.inl (h.1 3 a b 4) :: st) h res) : mb_Ev l G RX5 cc nL ret d pc lv (mb_F 3 a b :: st) h res := mb_get (v := .inl (h.1 3 a b 4)) (ci := 1) (j := 4) in_X1 rfl (by decide) wf_X5_174 rfl rfl (fun _ => trivial) dg hn kk
theorem wl_X5_177 : Cond.methodLink RX5 177 yX2_points ∈ mb_GW := mb_tb 458 (by decide +kernel) (by decide +kernel)
theorem wf_X5_181 : Cond.fieldLink RX5 181 "MarinaBerths$Boat" "home" "I" ∈ mb_GW := mb_tb 81 (by decide +kernel) (by decide +kernel)
theorem gf_X5_181 {l : Launch} {G : mb_G} {cc : ByteArray} {nL : Nat} {ret : Option FieldType} {d pc pn : Nat} {lv : List (Nat × mb_AV)} {st : List mb_AV} {h : mb_AH} {res : mb_RS} {a b : Nat} (dg : decode cc pc = .ok (.getfield 181, 3)) (hn : pc + 3 = pn) (kk : mb_Ev l G RX5 cc nL ret d pn lv (.inl (h.1 3 a b 5) :: st) h res) : mb_Ev l G RX5 cc nL ret d pc lv (mb_F 3 a b :: st) h res := mb_get (v := .inl (h.1 3 a b 5)) (ci := 1) (j := 5) in_X1 rfl (by decide) wf_X5_181 rfl rfl (fun _ => trivial) dg hn kk
theorem wf_X5_184 : Cond.fieldLink RX5 184 "MarinaBerths$Boat" "owes" "I" ∈ mb_GW := mb_tb 84 (by decide +kernel) (by decide +kernel)
theorem gf_X5_184 {l : Launch} {G : mb_G} {cc : ByteArray} {nL : Nat} {ret : Option FieldType} {d pc pn : Nat} {lv : List (Nat × mb_AV)} {st : List mb_AV} {h : mb_AH} {res : mb_RS} {a b : Nat} (dg : decode cc pc = .ok (.getfield 184, 3)) (hn : pc + 3 = pn) (kk : mb_Ev l G RX5 cc nL ret d pn lv (.inl (h.1 3 a b 6) :: st) h res) : mb_Ev l G RX5 cc nL ret d pc lv (mb_F 3 a b :: st) h res := mb_get (v := .inl (h.1 3 a b 6)) (ci := 1) (j := 6) in_X1 rfl (by decide) wf_X5_184 rfl rfl (fun _ => trivial) dg hn kk
theorem wl_X5_187 : Cond.methodLink RX5 187 yX2_isAground ∈ mb_GW := mb_tb 459 (by decide +kernel) (by decide +kernel)
theorem wl_X5_191 : Cond.methodLink RX5 191 yX2_isWhereItFits ∈ mb_GW := mb_tb 460 (by decide +kernel) (by decide +kernel)
theorem mi_X2_isWhereItFits : Cond.instanceMethod yX2_isWhereItFits ∈ mb_GW := mb_tb 461 (by decide +kernel) (by decide +kernel)
theorem ms_X2_isWhereItFits : Cond.selects RX2 yX2_isWhereItFits yX2_isWhereItFits ∈ mb_GW := mb_tb 462 (by decide +kernel) (by decide +kernel)
theorem mc_X2_isWhereItFits : Cond.code yX2_isWhereItFits cX2_isWhereItFits 3 (some .boolean) ∈ mb_GW := mb_tb 463 (by decide +kernel) (by decide +kernel)
theorem mb_out0_9 {x : Int32} (q0 : x ≠ 0) (q1 : x ≠ 1) (q2 : x ≠ 2) (q3 : x ≠ 3) (q4 : x ≠ 4) (q5 : x ≠ 5) (q6 : x ≠ 6) (q7 : x ≠ 7) (q8 : x ≠ 8) (q9 : x ≠ 9) : x.toInt < 0 ∨ 9 < x.toInt := by
  rcases Int.lt_or_le x.toInt 0 with z | z
  · exact Or.inl z
  · rcases Int.lt_or_le 9 x.toInt with z2 | z2
    · exact Or.inr z2
    · exfalso
      have e : x.toInt = 0 ∨ x.toInt = 1 ∨ x.toInt = 2 ∨ x.toInt = 3 ∨ x.toInt = 4 ∨ x.toInt = 5 ∨ x.toInt = 6 ∨ x.toInt = 7 ∨ x.toInt = 8 ∨ x.toInt = 9 := by omega
      rcases e with e | e | e | e | e | e | e | e | e | e
      · exact q0 (Int32.toInt_inj.mp (e.trans (by decide)))
      · exact q1 (Int32.toInt_inj.mp (e.trans (by decide)))
      · exact q2 (Int32.toInt_inj.mp (e.trans (by decide)))
      · exact q3 (Int32.toInt_inj.mp (e.trans (by decide)))
      · exact q4 (Int32.toInt_inj.mp (e.trans (by decide)))
      · exact q5 (Int32.toInt_inj.mp (e.trans (by decide)))
      · exact q6 (Int32.toInt_inj.mp (e.trans (by decide)))
      · exact q7 (Int32.toInt_inj.mp (e.trans (by decide)))
      · exact q8 (Int32.toInt_inj.mp (e.trans (by decide)))
      · exact q9 (Int32.toInt_inj.mp (e.trans (by decide)))
theorem wl_X5_196 : Cond.methodLink RX5 196 yX2_suits ∈ mb_GW := mb_tb 620 (by decide +kernel) (by decide +kernel)
theorem wl_X5_214 : Cond.methodLink RX5 214 yX2_isOpen ∈ mb_GW := mb_tb 632 (by decide +kernel) (by decide +kernel)
theorem wl_X5_219 : Cond.methodLink RX5 219 yX1_moveForGood ∈ mb_GW := mb_tb 634 (by decide +kernel) (by decide +kernel)
theorem wl_X5_227 : Cond.methodLink RX5 227 yX2_suitsBerthOf ∈ mb_GW := mb_tb 651 (by decide +kernel) (by decide +kernel)
theorem mi_X2_suitsBerthOf : Cond.instanceMethod yX2_suitsBerthOf ∈ mb_GW := mb_tb 652 (by decide +kernel) (by decide +kernel)
theorem ms_X2_suitsBerthOf : Cond.selects RX2 yX2_suitsBerthOf yX2_suitsBerthOf ∈ mb_GW := mb_tb 653 (by decide +kernel) (by decide +kernel)
theorem mc_X2_suitsBerthOf : Cond.code yX2_suitsBerthOf cX2_suitsBerthOf 4 (some .boolean) ∈ mb_GW := mb_tb 654 (by decide +kernel) (by decide +kernel)
theorem wl_X5_235 : Cond.methodLink RX5 235 yX2_beginToWait ∈ mb_GW := mb_tb 664 (by decide +kernel) (by decide +kernel)
theorem wl_X5_239 : Cond.methodLink RX5 239 yX2_countAheadOf ∈ mb_GW := mb_tb 669 (by decide +kernel) (by decide +kernel)
theorem wl_X5_244 : Cond.methodLink RX5 244 yX2_firstWaitingFor ∈ mb_GW := mb_tb 678 (by decide +kernel) (by decide +kernel)
theorem mi_X2_firstWaitingFor : Cond.instanceMethod yX2_firstWaitingFor ∈ mb_GW := mb_tb 679 (by decide +kernel) (by decide +kernel)
theorem ms_X2_firstWaitingFor : Cond.selects RX2 yX2_firstWaitingFor yX2_firstWaitingFor ∈ mb_GW := mb_tb 680 (by decide +kernel) (by decide +kernel)
theorem mc_X2_firstWaitingFor : Cond.code yX2_firstWaitingFor cX2_firstWaitingFor 4 (some .int) ∈ mb_GW := mb_tb 681 (by decide +kernel) (by decide +kernel)
theorem wl_X5_247 : Cond.methodLink RX5 247 yX2_waitingAt ∈ mb_GW := mb_tb 234 (by decide +kernel) (by decide +kernel)
theorem mi_X2_waitingAt : Cond.instanceMethod yX2_waitingAt ∈ mb_GW := mb_tb 235 (by decide +kernel) (by decide +kernel)
theorem ms_X2_waitingAt : Cond.selects RX2 yX2_waitingAt yX2_waitingAt ∈ mb_GW := mb_tb 236 (by decide +kernel) (by decide +kernel)
theorem mc_X2_waitingAt : Cond.code yX2_waitingAt cX2_waitingAt 3 (some .int) ∈ mb_GW := mb_tb 237 (by decide +kernel) (by decide +kernel)
theorem wl_X5_250 : Cond.methodLink RX5 250 yX2_bestBerthFor ∈ mb_GW := mb_tb 465 (by decide +kernel) (by decide +kernel)
theorem mi_X2_bestBerthFor : Cond.instanceMethod yX2_bestBerthFor ∈ mb_GW := mb_tb 466 (by decide +kernel) (by decide +kernel)
theorem ms_X2_bestBerthFor : Cond.selects RX2 yX2_bestBerthFor yX2_bestBerthFor ∈ mb_GW := mb_tb 467 (by decide +kernel) (by decide +kernel)
theorem mc_X2_bestBerthFor : Cond.code yX2_bestBerthFor cX2_bestBerthFor 4 (some .int) ∈ mb_GW := mb_tb 468 (by decide +kernel) (by decide +kernel)
theorem wl_X5_253 : Cond.methodLink RX5 253 yX5_checkDays ∈ mb_GW := mb_tb 696 (by decide +kernel) (by decide +kernel)
theorem mt_X5_checkDays : Cond.static yX5_checkDays ∈ mb_GW := mb_tb 697 (by decide +kernel) (by decide +kernel)
theorem mc_X5_checkDays : Cond.code yX5_checkDays cX5_checkDays 1 none ∈ mb_GW := mb_tb 698 (by decide +kernel) (by decide +kernel)
theorem wf_X5_16 : Cond.fieldLink RX5 16 "MarinaBerths" "thought" "LMarinaBerths$Marina;" ∈ mb_GW := mb_tb 212 (by decide +kernel) (by decide +kernel)
theorem gf_X5_16 {l : Launch} {G : mb_G} {cc : ByteArray} {nL : Nat} {ret : Option FieldType} {d pc pn : Nat} {lv : List (Nat × mb_AV)} {st : List mb_AV} {h : mb_AH} {res : mb_RS} {a b : Nat} (dg : decode cc pc = .ok (.getfield 16, 3)) (hn : pc + 3 = pn) (kk : mb_Ev l G RX5 cc nL ret d pn lv (mb_F 1 1 0 :: st) h res) : mb_Ev l G RX5 cc nL ret d pc lv (mb_F 0 a b :: st) h res := mb_get (v := mb_F 1 1 0) (ci := 5) (j := 1) in_X5 rfl (by decide) wf_X5_16 rfl rfl (fun _ => ⟨by decide, by decide⟩) dg hn kk
theorem wf_X5_26 : Cond.fieldLink RX5 26 "MarinaBerths" "plan" "LMarinaBerths$WinterPlan;" ∈ mb_GW := mb_tb 215 (by decide +kernel) (by decide +kernel)
theorem gf_X5_26 {l : Launch} {G : mb_G} {cc : ByteArray} {nL : Nat} {ret : Option FieldType} {d pc pn : Nat} {lv : List (Nat × mb_AV)} {st : List mb_AV} {h : mb_AH} {res : mb_RS} {a b : Nat} (dg : decode cc pc = .ok (.getfield 26, 3)) (hn : pc + 3 = pn) (kk : mb_Ev l G RX5 cc nL ret d pn lv (mb_F 4 0 0 :: st) h res) : mb_Ev l G RX5 cc nL ret d pc lv (mb_F 0 a b :: st) h res := mb_get (v := mb_F 4 0 0) (ci := 5) (j := 4) in_X5 rfl (by decide) wf_X5_26 rfl rfl (fun _ => ⟨by decide, by decide⟩) dg hn kk
theorem wl_X5_260 : Cond.methodLink RX5 260 yX2_letPass ∈ mb_GW := mb_tb 700 (by decide +kernel) (by decide +kernel)
theorem mi_X2_letPass : Cond.instanceMethod yX2_letPass ∈ mb_GW := mb_tb 701 (by decide +kernel) (by decide +kernel)
theorem ms_X2_letPass : Cond.selects RX2 yX2_letPass yX2_letPass ∈ mb_GW := mb_tb 702 (by decide +kernel) (by decide +kernel)
theorem mc_X2_letPass : Cond.code yX2_letPass cX2_letPass 6 (some .int) ∈ mb_GW := mb_tb 703 (by decide +kernel) (by decide +kernel)
theorem pf_X5_184 {l : Launch} {G : mb_G} {cc : ByteArray} {nL : Nat} {ret : Option FieldType} {d pc pn : Nat} {lv : List (Nat × mb_AV)} {st : List mb_AV} {h : mb_AH} {res : mb_RS} {a b : Nat} {x : Int32} {K : mb_AH → Option mb_RS} (dg : decode cc pc = .ok (.putfield 184, 3)) (hn : pc + 3 = pn) (hr : mb_up (mb_sI h 3 a b 6 x) K = some res) (kk : ∀ h2, K h2 = some res → mb_Ev l G RX5 cc nL ret d pn lv st h2 res) : mb_Ev l G RX5 cc nL ret d pc lv (.inl x :: mb_F 3 a b :: st) h res := mb_putI (ci := 1) (j := 6) (ty := .int) in_X1 tyX1 tyX1_ok nmX1 rfl (by decide) wf_X5_184 rfl rfl rfl rfl rfl (Nat.le_of_ble_eq_true rfl) rfl dg hn (kk _ hr)
theorem wf_X5_268 : Cond.fieldLink RX5 268 "MarinaBerths$Marina" "paidInAll" "J" ∈ mb_GW := mb_tb 135 (by decide +kernel) (by decide +kernel)
theorem gf_X5_268 {l : Launch} {G : mb_G} {cc : ByteArray} {nL : Nat} {ret : Option FieldType} {d pc pn : Nat} {lv : List (Nat × mb_AV)} {st : List mb_AV} {h : mb_AH} {res : mb_RS} {a b : Nat} (dg : decode cc pc = .ok (.getfield 268, 3)) (hn : pc + 3 = pn) (kk : mb_Ev l G RX5 cc nL ret d pn lv (.inr (.inl (h.2.1 1 a b 13)) :: st) h res) : mb_Ev l G RX5 cc nL ret d pc lv (mb_F 1 a b :: st) h res := mb_get (v := .inr (.inl (h.2.1 1 a b 13))) (ci := 2) (j := 13) in_X2 rfl (by decide) wf_X5_268 rfl rfl (fun _ => trivial) dg hn kk
theorem pf_X5_268 {l : Launch} {G : mb_G} {cc : ByteArray} {nL : Nat} {ret : Option FieldType} {d pc pn : Nat} {lv : List (Nat × mb_AV)} {st : List mb_AV} {h : mb_AH} {res : mb_RS} {a b : Nat} {x : Int64} {K : mb_AH → Option mb_RS} (dg : decode cc pc = .ok (.putfield 268, 3)) (hn : pc + 3 = pn) (hr : mb_up (mb_sL h 1 a b 13 x) K = some res) (kk : ∀ h2, K h2 = some res → mb_Ev l G RX5 cc nL ret d pn lv st h2 res) : mb_Ev l G RX5 cc nL ret d pc lv (.inr (.inl x) :: mb_F 1 a b :: st) h res := mb_putL (ci := 2) (j := 13) (ty := .long) in_X2 tyX2 tyX2_ok nmX2 rfl (by decide) wf_X5_268 rfl rfl rfl rfl rfl (Nat.le_of_ble_eq_true rfl) rfl dg hn (kk _ hr)
theorem wl_X5_274 : Cond.methodLink RX5 274 yX1_canOweMore ∈ mb_GW := mb_tb 769 (by decide +kernel) (by decide +kernel)
theorem wl_X5_280 : Cond.methodLink RX5 280 yX2_owedInAll ∈ mb_GW := mb_tb 254 (by decide +kernel) (by decide +kernel)
theorem mi_X2_owedInAll : Cond.instanceMethod yX2_owedInAll ∈ mb_GW := mb_tb 255 (by decide +kernel) (by decide +kernel)
theorem ms_X2_owedInAll : Cond.selects RX2 yX2_owedInAll yX2_owedInAll ∈ mb_GW := mb_tb 256 (by decide +kernel) (by decide +kernel)
theorem mc_X2_owedInAll : Cond.code yX2_owedInAll cX2_owedInAll 4 (some .long) ∈ mb_GW := mb_tb 257 (by decide +kernel) (by decide +kernel)
theorem wl_X5_284 : Cond.methodLink RX5 284 yX2_daysUntilAground ∈ mb_GW := mb_tb 478 (by decide +kernel) (by decide +kernel)
theorem mi_X2_daysUntilAground : Cond.instanceMethod yX2_daysUntilAground ∈ mb_GW := mb_tb 479 (by decide +kernel) (by decide +kernel)
theorem ms_X2_daysUntilAground : Cond.selects RX2 yX2_daysUntilAground yX2_daysUntilAground ∈ mb_GW := mb_tb 480 (by decide +kernel) (by decide +kernel)
theorem mc_X2_daysUntilAground : Cond.code yX2_daysUntilAground cX2_daysUntilAground 3 (some .int) ∈ mb_GW := mb_tb 481 (by decide +kernel) (by decide +kernel)
theorem wl_X5_338 : Cond.methodLink RX5 338 yX2_beginWinter ∈ mb_GW := mb_tb 797 (by decide +kernel) (by decide +kernel)
theorem wl_X5_287 : Cond.methodLink RX5 287 yX5_thinkOfWinter ∈ mb_GW := mb_tb 792 (by decide +kernel) (by decide +kernel)
theorem mi_X5_thinkOfWinter : Cond.instanceMethod yX5_thinkOfWinter ∈ mb_GW := mb_tb 794 (by decide +kernel) (by decide +kernel)
theorem ms_X5_thinkOfWinter : Cond.selects RX5 yX5_thinkOfWinter yX5_thinkOfWinter ∈ mb_GW := mb_tp 16 (by decide +kernel) (by decide +kernel)
theorem mc_X5_thinkOfWinter : Cond.code yX5_thinkOfWinter cX5_thinkOfWinter 1 none ∈ mb_GW := mb_tb 795 (by decide +kernel) (by decide +kernel)
theorem wl_X5_290 : Cond.methodLink RX5 290 yX2_clearanceForAll ∈ mb_GW := mb_tb 266 (by decide +kernel) (by decide +kernel)
theorem mi_X2_clearanceForAll : Cond.instanceMethod yX2_clearanceForAll ∈ mb_GW := mb_tb 267 (by decide +kernel) (by decide +kernel)
theorem ms_X2_clearanceForAll : Cond.selects RX2 yX2_clearanceForAll yX2_clearanceForAll ∈ mb_GW := mb_tb 268 (by decide +kernel) (by decide +kernel)
theorem mc_X2_clearanceForAll : Cond.code yX2_clearanceForAll cX2_clearanceForAll 4 (some .int) ∈ mb_GW := mb_tb 269 (by decide +kernel) (by decide +kernel)
theorem wl_X5_293 : Cond.methodLink RX5 293 yX2_lackOfWater ∈ mb_GW := mb_tb 812 (by decide +kernel) (by decide +kernel)
theorem wl_X5_297 : Cond.methodLink RX5 297 Lib.Math.max.name ∈ mb_GW := mb_tb 813 (by decide +kernel) (by decide +kernel)
theorem mM_max_s : Cond.static Lib.Math.max.name ∈ mb_GW := mb_tb 814 (by decide +kernel) (by decide +kernel)
theorem mM_max_c : Cond.code Lib.Math.max.name Lib.Math.max.code 2 (some .int) ∈ mb_GW := mb_tb 815 (by decide +kernel) (by decide +kernel)
theorem wf_X5_305 : Cond.fieldLink RX5 305 "MarinaBerths$TableText" "length" "I" ∈ mb_GW := mb_tb 196 (by decide +kernel) (by decide +kernel)
theorem gf_X5_305 {l : Launch} {G : mb_G} {cc : ByteArray} {nL : Nat} {ret : Option FieldType} {d pc pn : Nat} {lv : List (Nat × mb_AV)} {st : List mb_AV} {h : mb_AH} {res : mb_RS} {a b : Nat} (dg : decode cc pc = .ok (.getfield 305, 3)) (hn : pc + 3 = pn) (kk : mb_Ev l G RX5 cc nL ret d pn lv (.inl (h.1 5 a b 1) :: st) h res) : mb_Ev l G RX5 cc nL ret d pc lv (mb_F 5 a b :: st) h res := mb_get (v := .inl (h.1 5 a b 1)) (ci := 3) (j := 1) in_X3 rfl (by decide) wf_X5_305 rfl rfl (fun _ => trivial) dg hn kk
theorem wl_X5_308 : Cond.methodLink RX5 308 yX3_append ∈ mb_GW := mb_tb 825 (by decide +kernel) (by decide +kernel)
theorem mi_X3_append : Cond.instanceMethod yX3_append ∈ mb_GW := mb_tb 826 (by decide +kernel) (by decide +kernel)
theorem ms_X3_append : Cond.selects RX3 yX3_append yX3_append ∈ mb_GW := mb_tb 827 (by decide +kernel) (by decide +kernel)
theorem mc_X3_append : Cond.code yX3_append cX3_append 2 none ∈ mb_GW := mb_tb 828 (by decide +kernel) (by decide +kernel)
theorem pf_X5_305 {l : Launch} {G : mb_G} {cc : ByteArray} {nL : Nat} {ret : Option FieldType} {d pc pn : Nat} {lv : List (Nat × mb_AV)} {st : List mb_AV} {h : mb_AH} {res : mb_RS} {a b : Nat} {x : Int32} {K : mb_AH → Option mb_RS} (dg : decode cc pc = .ok (.putfield 305, 3)) (hn : pc + 3 = pn) (hr : mb_up (mb_sI h 5 a b 1 x) K = some res) (kk : ∀ h2, K h2 = some res → mb_Ev l G RX5 cc nL ret d pn lv st h2 res) : mb_Ev l G RX5 cc nL ret d pc lv (.inl x :: mb_F 5 a b :: st) h res := mb_putI (ci := 3) (j := 1) (ty := .int) in_X3 tyX3 tyX3_ok nmX3 rfl (by decide) wf_X5_305 rfl rfl rfl rfl rfl (Nat.le_of_ble_eq_true rfl) rfl dg hn (kk _ hr)
theorem wk_X5_317 : Cond.constantLong RX5 317 (43079) ∈ mb_GW := mb_tb 305 (by decide +kernel) (by decide +kernel)
theorem wk_X5_319 : Cond.constantLong RX5 319 (31) ∈ mb_GW := mb_tb 306 (by decide +kernel) (by decide +kernel)
theorem wl_X5_328 : Cond.methodLink RX5 328 yX5_berth ∈ mb_GW := mb_tb 404 (by decide +kernel) (by decide +kernel)
theorem mi_X5_berth : Cond.instanceMethod yX5_berth ∈ mb_GW := mb_tb 405 (by decide +kernel) (by decide +kernel)
theorem ms_X5_berth : Cond.selects RX5 yX5_berth yX5_berth ∈ mb_GW := mb_tb 406 (by decide +kernel) (by decide +kernel)
theorem mc_X5_berth : Cond.code yX5_berth cX5_berth 4 (some .int) ∈ mb_GW := mb_tb 407 (by decide +kernel) (by decide +kernel)
theorem wl_X5_321 : Cond.methodLink RX5 321 yX5_withBerths ∈ mb_GW := mb_tb 400 (by decide +kernel) (by decide +kernel)
theorem mi_X5_withBerths : Cond.instanceMethod yX5_withBerths ∈ mb_GW := mb_tb 402 (by decide +kernel) (by decide +kernel)
theorem ms_X5_withBerths : Cond.selects RX5 yX5_withBerths yX5_withBerths ∈ mb_GW := mb_tp 4 (by decide +kernel) (by decide +kernel)
theorem mc_X5_withBerths : Cond.code yX5_withBerths cX5_withBerths 7 (some .long) ∈ mb_GW := mb_tb 403 (by decide +kernel) (by decide +kernel)
theorem wl_X5_330 : Cond.methodLink RX5 330 yX5_boat ∈ mb_GW := mb_tb 449 (by decide +kernel) (by decide +kernel)
theorem mi_X5_boat : Cond.instanceMethod yX5_boat ∈ mb_GW := mb_tb 450 (by decide +kernel) (by decide +kernel)
theorem ms_X5_boat : Cond.selects RX5 yX5_boat yX5_boat ∈ mb_GW := mb_tb 451 (by decide +kernel) (by decide +kernel)
theorem mc_X5_boat : Cond.code yX5_boat cX5_boat 4 (some .int) ∈ mb_GW := mb_tb 452 (by decide +kernel) (by decide +kernel)
theorem wl_X5_325 : Cond.methodLink RX5 325 yX5_withBoats ∈ mb_GW := mb_tb 445 (by decide +kernel) (by decide +kernel)
theorem mi_X5_withBoats : Cond.instanceMethod yX5_withBoats ∈ mb_GW := mb_tb 447 (by decide +kernel) (by decide +kernel)
theorem ms_X5_withBoats : Cond.selects RX5 yX5_withBoats yX5_withBoats ∈ mb_GW := mb_tp 6 (by decide +kernel) (by decide +kernel)
theorem mc_X5_withBoats : Cond.code yX5_withBoats cX5_withBoats 7 (some .long) ∈ mb_GW := mb_tb 448 (by decide +kernel) (by decide +kernel)
theorem wf_X6_35 : Cond.fieldLink RX6 35 "MarinaBerthsModel" "refusal" "I" ∈ mb_GW := mb_tb 848 (by decide +kernel) (by decide +kernel)
theorem in_X6 : ∀ w ∈ u_ws RX6 TX6 16, w ∈ mb_GW := by
  have e : u_ws RX6 TX6 16 = [Cond.laysFinal RX6 "MarinaBerthsModel" "now" "[I", Cond.laysFinal RX6 "MarinaBerthsModel" "past" "[I", Cond.laysFinal RX6 "MarinaBerthsModel" "kept" "[I", Cond.lays RX6 "MarinaBerthsModel" "saved" "I", Cond.lays RX6 "MarinaBerthsModel" "refusal" "I", Cond.laysFinal RX6 "MarinaBerthsModel" "text" "[I", Cond.lays RX6 "MarinaBerthsModel" "length" "I", Cond.laysFinal RX6 "MarinaBerthsModel" "movers" "[I", Cond.laysFinal RX6 "MarinaBerthsModel" "shelters" "[I", Cond.laysFinal RX6 "MarinaBerthsModel" "best" "[I", Cond.lays RX6 "MarinaBerthsModel" "place" "I", Cond.lays RX6 "MarinaBerthsModel" "wrong" "I", Cond.lays RX6 "MarinaBerthsModel" "range" "I", Cond.lays RX6 "MarinaBerthsModel" "told" "I", Cond.laysFinal RX6 "MarinaBerthsModel" "numbers" "[I", Cond.lays RX6 "MarinaBerthsModel" "hash" "J"] := rfl
  rw [e]
  intro w hw
  simp only [List.mem_cons, List.not_mem_nil, or_false] at hw
  rcases hw with rfl | rfl | rfl | rfl | rfl | rfl | rfl | rfl | rfl | rfl | rfl | rfl | rfl | rfl | rfl | rfl
  · exact mb_tb 860 (by decide +kernel) (by decide +kernel)
  · exact mb_tb 862 (by decide +kernel) (by decide +kernel)
  · exact mb_tb 864 (by decide +kernel) (by decide +kernel)
  · exact mb_tb 866 (by decide +kernel) (by decide +kernel)
  · exact mb_tb 868 (by decide +kernel) (by decide +kernel)
  · exact mb_tb 870 (by decide +kernel) (by decide +kernel)
  · exact mb_tb 872 (by decide +kernel) (by decide +kernel)
  · exact mb_tb 874 (by decide +kernel) (by decide +kernel)
  · exact mb_tb 876 (by decide +kernel) (by decide +kernel)
  · exact mb_tb 878 (by decide +kernel) (by decide +kernel)
  · exact mb_tb 880 (by decide +kernel) (by decide +kernel)
  · exact mb_tb 882 (by decide +kernel) (by decide +kernel)
  · exact mb_tb 884 (by decide +kernel) (by decide +kernel)
  · exact mb_tb 886 (by decide +kernel) (by decide +kernel)
  · exact mb_tb 888 (by decide +kernel) (by decide +kernel)
  · exact mb_tb 890 (by decide +kernel) (by decide +kernel)
theorem gf_X6_35 {l : Launch} {G : mb_G} {cc : ByteArray} {nL : Nat} {ret : Option FieldType} {d pc pn : Nat} {lv : List (Nat × mb_AV)} {st : List mb_AV} {h : mb_AH} {res : mb_RS} {a b : Nat} (dg : decode cc pc = .ok (.getfield 35, 3)) (hn : pc + 3 = pn) (kk : mb_Ev l G RX6 cc nL ret d pn lv (.inl (h.1 6 a b 4) :: st) h res) : mb_Ev l G RX6 cc nL ret d pc lv (mb_F 6 a b :: st) h res := mb_get (v := .inl (h.1 6 a b 4)) (ci := 6) (j := 4) in_X6 rfl (by decide) wf_X6_35 rfl rfl (fun _ => trivial) dg hn kk
theorem pf_X6_35 {l : Launch} {G : mb_G} {cc : ByteArray} {nL : Nat} {ret : Option FieldType} {d pc pn : Nat} {lv : List (Nat × mb_AV)} {st : List mb_AV} {h : mb_AH} {res : mb_RS} {a b : Nat} {x : Int32} {K : mb_AH → Option mb_RS} (dg : decode cc pc = .ok (.putfield 35, 3)) (hn : pc + 3 = pn) (hr : mb_up (mb_sI h 6 a b 4 x) K = some res) (kk : ∀ h2, K h2 = some res → mb_Ev l G RX6 cc nL ret d pn lv st h2 res) : mb_Ev l G RX6 cc nL ret d pc lv (.inl x :: mb_F 6 a b :: st) h res := mb_putI (ci := 6) (j := 4) (ty := .int) in_X6 tyX6 tyX6_ok nmX6 rfl (by decide) wf_X6_35 rfl rfl rfl rfl rfl (Nat.le_of_ble_eq_true rfl) rfl dg hn (kk _ hr)
theorem wf_X6_39 : Cond.fieldLink RX6 39 "MarinaBerthsModel" "saved" "I" ∈ mb_GW := mb_tb 847 (by decide +kernel) (by decide +kernel)
theorem gf_X6_39 {l : Launch} {G : mb_G} {cc : ByteArray} {nL : Nat} {ret : Option FieldType} {d pc pn : Nat} {lv : List (Nat × mb_AV)} {st : List mb_AV} {h : mb_AH} {res : mb_RS} {a b : Nat} (dg : decode cc pc = .ok (.getfield 39, 3)) (hn : pc + 3 = pn) (kk : mb_Ev l G RX6 cc nL ret d pn lv (.inl (h.1 6 a b 3) :: st) h res) : mb_Ev l G RX6 cc nL ret d pc lv (mb_F 6 a b :: st) h res := mb_get (v := .inl (h.1 6 a b 3)) (ci := 6) (j := 3) in_X6 rfl (by decide) wf_X6_39 rfl rfl (fun _ => trivial) dg hn kk
theorem pf_X6_39 {l : Launch} {G : mb_G} {cc : ByteArray} {nL : Nat} {ret : Option FieldType} {d pc pn : Nat} {lv : List (Nat × mb_AV)} {st : List mb_AV} {h : mb_AH} {res : mb_RS} {a b : Nat} {x : Int32} {K : mb_AH → Option mb_RS} (dg : decode cc pc = .ok (.putfield 39, 3)) (hn : pc + 3 = pn) (hr : mb_up (mb_sI h 6 a b 3 x) K = some res) (kk : ∀ h2, K h2 = some res → mb_Ev l G RX6 cc nL ret d pn lv st h2 res) : mb_Ev l G RX6 cc nL ret d pc lv (.inl x :: mb_F 6 a b :: st) h res := mb_putI (ci := 6) (j := 3) (ty := .int) in_X6 tyX6 tyX6_ok nmX6 rfl (by decide) wf_X6_39 rfl rfl rfl rfl rfl (Nat.le_of_ble_eq_true rfl) rfl dg hn (kk _ hr)
theorem wf_X6_13 : Cond.fieldLink RX6 13 "MarinaBerthsModel" "past" "[I" ∈ mb_GW := mb_tb 845 (by decide +kernel) (by decide +kernel)
theorem gf_X6_13 {l : Launch} {G : mb_G} {cc : ByteArray} {nL : Nat} {ret : Option FieldType} {d pc pn : Nat} {lv : List (Nat × mb_AV)} {st : List mb_AV} {h : mb_AH} {res : mb_RS} {a b : Nat} (dg : decode cc pc = .ok (.getfield 13, 3)) (hn : pc + 3 = pn) (kk : mb_Ev l G RX6 cc nL ret d pn lv (mb_F 21 0 0 :: st) h res) : mb_Ev l G RX6 cc nL ret d pc lv (mb_F 6 a b :: st) h res := mb_get (v := mb_F 21 0 0) (ci := 6) (j := 1) in_X6 rfl (by decide) wf_X6_13 rfl rfl (fun _ => ⟨by decide, by decide⟩) dg hn kk
theorem wf_X6_7 : Cond.fieldLink RX6 7 "MarinaBerthsModel" "now" "[I" ∈ mb_GW := mb_tb 844 (by decide +kernel) (by decide +kernel)
theorem gf_X6_7 {l : Launch} {G : mb_G} {cc : ByteArray} {nL : Nat} {ret : Option FieldType} {d pc pn : Nat} {lv : List (Nat × mb_AV)} {st : List mb_AV} {h : mb_AH} {res : mb_RS} {a b : Nat} (dg : decode cc pc = .ok (.getfield 7, 3)) (hn : pc + 3 = pn) (kk : mb_Ev l G RX6 cc nL ret d pn lv (mb_F 20 0 0 :: st) h res) : mb_Ev l G RX6 cc nL ret d pc lv (mb_F 6 a b :: st) h res := mb_get (v := mb_F 20 0 0) (ci := 6) (j := 0) in_X6 rfl (by decide) wf_X6_7 rfl rfl (fun _ => ⟨by decide, by decide⟩) dg hn kk
theorem wl_X6_42 : Cond.methodLink RX6 42 yX6_refused ∈ mb_GW := mb_tb 901 (by decide +kernel) (by decide +kernel)
theorem mi_X6_refused : Cond.instanceMethod yX6_refused ∈ mb_GW := mb_tb 903 (by decide +kernel) (by decide +kernel)
theorem ms_X6_refused : Cond.selects RX6 yX6_refused yX6_refused ∈ mb_GW := mb_tp 17 (by decide +kernel) (by decide +kernel)
theorem mn_X6 : Cond.initialized RX6 ∈ mb_GW := mb_tb 7 (by decide +kernel) (by decide +kernel)
theorem mc_X6_refused : Cond.code yX6_refused cX6_refused 2 (some .boolean) ∈ mb_GW := mb_tb 904 (by decide +kernel) (by decide +kernel)
theorem wf_X6_16 : Cond.fieldLink RX6 16 "MarinaBerthsModel" "kept" "[I" ∈ mb_GW := mb_tb 846 (by decide +kernel) (by decide +kernel)
theorem gf_X6_16 {l : Launch} {G : mb_G} {cc : ByteArray} {nL : Nat} {ret : Option FieldType} {d pc pn : Nat} {lv : List (Nat × mb_AV)} {st : List mb_AV} {h : mb_AH} {res : mb_RS} {a b : Nat} (dg : decode cc pc = .ok (.getfield 16, 3)) (hn : pc + 3 = pn) (kk : mb_Ev l G RX6 cc nL ret d pn lv (mb_F 22 0 0 :: st) h res) : mb_Ev l G RX6 cc nL ret d pc lv (mb_F 6 a b :: st) h res := mb_get (v := mb_F 22 0 0) (ci := 6) (j := 2) in_X6 rfl (by decide) wf_X6_16 rfl rfl (fun _ => ⟨by decide, by decide⟩) dg hn kk
theorem wl_X6_46 : Cond.methodLink RX6 46 yX6_within ∈ mb_GW := mb_tb 925 (by decide +kernel) (by decide +kernel)
theorem mt_X6_within : Cond.static yX6_within ∈ mb_GW := mb_tb 926 (by decide +kernel) (by decide +kernel)
theorem mc_X6_within : Cond.code yX6_within cX6_within 3 (some .boolean) ∈ mb_GW := mb_tb 927 (by decide +kernel) (by decide +kernel)
theorem wl_X6_50 : Cond.methodLink RX6 50 yX6_ofBoat ∈ mb_GW := mb_tb 988 (by decide +kernel) (by decide +kernel)
theorem mi_X6_ofBoat : Cond.instanceMethod yX6_ofBoat ∈ mb_GW := mb_tb 990 (by decide +kernel) (by decide +kernel)
theorem ms_X6_ofBoat : Cond.selects RX6 yX6_ofBoat yX6_ofBoat ∈ mb_GW := mb_tp 30 (by decide +kernel) (by decide +kernel)
theorem mc_X6_ofBoat : Cond.code yX6_ofBoat cX6_ofBoat 3 (some .int) ∈ mb_GW := mb_tb 991 (by decide +kernel) (by decide +kernel)
theorem wl_X6_54 : Cond.methodLink RX6 54 yX6_ofBerth ∈ mb_GW := mb_tb 972 (by decide +kernel) (by decide +kernel)
theorem mi_X6_ofBerth : Cond.instanceMethod yX6_ofBerth ∈ mb_GW := mb_tb 974 (by decide +kernel) (by decide +kernel)
theorem ms_X6_ofBerth : Cond.selects RX6 yX6_ofBerth yX6_ofBerth ∈ mb_GW := mb_tp 27 (by decide +kernel) (by decide +kernel)
theorem mc_X6_ofBerth : Cond.code yX6_ofBerth cX6_ofBerth 3 (some .int) ∈ mb_GW := mb_tb 975 (by decide +kernel) (by decide +kernel)
theorem wl_X6_57 : Cond.methodLink RX6 57 yX6_lowest ∈ mb_GW := mb_tb 992 (by decide +kernel) (by decide +kernel)
theorem mi_X6_lowest : Cond.instanceMethod yX6_lowest ∈ mb_GW := mb_tb 994 (by decide +kernel) (by decide +kernel)
theorem ms_X6_lowest : Cond.selects RX6 yX6_lowest yX6_lowest ∈ mb_GW := mb_tp 31 (by decide +kernel) (by decide +kernel)
theorem mc_X6_lowest : Cond.code yX6_lowest cX6_lowest 3 (some .int) ∈ mb_GW := mb_tb 995 (by decide +kernel) (by decide +kernel)
theorem wl_X6_61 : Cond.methodLink RX6 61 yX6_isLongEnough ∈ mb_GW := mb_tb 1000 (by decide +kernel) (by decide +kernel)
theorem mi_X6_isLongEnough : Cond.instanceMethod yX6_isLongEnough ∈ mb_GW := mb_tb 1002 (by decide +kernel) (by decide +kernel)
theorem ms_X6_isLongEnough : Cond.selects RX6 yX6_isLongEnough yX6_isLongEnough ∈ mb_GW := mb_tp 33 (by decide +kernel) (by decide +kernel)
theorem mc_X6_isLongEnough : Cond.code yX6_isLongEnough cX6_isLongEnough 3 (some .boolean) ∈ mb_GW := mb_tb 1003 (by decide +kernel) (by decide +kernel)
theorem wl_X6_65 : Cond.methodLink RX6 65 yX6_missing ∈ mb_GW := mb_tb 1004 (by decide +kernel) (by decide +kernel)
theorem mi_X6_missing : Cond.instanceMethod yX6_missing ∈ mb_GW := mb_tb 1006 (by decide +kernel) (by decide +kernel)
theorem ms_X6_missing : Cond.selects RX6 yX6_missing yX6_missing ∈ mb_GW := mb_tp 34 (by decide +kernel) (by decide +kernel)
theorem mc_X6_missing : Cond.code yX6_missing cX6_missing 4 (some .int) ∈ mb_GW := mb_tb 1007 (by decide +kernel) (by decide +kernel)
theorem wl_X6_68 : Cond.methodLink RX6 68 yX6_boatIn ∈ mb_GW := mb_tb 984 (by decide +kernel) (by decide +kernel)
theorem mi_X6_boatIn : Cond.instanceMethod yX6_boatIn ∈ mb_GW := mb_tb 986 (by decide +kernel) (by decide +kernel)
theorem ms_X6_boatIn : Cond.selects RX6 yX6_boatIn yX6_boatIn ∈ mb_GW := mb_tp 29 (by decide +kernel) (by decide +kernel)
theorem mc_X6_boatIn : Cond.code yX6_boatIn cX6_boatIn 3 (some .int) ∈ mb_GW := mb_tb 987 (by decide +kernel) (by decide +kernel)
theorem wl_X6_72 : Cond.methodLink RX6 72 yX6_lowOn ∈ mb_GW := mb_tb 936 (by decide +kernel) (by decide +kernel)
theorem mi_X6_lowOn : Cond.instanceMethod yX6_lowOn ∈ mb_GW := mb_tb 938 (by decide +kernel) (by decide +kernel)
theorem ms_X6_lowOn : Cond.selects RX6 yX6_lowOn yX6_lowOn ∈ mb_GW := mb_tp 23 (by decide +kernel) (by decide +kernel)
theorem mc_X6_lowOn : Cond.code yX6_lowOn cX6_lowOn 2 (some .int) ∈ mb_GW := mb_tb 939 (by decide +kernel) (by decide +kernel)
theorem wl_X6_75 : Cond.methodLink RX6 75 yX6_sets ∈ mb_GW := mb_tb 952 (by decide +kernel) (by decide +kernel)
theorem mi_X6_sets : Cond.instanceMethod yX6_sets ∈ mb_GW := mb_tb 954 (by decide +kernel) (by decide +kernel)
theorem ms_X6_sets : Cond.selects RX6 yX6_sets yX6_sets ∈ mb_GW := mb_tp 24 (by decide +kernel) (by decide +kernel)
theorem mc_X6_sets : Cond.code yX6_sets cX6_sets 4 none ∈ mb_GW := mb_tb 955 (by decide +kernel) (by decide +kernel)
theorem wl_X6_79 : Cond.methodLink RX6 79 yX6_puts ∈ mb_GW := mb_tb 1064 (by decide +kernel) (by decide +kernel)
theorem mi_X6_puts : Cond.instanceMethod yX6_puts ∈ mb_GW := mb_tb 1066 (by decide +kernel) (by decide +kernel)
theorem ms_X6_puts : Cond.selects RX6 yX6_puts yX6_puts ∈ mb_GW := mb_tp 45 (by decide +kernel) (by decide +kernel)
theorem mc_X6_puts : Cond.code yX6_puts cX6_puts 4 none ∈ mb_GW := mb_tb 1067 (by decide +kernel) (by decide +kernel)
theorem wl_X6_82 : Cond.methodLink RX6 82 yX6_points ∈ mb_GW := mb_tb 1020 (by decide +kernel) (by decide +kernel)
theorem mi_X6_points : Cond.instanceMethod yX6_points ∈ mb_GW := mb_tb 1022 (by decide +kernel) (by decide +kernel)
theorem ms_X6_points : Cond.selects RX6 yX6_points yX6_points ∈ mb_GW := mb_tp 37 (by decide +kernel) (by decide +kernel)
theorem mc_X6_points : Cond.code yX6_points cX6_points 2 (some .int) ∈ mb_GW := mb_tb 1023 (by decide +kernel) (by decide +kernel)
theorem wl_X6_85 : Cond.methodLink RX6 85 yX6_ahead ∈ mb_GW := mb_tb 1088 (by decide +kernel) (by decide +kernel)
theorem mi_X6_ahead : Cond.instanceMethod yX6_ahead ∈ mb_GW := mb_tb 1090 (by decide +kernel) (by decide +kernel)
theorem ms_X6_ahead : Cond.selects RX6 yX6_ahead yX6_ahead ∈ mb_GW := mb_tp 48 (by decide +kernel) (by decide +kernel)
theorem mc_X6_ahead : Cond.code yX6_ahead cX6_ahead 5 (some .int) ∈ mb_GW := mb_tb 1091 (by decide +kernel) (by decide +kernel)
theorem wf_X6_29 : Cond.fieldLink RX6 29 "MarinaBerthsModel" "best" "[I" ∈ mb_GW := mb_tb 853 (by decide +kernel) (by decide +kernel)
theorem gf_X6_29 {l : Launch} {G : mb_G} {cc : ByteArray} {nL : Nat} {ret : Option FieldType} {d pc pn : Nat} {lv : List (Nat × mb_AV)} {st : List mb_AV} {h : mb_AH} {res : mb_RS} {a b : Nat} (dg : decode cc pc = .ok (.getfield 29, 3)) (hn : pc + 3 = pn) (kk : mb_Ev l G RX6 cc nL ret d pn lv (mb_F 26 0 0 :: st) h res) : mb_Ev l G RX6 cc nL ret d pc lv (mb_F 6 a b :: st) h res := mb_get (v := mb_F 26 0 0) (ci := 6) (j := 9) in_X6 rfl (by decide) wf_X6_29 rfl rfl (fun _ => ⟨by decide, by decide⟩) dg hn kk
theorem wf_X6_22 : Cond.fieldLink RX6 22 "MarinaBerthsModel" "movers" "[I" ∈ mb_GW := mb_tb 851 (by decide +kernel) (by decide +kernel)
theorem gf_X6_22 {l : Launch} {G : mb_G} {cc : ByteArray} {nL : Nat} {ret : Option FieldType} {d pc pn : Nat} {lv : List (Nat × mb_AV)} {st : List mb_AV} {h : mb_AH} {res : mb_RS} {a b : Nat} (dg : decode cc pc = .ok (.getfield 22, 3)) (hn : pc + 3 = pn) (kk : mb_Ev l G RX6 cc nL ret d pn lv (mb_F 24 0 0 :: st) h res) : mb_Ev l G RX6 cc nL ret d pc lv (mb_F 6 a b :: st) h res := mb_get (v := mb_F 24 0 0) (ci := 6) (j := 7) in_X6 rfl (by decide) wf_X6_22 rfl rfl (fun _ => ⟨by decide, by decide⟩) dg hn kk
theorem wf_X6_25 : Cond.fieldLink RX6 25 "MarinaBerthsModel" "shelters" "[I" ∈ mb_GW := mb_tb 852 (by decide +kernel) (by decide +kernel)
theorem gf_X6_25 {l : Launch} {G : mb_G} {cc : ByteArray} {nL : Nat} {ret : Option FieldType} {d pc pn : Nat} {lv : List (Nat × mb_AV)} {st : List mb_AV} {h : mb_AH} {res : mb_RS} {a b : Nat} (dg : decode cc pc = .ok (.getfield 25, 3)) (hn : pc + 3 = pn) (kk : mb_Ev l G RX6 cc nL ret d pn lv (mb_F 25 0 0 :: st) h res) : mb_Ev l G RX6 cc nL ret d pc lv (mb_F 6 a b :: st) h res := mb_get (v := mb_F 25 0 0) (ci := 6) (j := 8) in_X6 rfl (by decide) wf_X6_25 rfl rfl (fun _ => ⟨by decide, by decide⟩) dg hn kk
theorem wl_X6_96 : Cond.methodLink RX6 96 yX6_isFit ∈ mb_GW := mb_tb 996 (by decide +kernel) (by decide +kernel)
theorem mi_X6_isFit : Cond.instanceMethod yX6_isFit ∈ mb_GW := mb_tb 998 (by decide +kernel) (by decide +kernel)
theorem ms_X6_isFit : Cond.selects RX6 yX6_isFit yX6_isFit ∈ mb_GW := mb_tp 32 (by decide +kernel) (by decide +kernel)
theorem mc_X6_isFit : Cond.code yX6_isFit cX6_isFit 3 (some .boolean) ∈ mb_GW := mb_tb 999 (by decide +kernel) (by decide +kernel)
theorem wl_X6_92 : Cond.methodLink RX6 92 yX6_withShelter ∈ mb_GW := mb_tb 1138 (by decide +kernel) (by decide +kernel)
theorem mi_X6_withShelter : Cond.instanceMethod yX6_withShelter ∈ mb_GW := mb_tb 1140 (by decide +kernel) (by decide +kernel)
theorem ms_X6_withShelter : Cond.selects RX6 yX6_withShelter yX6_withShelter ∈ mb_GW := mb_tp 56 (by decide +kernel) (by decide +kernel)
theorem mc_X6_withShelter : Cond.code yX6_withShelter cX6_withShelter 6 (some .int) ∈ mb_GW := mb_tb 1141 (by decide +kernel) (by decide +kernel)
theorem wl_X6_88 : Cond.methodLink RX6 88 yX6_lays ∈ mb_GW := mb_tb 1134 (by decide +kernel) (by decide +kernel)
theorem mi_X6_lays : Cond.instanceMethod yX6_lays ∈ mb_GW := mb_tb 1136 (by decide +kernel) (by decide +kernel)
theorem ms_X6_lays : Cond.selects RX6 yX6_lays yX6_lays ∈ mb_GW := mb_tp 55 (by decide +kernel) (by decide +kernel)
theorem mc_X6_lays : Cond.code yX6_lays cX6_lays 8 none ∈ mb_GW := mb_tb 1137 (by decide +kernel) (by decide +kernel)
theorem wl_X6_99 : Cond.methodLink RX6 99 yX6_waits ∈ mb_GW := mb_tb 1084 (by decide +kernel) (by decide +kernel)
theorem mi_X6_waits : Cond.instanceMethod yX6_waits ∈ mb_GW := mb_tb 1086 (by decide +kernel) (by decide +kernel)
theorem ms_X6_waits : Cond.selects RX6 yX6_waits yX6_waits ∈ mb_GW := mb_tp 47 (by decide +kernel) (by decide +kernel)
theorem mc_X6_waits : Cond.code yX6_waits cX6_waits 2 none ∈ mb_GW := mb_tb 1087 (by decide +kernel) (by decide +kernel)
theorem wk_X6_103 : Cond.constantLong RX6 103 (10) ∈ mb_GW := mb_tb 1128 (by decide +kernel) (by decide +kernel)
theorem wl_X6_112 : Cond.methodLink RX6 112 yX6_ends ∈ mb_GW := mb_tb 1142 (by decide +kernel) (by decide +kernel)
theorem mi_X6_ends : Cond.instanceMethod yX6_ends ∈ mb_GW := mb_tb 1144 (by decide +kernel) (by decide +kernel)
theorem ms_X6_ends : Cond.selects RX6 yX6_ends yX6_ends ∈ mb_GW := mb_tp 57 (by decide +kernel) (by decide +kernel)
theorem mc_X6_ends : Cond.code yX6_ends cX6_ends 3 none ∈ mb_GW := mb_tb 1145 (by decide +kernel) (by decide +kernel)
theorem wl_X6_109 : Cond.methodLink RX6 109 yX6_begins ∈ mb_GW := mb_tb 1130 (by decide +kernel) (by decide +kernel)
theorem mi_X6_begins : Cond.instanceMethod yX6_begins ∈ mb_GW := mb_tb 1132 (by decide +kernel) (by decide +kernel)
theorem ms_X6_begins : Cond.selects RX6 yX6_begins yX6_begins ∈ mb_GW := mb_tp 54 (by decide +kernel) (by decide +kernel)
theorem mc_X6_begins : Cond.code yX6_begins cX6_begins 8 none ∈ mb_GW := mb_tb 1133 (by decide +kernel) (by decide +kernel)
theorem wl_X6_105 : Cond.methodLink RX6 105 yX6_fee ∈ mb_GW := mb_tb 1124 (by decide +kernel) (by decide +kernel)
theorem mi_X6_fee : Cond.instanceMethod yX6_fee ∈ mb_GW := mb_tb 1126 (by decide +kernel) (by decide +kernel)
theorem ms_X6_fee : Cond.selects RX6 yX6_fee yX6_fee ∈ mb_GW := mb_tp 53 (by decide +kernel) (by decide +kernel)
theorem mc_X6_fee : Cond.code yX6_fee cX6_fee 5 (some .int) ∈ mb_GW := mb_tb 1127 (by decide +kernel) (by decide +kernel)
theorem wk_X6_108 : Cond.constant RX6 108 (2147483647) ∈ mb_GW := mb_tb 1129 (by decide +kernel) (by decide +kernel)
theorem wf_X6_115 : Cond.fieldLink RX6 115 "MarinaBerthsModel" "place" "I" ∈ mb_GW := mb_tb 854 (by decide +kernel) (by decide +kernel)
theorem gf_X6_115 {l : Launch} {G : mb_G} {cc : ByteArray} {nL : Nat} {ret : Option FieldType} {d pc pn : Nat} {lv : List (Nat × mb_AV)} {st : List mb_AV} {h : mb_AH} {res : mb_RS} {a b : Nat} (dg : decode cc pc = .ok (.getfield 115, 3)) (hn : pc + 3 = pn) (kk : mb_Ev l G RX6 cc nL ret d pn lv (.inl (h.1 6 a b 10) :: st) h res) : mb_Ev l G RX6 cc nL ret d pc lv (mb_F 6 a b :: st) h res := mb_get (v := .inl (h.1 6 a b 10)) (ci := 6) (j := 10) in_X6 rfl (by decide) wf_X6_115 rfl rfl (fun _ => trivial) dg hn kk
theorem wf_X6_118 : Cond.fieldLink RX6 118 "MarinaBerthsModel" "length" "I" ∈ mb_GW := mb_tb 850 (by decide +kernel) (by decide +kernel)
theorem gf_X6_118 {l : Launch} {G : mb_G} {cc : ByteArray} {nL : Nat} {ret : Option FieldType} {d pc pn : Nat} {lv : List (Nat × mb_AV)} {st : List mb_AV} {h : mb_AH} {res : mb_RS} {a b : Nat} (dg : decode cc pc = .ok (.getfield 118, 3)) (hn : pc + 3 = pn) (kk : mb_Ev l G RX6 cc nL ret d pn lv (.inl (h.1 6 a b 6) :: st) h res) : mb_Ev l G RX6 cc nL ret d pc lv (mb_F 6 a b :: st) h res := mb_get (v := .inl (h.1 6 a b 6)) (ci := 6) (j := 6) in_X6 rfl (by decide) wf_X6_118 rfl rfl (fun _ => trivial) dg hn kk
theorem wf_X6_19 : Cond.fieldLink RX6 19 "MarinaBerthsModel" "text" "[I" ∈ mb_GW := mb_tb 849 (by decide +kernel) (by decide +kernel)
theorem gf_X6_19 {l : Launch} {G : mb_G} {cc : ByteArray} {nL : Nat} {ret : Option FieldType} {d pc pn : Nat} {lv : List (Nat × mb_AV)} {st : List mb_AV} {h : mb_AH} {res : mb_RS} {a b : Nat} (dg : decode cc pc = .ok (.getfield 19, 3)) (hn : pc + 3 = pn) (kk : mb_Ev l G RX6 cc nL ret d pn lv (mb_F 23 0 0 :: st) h res) : mb_Ev l G RX6 cc nL ret d pc lv (mb_F 6 a b :: st) h res := mb_get (v := mb_F 23 0 0) (ci := 6) (j := 5) in_X6 rfl (by decide) wf_X6_19 rfl rfl (fun _ => ⟨by decide, by decide⟩) dg hn kk
theorem wf_X6_121 : Cond.fieldLink RX6 121 "MarinaBerthsModel" "wrong" "I" ∈ mb_GW := mb_tb 855 (by decide +kernel) (by decide +kernel)
theorem gf_X6_121 {l : Launch} {G : mb_G} {cc : ByteArray} {nL : Nat} {ret : Option FieldType} {d pc pn : Nat} {lv : List (Nat × mb_AV)} {st : List mb_AV} {h : mb_AH} {res : mb_RS} {a b : Nat} (dg : decode cc pc = .ok (.getfield 121, 3)) (hn : pc + 3 = pn) (kk : mb_Ev l G RX6 cc nL ret d pn lv (.inl (h.1 6 a b 11) :: st) h res) : mb_Ev l G RX6 cc nL ret d pc lv (mb_F 6 a b :: st) h res := mb_get (v := .inl (h.1 6 a b 11)) (ci := 6) (j := 11) in_X6 rfl (by decide) wf_X6_121 rfl rfl (fun _ => trivial) dg hn kk
theorem pf_X6_121 {l : Launch} {G : mb_G} {cc : ByteArray} {nL : Nat} {ret : Option FieldType} {d pc pn : Nat} {lv : List (Nat × mb_AV)} {st : List mb_AV} {h : mb_AH} {res : mb_RS} {a b : Nat} {x : Int32} {K : mb_AH → Option mb_RS} (dg : decode cc pc = .ok (.putfield 121, 3)) (hn : pc + 3 = pn) (hr : mb_up (mb_sI h 6 a b 11 x) K = some res) (kk : ∀ h2, K h2 = some res → mb_Ev l G RX6 cc nL ret d pn lv st h2 res) : mb_Ev l G RX6 cc nL ret d pc lv (.inl x :: mb_F 6 a b :: st) h res := mb_putI (ci := 6) (j := 11) (ty := .int) in_X6 tyX6 tyX6_ok nmX6 rfl (by decide) wf_X6_121 rfl rfl rfl rfl rfl (Nat.le_of_ble_eq_true rfl) rfl dg hn (kk _ hr)
theorem wl_X6_124 : Cond.methodLink RX6 124 yX6_next ∈ mb_GW := mb_tb 917 (by decide +kernel) (by decide +kernel)
theorem mi_X6_next : Cond.instanceMethod yX6_next ∈ mb_GW := mb_tb 919 (by decide +kernel) (by decide +kernel)
theorem ms_X6_next : Cond.selects RX6 yX6_next yX6_next ∈ mb_GW := mb_tp 20 (by decide +kernel) (by decide +kernel)
theorem mc_X6_next : Cond.code yX6_next cX6_next 1 (some .int) ∈ mb_GW := mb_tb 920 (by decide +kernel) (by decide +kernel)
theorem pf_X6_115 {l : Launch} {G : mb_G} {cc : ByteArray} {nL : Nat} {ret : Option FieldType} {d pc pn : Nat} {lv : List (Nat × mb_AV)} {st : List mb_AV} {h : mb_AH} {res : mb_RS} {a b : Nat} {x : Int32} {K : mb_AH → Option mb_RS} (dg : decode cc pc = .ok (.putfield 115, 3)) (hn : pc + 3 = pn) (hr : mb_up (mb_sI h 6 a b 10 x) K = some res) (kk : ∀ h2, K h2 = some res → mb_Ev l G RX6 cc nL ret d pn lv st h2 res) : mb_Ev l G RX6 cc nL ret d pc lv (.inl x :: mb_F 6 a b :: st) h res := mb_putI (ci := 6) (j := 10) (ty := .int) in_X6 tyX6 tyX6_ok nmX6 rfl (by decide) wf_X6_115 rfl rfl rfl rfl rfl (Nat.le_of_ble_eq_true rfl) rfl dg hn (kk _ hr)
theorem wl_X6_127 : Cond.methodLink RX6 127 yX6_takes ∈ mb_GW := mb_tb 921 (by decide +kernel) (by decide +kernel)
theorem mi_X6_takes : Cond.instanceMethod yX6_takes ∈ mb_GW := mb_tb 923 (by decide +kernel) (by decide +kernel)
theorem ms_X6_takes : Cond.selects RX6 yX6_takes yX6_takes ∈ mb_GW := mb_tp 21 (by decide +kernel) (by decide +kernel)
theorem mc_X6_takes : Cond.code yX6_takes cX6_takes 3 (some .int) ∈ mb_GW := mb_tb 924 (by decide +kernel) (by decide +kernel)
theorem wf_X6_130 : Cond.fieldLink RX6 130 "MarinaBerthsModel" "range" "I" ∈ mb_GW := mb_tb 856 (by decide +kernel) (by decide +kernel)
theorem gf_X6_130 {l : Launch} {G : mb_G} {cc : ByteArray} {nL : Nat} {ret : Option FieldType} {d pc pn : Nat} {lv : List (Nat × mb_AV)} {st : List mb_AV} {h : mb_AH} {res : mb_RS} {a b : Nat} (dg : decode cc pc = .ok (.getfield 130, 3)) (hn : pc + 3 = pn) (kk : mb_Ev l G RX6 cc nL ret d pn lv (.inl (h.1 6 a b 12) :: st) h res) : mb_Ev l G RX6 cc nL ret d pc lv (mb_F 6 a b :: st) h res := mb_get (v := .inl (h.1 6 a b 12)) (ci := 6) (j := 12) in_X6 rfl (by decide) wf_X6_130 rfl rfl (fun _ => trivial) dg hn kk
theorem pf_X6_130 {l : Launch} {G : mb_G} {cc : ByteArray} {nL : Nat} {ret : Option FieldType} {d pc pn : Nat} {lv : List (Nat × mb_AV)} {st : List mb_AV} {h : mb_AH} {res : mb_RS} {a b : Nat} {x : Int32} {K : mb_AH → Option mb_RS} (dg : decode cc pc = .ok (.putfield 130, 3)) (hn : pc + 3 = pn) (hr : mb_up (mb_sI h 6 a b 12 x) K = some res) (kk : ∀ h2, K h2 = some res → mb_Ev l G RX6 cc nL ret d pn lv st h2 res) : mb_Ev l G RX6 cc nL ret d pc lv (.inl x :: mb_F 6 a b :: st) h res := mb_putI (ci := 6) (j := 12) (ty := .int) in_X6 tyX6 tyX6_ok nmX6 rfl (by decide) wf_X6_130 rfl rfl rfl rfl rfl (Nat.le_of_ble_eq_true rfl) rfl dg hn (kk _ hr)
theorem wf_X6_32 : Cond.fieldLink RX6 32 "MarinaBerthsModel" "numbers" "[I" ∈ mb_GW := mb_tb 858 (by decide +kernel) (by decide +kernel)
theorem gf_X6_32 {l : Launch} {G : mb_G} {cc : ByteArray} {nL : Nat} {ret : Option FieldType} {d pc pn : Nat} {lv : List (Nat × mb_AV)} {st : List mb_AV} {h : mb_AH} {res : mb_RS} {a b : Nat} (dg : decode cc pc = .ok (.getfield 32, 3)) (hn : pc + 3 = pn) (kk : mb_Ev l G RX6 cc nL ret d pn lv (mb_F 27 0 0 :: st) h res) : mb_Ev l G RX6 cc nL ret d pc lv (mb_F 6 a b :: st) h res := mb_get (v := mb_F 27 0 0) (ci := 6) (j := 14) in_X6 rfl (by decide) wf_X6_32 rfl rfl (fun _ => ⟨by decide, by decide⟩) dg hn kk
theorem wf_X6_133 : Cond.fieldLink RX6 133 "MarinaBerthsModel" "told" "I" ∈ mb_GW := mb_tb 857 (by decide +kernel) (by decide +kernel)
theorem gf_X6_133 {l : Launch} {G : mb_G} {cc : ByteArray} {nL : Nat} {ret : Option FieldType} {d pc pn : Nat} {lv : List (Nat × mb_AV)} {st : List mb_AV} {h : mb_AH} {res : mb_RS} {a b : Nat} (dg : decode cc pc = .ok (.getfield 133, 3)) (hn : pc + 3 = pn) (kk : mb_Ev l G RX6 cc nL ret d pn lv (.inl (h.1 6 a b 13) :: st) h res) : mb_Ev l G RX6 cc nL ret d pc lv (mb_F 6 a b :: st) h res := mb_get (v := .inl (h.1 6 a b 13)) (ci := 6) (j := 13) in_X6 rfl (by decide) wf_X6_133 rfl rfl (fun _ => trivial) dg hn kk
theorem pf_X6_133 {l : Launch} {G : mb_G} {cc : ByteArray} {nL : Nat} {ret : Option FieldType} {d pc pn : Nat} {lv : List (Nat × mb_AV)} {st : List mb_AV} {h : mb_AH} {res : mb_RS} {a b : Nat} {x : Int32} {K : mb_AH → Option mb_RS} (dg : decode cc pc = .ok (.putfield 133, 3)) (hn : pc + 3 = pn) (hr : mb_up (mb_sI h 6 a b 13 x) K = some res) (kk : ∀ h2, K h2 = some res → mb_Ev l G RX6 cc nL ret d pn lv st h2 res) : mb_Ev l G RX6 cc nL ret d pc lv (.inl x :: mb_F 6 a b :: st) h res := mb_putI (ci := 6) (j := 13) (ty := .int) in_X6 tyX6 tyX6_ok nmX6 rfl (by decide) wf_X6_133 rfl rfl rfl rfl rfl (Nat.le_of_ble_eq_true rfl) rfl dg hn (kk _ hr)
theorem wl_X6_136 : Cond.methodLink RX6 136 yX6_readsNumber ∈ mb_GW := mb_tb 913 (by decide +kernel) (by decide +kernel)
theorem mi_X6_readsNumber : Cond.instanceMethod yX6_readsNumber ∈ mb_GW := mb_tb 915 (by decide +kernel) (by decide +kernel)
theorem ms_X6_readsNumber : Cond.selects RX6 yX6_readsNumber yX6_readsNumber ∈ mb_GW := mb_tp 19 (by decide +kernel) (by decide +kernel)
theorem mc_X6_readsNumber : Cond.code yX6_readsNumber cX6_readsNumber 5 none ∈ mb_GW := mb_tb 916 (by decide +kernel) (by decide +kernel)
theorem wl_X6_139 : Cond.methodLink RX6 139 yX6_reads ∈ mb_GW := mb_tb 909 (by decide +kernel) (by decide +kernel)
theorem mi_X6_reads : Cond.instanceMethod yX6_reads ∈ mb_GW := mb_tb 911 (by decide +kernel) (by decide +kernel)
theorem ms_X6_reads : Cond.selects RX6 yX6_reads yX6_reads ∈ mb_GW := mb_tp 18 (by decide +kernel) (by decide +kernel)
theorem mc_X6_reads : Cond.code yX6_reads cX6_reads 2 (some .int) ∈ mb_GW := mb_tb 912 (by decide +kernel) (by decide +kernel)
theorem wl_X6_142 : Cond.methodLink RX6 142 yX6_saves ∈ mb_GW := mb_tb 928 (by decide +kernel) (by decide +kernel)
theorem mi_X6_saves : Cond.instanceMethod yX6_saves ∈ mb_GW := mb_tb 930 (by decide +kernel) (by decide +kernel)
theorem ms_X6_saves : Cond.selects RX6 yX6_saves yX6_saves ∈ mb_GW := mb_tp 22 (by decide +kernel) (by decide +kernel)
theorem mc_X6_saves : Cond.code yX6_saves cX6_saves 2 none ∈ mb_GW := mb_tb 931 (by decide +kernel) (by decide +kernel)
theorem wk_X6_145 : Cond.constant RX6 145 (9999999) ∈ mb_GW := mb_tb 947 (by decide +kernel) (by decide +kernel)
theorem wl_X6_146 : Cond.methodLink RX6 146 yX6_isRate ∈ mb_GW := mb_tb 944 (by decide +kernel) (by decide +kernel)
theorem mt_X6_isRate : Cond.static yX6_isRate ∈ mb_GW := mb_tb 945 (by decide +kernel) (by decide +kernel)
theorem mc_X6_isRate : Cond.code yX6_isRate cX6_isRate 1 (some .boolean) ∈ mb_GW := mb_tb 946 (by decide +kernel) (by decide +kernel)
theorem wl_X6_149 : Cond.methodLink RX6 149 yX6_canSet ∈ mb_GW := mb_tb 960 (by decide +kernel) (by decide +kernel)
theorem mi_X6_canSet : Cond.instanceMethod yX6_canSet ∈ mb_GW := mb_tb 962 (by decide +kernel) (by decide +kernel)
theorem ms_X6_canSet : Cond.selects RX6 yX6_canSet yX6_canSet ∈ mb_GW := mb_tp 25 (by decide +kernel) (by decide +kernel)
theorem mc_X6_canSet : Cond.code yX6_canSet cX6_canSet 3 (some .boolean) ∈ mb_GW := mb_tb 963 (by decide +kernel) (by decide +kernel)
theorem wl_X6_152 : Cond.methodLink RX6 152 yX6_isBerth ∈ mb_GW := mb_tb 968 (by decide +kernel) (by decide +kernel)
theorem mi_X6_isBerth : Cond.instanceMethod yX6_isBerth ∈ mb_GW := mb_tb 970 (by decide +kernel) (by decide +kernel)
theorem ms_X6_isBerth : Cond.selects RX6 yX6_isBerth yX6_isBerth ∈ mb_GW := mb_tp 26 (by decide +kernel) (by decide +kernel)
theorem mc_X6_isBerth : Cond.code yX6_isBerth cX6_isBerth 2 (some .boolean) ∈ mb_GW := mb_tb 971 (by decide +kernel) (by decide +kernel)
theorem wl_X6_155 : Cond.methodLink RX6 155 yX6_berthTold ∈ mb_GW := mb_tb 980 (by decide +kernel) (by decide +kernel)
theorem mi_X6_berthTold : Cond.instanceMethod yX6_berthTold ∈ mb_GW := mb_tb 982 (by decide +kernel) (by decide +kernel)
theorem ms_X6_berthTold : Cond.selects RX6 yX6_berthTold yX6_berthTold ∈ mb_GW := mb_tp 28 (by decide +kernel) (by decide +kernel)
theorem mc_X6_berthTold : Cond.code yX6_berthTold cX6_berthTold 5 (some .int) ∈ mb_GW := mb_tb 983 (by decide +kernel) (by decide +kernel)
theorem wl_X6_158 : Cond.methodLink RX6 158 yX6_isAground ∈ mb_GW := mb_tb 1024 (by decide +kernel) (by decide +kernel)
theorem mi_X6_isAground : Cond.instanceMethod yX6_isAground ∈ mb_GW := mb_tb 1026 (by decide +kernel) (by decide +kernel)
theorem ms_X6_isAground : Cond.selects RX6 yX6_isAground yX6_isAground ∈ mb_GW := mb_tp 38 (by decide +kernel) (by decide +kernel)
theorem mc_X6_isAground : Cond.code yX6_isAground cX6_isAground 3 (some .boolean) ∈ mb_GW := mb_tb 1027 (by decide +kernel) (by decide +kernel)
theorem mb_out5_9 {x : Int32} (q5 : x ≠ 5) (q6 : x ≠ 6) (q7 : x ≠ 7) (q8 : x ≠ 8) (q9 : x ≠ 9) : x.toInt < 5 ∨ 9 < x.toInt := by
  rcases Int.lt_or_le x.toInt 5 with z | z
  · exact Or.inl z
  · rcases Int.lt_or_le 9 x.toInt with z2 | z2
    · exact Or.inr z2
    · exfalso
      have e : x.toInt = 5 ∨ x.toInt = 6 ∨ x.toInt = 7 ∨ x.toInt = 8 ∨ x.toInt = 9 := by omega
      rcases e with e | e | e | e | e
      · exact q5 (Int32.toInt_inj.mp (e.trans (by decide)))
      · exact q6 (Int32.toInt_inj.mp (e.trans (by decide)))
      · exact q7 (Int32.toInt_inj.mp (e.trans (by decide)))
      · exact q8 (Int32.toInt_inj.mp (e.trans (by decide)))
      · exact q9 (Int32.toInt_inj.mp (e.trans (by decide)))
theorem wl_X6_161 : Cond.methodLink RX6 161 yX6_isBoat ∈ mb_GW := mb_tb 1012 (by decide +kernel) (by decide +kernel)
theorem mi_X6_isBoat : Cond.instanceMethod yX6_isBoat ∈ mb_GW := mb_tb 1014 (by decide +kernel) (by decide +kernel)
theorem ms_X6_isBoat : Cond.selects RX6 yX6_isBoat yX6_isBoat ∈ mb_GW := mb_tp 35 (by decide +kernel) (by decide +kernel)
theorem mc_X6_isBoat : Cond.code yX6_isBoat cX6_isBoat 2 (some .boolean) ∈ mb_GW := mb_tb 1015 (by decide +kernel) (by decide +kernel)
theorem wl_X6_164 : Cond.methodLink RX6 164 yX6_boatTold ∈ mb_GW := mb_tb 1016 (by decide +kernel) (by decide +kernel)
theorem mi_X6_boatTold : Cond.instanceMethod yX6_boatTold ∈ mb_GW := mb_tb 1018 (by decide +kernel) (by decide +kernel)
theorem ms_X6_boatTold : Cond.selects RX6 yX6_boatTold yX6_boatTold ∈ mb_GW := mb_tp 36 (by decide +kernel) (by decide +kernel)
theorem mc_X6_boatTold : Cond.code yX6_boatTold cX6_boatTold 3 (some .int) ∈ mb_GW := mb_tb 1019 (by decide +kernel) (by decide +kernel)
theorem wl_X6_167 : Cond.methodLink RX6 167 yX6_areBoth ∈ mb_GW := mb_tb 1032 (by decide +kernel) (by decide +kernel)
theorem mi_X6_areBoth : Cond.instanceMethod yX6_areBoth ∈ mb_GW := mb_tb 1034 (by decide +kernel) (by decide +kernel)
theorem ms_X6_areBoth : Cond.selects RX6 yX6_areBoth yX6_areBoth ∈ mb_GW := mb_tp 39 (by decide +kernel) (by decide +kernel)
theorem mc_X6_areBoth : Cond.code yX6_areBoth cX6_areBoth 3 (some .boolean) ∈ mb_GW := mb_tb 1035 (by decide +kernel) (by decide +kernel)
theorem wl_X6_170 : Cond.methodLink RX6 170 yX6_countIn ∈ mb_GW := mb_tb 1048 (by decide +kernel) (by decide +kernel)
theorem mi_X6_countIn : Cond.instanceMethod yX6_countIn ∈ mb_GW := mb_tb 1050 (by decide +kernel) (by decide +kernel)
theorem ms_X6_countIn : Cond.selects RX6 yX6_countIn yX6_countIn ∈ mb_GW := mb_tp 42 (by decide +kernel) (by decide +kernel)
theorem mc_X6_countIn : Cond.code yX6_countIn cX6_countIn 4 (some .int) ∈ mb_GW := mb_tb 1051 (by decide +kernel) (by decide +kernel)
theorem wl_X6_173 : Cond.methodLink RX6 173 yX6_free ∈ mb_GW := mb_tb 1044 (by decide +kernel) (by decide +kernel)
theorem mi_X6_free : Cond.instanceMethod yX6_free ∈ mb_GW := mb_tb 1046 (by decide +kernel) (by decide +kernel)
theorem ms_X6_free : Cond.selects RX6 yX6_free yX6_free ∈ mb_GW := mb_tp 41 (by decide +kernel) (by decide +kernel)
theorem mc_X6_free : Cond.code yX6_free cX6_free 1 (some .int) ∈ mb_GW := mb_tb 1047 (by decide +kernel) (by decide +kernel)
theorem wl_X6_176 : Cond.methodLink RX6 176 yX6_aground ∈ mb_GW := mb_tb 1052 (by decide +kernel) (by decide +kernel)
theorem mi_X6_aground : Cond.instanceMethod yX6_aground ∈ mb_GW := mb_tb 1054 (by decide +kernel) (by decide +kernel)
theorem ms_X6_aground : Cond.selects RX6 yX6_aground yX6_aground ∈ mb_GW := mb_tp 43 (by decide +kernel) (by decide +kernel)
theorem mc_X6_aground : Cond.code yX6_aground cX6_aground 3 (some .int) ∈ mb_GW := mb_tb 1055 (by decide +kernel) (by decide +kernel)
theorem mb_out8_13 {x : Int32} (q8 : x ≠ 8) (q9 : x ≠ 9) (q10 : x ≠ 10) (q11 : x ≠ 11) (q12 : x ≠ 12) (q13 : x ≠ 13) : x.toInt < 8 ∨ 13 < x.toInt := by
  rcases Int.lt_or_le x.toInt 8 with z | z
  · exact Or.inl z
  · rcases Int.lt_or_le 13 x.toInt with z2 | z2
    · exact Or.inr z2
    · exfalso
      have e : x.toInt = 8 ∨ x.toInt = 9 ∨ x.toInt = 10 ∨ x.toInt = 11 ∨ x.toInt = 12 ∨ x.toInt = 13 := by omega
      rcases e with e | e | e | e | e | e
      · exact q8 (Int32.toInt_inj.mp (e.trans (by decide)))
      · exact q9 (Int32.toInt_inj.mp (e.trans (by decide)))
      · exact q10 (Int32.toInt_inj.mp (e.trans (by decide)))
      · exact q11 (Int32.toInt_inj.mp (e.trans (by decide)))
      · exact q12 (Int32.toInt_inj.mp (e.trans (by decide)))
      · exact q13 (Int32.toInt_inj.mp (e.trans (by decide)))
theorem wl_X6_179 : Cond.methodLink RX6 179 yX6_infoTold ∈ mb_GW := mb_tb 1040 (by decide +kernel) (by decide +kernel)
theorem mi_X6_infoTold : Cond.instanceMethod yX6_infoTold ∈ mb_GW := mb_tb 1042 (by decide +kernel) (by decide +kernel)
theorem ms_X6_infoTold : Cond.selects RX6 yX6_infoTold yX6_infoTold ∈ mb_GW := mb_tp 40 (by decide +kernel) (by decide +kernel)
theorem mc_X6_infoTold : Cond.code yX6_infoTold cX6_infoTold 2 (some .int) ∈ mb_GW := mb_tb 1043 (by decide +kernel) (by decide +kernel)
theorem wl_X6_182 : Cond.methodLink RX6 182 yX6_isOpen ∈ mb_GW := mb_tb 1060 (by decide +kernel) (by decide +kernel)
theorem mi_X6_isOpen : Cond.instanceMethod yX6_isOpen ∈ mb_GW := mb_tb 1062 (by decide +kernel) (by decide +kernel)
theorem ms_X6_isOpen : Cond.selects RX6 yX6_isOpen yX6_isOpen ∈ mb_GW := mb_tp 44 (by decide +kernel) (by decide +kernel)
theorem mc_X6_isOpen : Cond.code yX6_isOpen cX6_isOpen 2 (some .boolean) ∈ mb_GW := mb_tb 1063 (by decide +kernel) (by decide +kernel)
theorem wl_X6_185 : Cond.methodLink RX6 185 yX6_canChange ∈ mb_GW := mb_tb 1076 (by decide +kernel) (by decide +kernel)
theorem mi_X6_canChange : Cond.instanceMethod yX6_canChange ∈ mb_GW := mb_tb 1078 (by decide +kernel) (by decide +kernel)
theorem ms_X6_canChange : Cond.selects RX6 yX6_canChange yX6_canChange ∈ mb_GW := mb_tp 46 (by decide +kernel) (by decide +kernel)
theorem mc_X6_canChange : Cond.code yX6_canChange cX6_canChange 4 (some .boolean) ∈ mb_GW := mb_tb 1079 (by decide +kernel) (by decide +kernel)
theorem wl_X6_188 : Cond.methodLink RX6 188 yX6_waitingAt ∈ mb_GW := mb_tb 1096 (by decide +kernel) (by decide +kernel)
theorem mi_X6_waitingAt : Cond.instanceMethod yX6_waitingAt ∈ mb_GW := mb_tb 1098 (by decide +kernel) (by decide +kernel)
theorem ms_X6_waitingAt : Cond.selects RX6 yX6_waitingAt yX6_waitingAt ∈ mb_GW := mb_tp 49 (by decide +kernel) (by decide +kernel)
theorem mc_X6_waitingAt : Cond.code yX6_waitingAt cX6_waitingAt 3 (some .int) ∈ mb_GW := mb_tb 1099 (by decide +kernel) (by decide +kernel)
theorem wl_X6_191 : Cond.methodLink RX6 191 yX6_bestOf ∈ mb_GW := mb_tb 1108 (by decide +kernel) (by decide +kernel)
theorem mi_X6_bestOf : Cond.instanceMethod yX6_bestOf ∈ mb_GW := mb_tb 1110 (by decide +kernel) (by decide +kernel)
theorem ms_X6_bestOf : Cond.selects RX6 yX6_bestOf yX6_bestOf ∈ mb_GW := mb_tp 50 (by decide +kernel) (by decide +kernel)
theorem mc_X6_bestOf : Cond.code yX6_bestOf cX6_bestOf 6 (some .int) ∈ mb_GW := mb_tb 1111 (by decide +kernel) (by decide +kernel)
theorem wl_X6_194 : Cond.methodLink RX6 194 yX6_keeps ∈ mb_GW := mb_tb 1116 (by decide +kernel) (by decide +kernel)
theorem mi_X6_keeps : Cond.instanceMethod yX6_keeps ∈ mb_GW := mb_tb 1118 (by decide +kernel) (by decide +kernel)
theorem ms_X6_keeps : Cond.selects RX6 yX6_keeps yX6_keeps ∈ mb_GW := mb_tp 51 (by decide +kernel) (by decide +kernel)
theorem mc_X6_keeps : Cond.code yX6_keeps cX6_keeps 2 none ∈ mb_GW := mb_tb 1119 (by decide +kernel) (by decide +kernel)
theorem wl_X6_200 : Cond.methodLink RX6 200 yX6_returns ∈ mb_GW := mb_tb 1146 (by decide +kernel) (by decide +kernel)
theorem mi_X6_returns : Cond.instanceMethod yX6_returns ∈ mb_GW := mb_tb 1148 (by decide +kernel) (by decide +kernel)
theorem ms_X6_returns : Cond.selects RX6 yX6_returns yX6_returns ∈ mb_GW := mb_tp 58 (by decide +kernel) (by decide +kernel)
theorem mc_X6_returns : Cond.code yX6_returns cX6_returns 2 none ∈ mb_GW := mb_tb 1149 (by decide +kernel) (by decide +kernel)
theorem wl_X6_197 : Cond.methodLink RX6 197 yX6_passes ∈ mb_GW := mb_tb 1120 (by decide +kernel) (by decide +kernel)
theorem mi_X6_passes : Cond.instanceMethod yX6_passes ∈ mb_GW := mb_tb 1122 (by decide +kernel) (by decide +kernel)
theorem ms_X6_passes : Cond.selects RX6 yX6_passes yX6_passes ∈ mb_GW := mb_tp 52 (by decide +kernel) (by decide +kernel)
theorem mc_X6_passes : Cond.code yX6_passes cX6_passes 2 (some .int) ∈ mb_GW := mb_tb 1123 (by decide +kernel) (by decide +kernel)
theorem wk_X6_207 : Cond.constantLong RX6 207 (1000000000) ∈ mb_GW := mb_tb 1158 (by decide +kernel) (by decide +kernel)
theorem wl_X6_203 : Cond.methodLink RX6 203 yX6_paidNow ∈ mb_GW := mb_tb 1154 (by decide +kernel) (by decide +kernel)
theorem mi_X6_paidNow : Cond.instanceMethod yX6_paidNow ∈ mb_GW := mb_tb 1156 (by decide +kernel) (by decide +kernel)
theorem ms_X6_paidNow : Cond.selects RX6 yX6_paidNow yX6_paidNow ∈ mb_GW := mb_tp 59 (by decide +kernel) (by decide +kernel)
theorem mc_X6_paidNow : Cond.code yX6_paidNow cX6_paidNow 1 (some .long) ∈ mb_GW := mb_tb 1157 (by decide +kernel) (by decide +kernel)
theorem wl_X6_209 : Cond.methodLink RX6 209 yX6_owedNow ∈ mb_GW := mb_tb 1167 (by decide +kernel) (by decide +kernel)
theorem mi_X6_owedNow : Cond.instanceMethod yX6_owedNow ∈ mb_GW := mb_tb 1169 (by decide +kernel) (by decide +kernel)
theorem ms_X6_owedNow : Cond.selects RX6 yX6_owedNow yX6_owedNow ∈ mb_GW := mb_tp 60 (by decide +kernel) (by decide +kernel)
theorem mc_X6_owedNow : Cond.code yX6_owedNow cX6_owedNow 4 (some .long) ∈ mb_GW := mb_tb 1170 (by decide +kernel) (by decide +kernel)
theorem wl_X6_212 : Cond.methodLink RX6 212 yX6_grounds ∈ mb_GW := mb_tb 1183 (by decide +kernel) (by decide +kernel)
theorem mi_X6_grounds : Cond.instanceMethod yX6_grounds ∈ mb_GW := mb_tb 1185 (by decide +kernel) (by decide +kernel)
theorem ms_X6_grounds : Cond.selects RX6 yX6_grounds yX6_grounds ∈ mb_GW := mb_tp 61 (by decide +kernel) (by decide +kernel)
theorem mc_X6_grounds : Cond.code yX6_grounds cX6_grounds 3 (some .int) ∈ mb_GW := mb_tb 1186 (by decide +kernel) (by decide +kernel)
theorem pf_X6_118 {l : Launch} {G : mb_G} {cc : ByteArray} {nL : Nat} {ret : Option FieldType} {d pc pn : Nat} {lv : List (Nat × mb_AV)} {st : List mb_AV} {h : mb_AH} {res : mb_RS} {a b : Nat} {x : Int32} {K : mb_AH → Option mb_RS} (dg : decode cc pc = .ok (.putfield 118, 3)) (hn : pc + 3 = pn) (hr : mb_up (mb_sI h 6 a b 6 x) K = some res) (kk : ∀ h2, K h2 = some res → mb_Ev l G RX6 cc nL ret d pn lv st h2 res) : mb_Ev l G RX6 cc nL ret d pc lv (.inl x :: mb_F 6 a b :: st) h res := mb_putI (ci := 6) (j := 6) (ty := .int) in_X6 tyX6 tyX6_ok nmX6 rfl (by decide) wf_X6_118 rfl rfl rfl rfl rfl (Nat.le_of_ble_eq_true rfl) rfl dg hn (kk _ hr)
theorem wk_X6_215 : Cond.constantLong RX6 215 (31) ∈ mb_GW := mb_tb 1224 (by decide +kernel) (by decide +kernel)
theorem wf_X6_217 : Cond.fieldLink RX6 217 "MarinaBerthsModel" "hash" "J" ∈ mb_GW := mb_tb 859 (by decide +kernel) (by decide +kernel)
theorem gf_X6_217 {l : Launch} {G : mb_G} {cc : ByteArray} {nL : Nat} {ret : Option FieldType} {d pc pn : Nat} {lv : List (Nat × mb_AV)} {st : List mb_AV} {h : mb_AH} {res : mb_RS} {a b : Nat} (dg : decode cc pc = .ok (.getfield 217, 3)) (hn : pc + 3 = pn) (kk : mb_Ev l G RX6 cc nL ret d pn lv (.inr (.inl (h.2.1 6 a b 15)) :: st) h res) : mb_Ev l G RX6 cc nL ret d pc lv (mb_F 6 a b :: st) h res := mb_get (v := .inr (.inl (h.2.1 6 a b 15))) (ci := 6) (j := 15) in_X6 rfl (by decide) wf_X6_217 rfl rfl (fun _ => trivial) dg hn kk
theorem pf_X6_217 {l : Launch} {G : mb_G} {cc : ByteArray} {nL : Nat} {ret : Option FieldType} {d pc pn : Nat} {lv : List (Nat × mb_AV)} {st : List mb_AV} {h : mb_AH} {res : mb_RS} {a b : Nat} {x : Int64} {K : mb_AH → Option mb_RS} (dg : decode cc pc = .ok (.putfield 217, 3)) (hn : pc + 3 = pn) (hr : mb_up (mb_sL h 6 a b 15 x) K = some res) (kk : ∀ h2, K h2 = some res → mb_Ev l G RX6 cc nL ret d pn lv st h2 res) : mb_Ev l G RX6 cc nL ret d pc lv (.inr (.inl x) :: mb_F 6 a b :: st) h res := mb_putL (ci := 6) (j := 15) (ty := .long) in_X6 tyX6 tyX6_ok nmX6 rfl (by decide) wf_X6_217 rfl rfl rfl rfl rfl (Nat.le_of_ble_eq_true rfl) rfl dg hn (kk _ hr)
theorem wk_X6_221 : Cond.constantLong RX6 221 (43079) ∈ mb_GW := mb_tb 1219 (by decide +kernel) (by decide +kernel)
theorem wl_X6_223 : Cond.methodLink RX6 223 yX6_mix ∈ mb_GW := mb_tb 1220 (by decide +kernel) (by decide +kernel)
theorem mi_X6_mix : Cond.instanceMethod yX6_mix ∈ mb_GW := mb_tb 1222 (by decide +kernel) (by decide +kernel)
theorem ms_X6_mix : Cond.selects RX6 yX6_mix yX6_mix ∈ mb_GW := mb_tp 62 (by decide +kernel) (by decide +kernel)
theorem mc_X6_mix : Cond.code yX6_mix cX6_mix 3 none ∈ mb_GW := mb_tb 1223 (by decide +kernel) (by decide +kernel)
end
section
def B_X4_clear_8  : Nat → Int32 → mb_AH → Option mb_RS
  | 0, _, _ => none
  | n + 1, v1, h => (if 20 ≤ v1 then (some (.inl none, h)) else (mb_gB v1 20 (mb_up (mb_sI h 14 0 0 v1.toNatClampNeg 0) fun h102 => (mb_lI (v1 + 1) fun y103 => ((B_X4_clear_8  n) y103 h102)))))
set_option maxRecDepth 100000 in
set_option maxHeartbeats 4000000 in
theorem T_X4_clear_8 {l : Launch} {G : mb_G} {res : mb_RS} (hst : l.stackTraces = false) (hg : mb_gok G)   : ∀ (n : Nat) (v1 : Int32) (h : mb_AH), B_X4_clear_8  n v1 h = some res → mb_Ev l G RX4 cX4_clear 2 none 0 8 [(0, mb_F 4 0 0), (1, .inl v1)] [] h res := by
  intro n
  induction n with
  | zero => intro v1 h hr; cases hr
  | succ n ih =>
    intro v1 h hr
    rw [B_X4_clear_8] at hr
    refine mb_iload_n (pn := 9) 1 dX4_clear_8 rfl rfl rfl ?_
    refine mb_bipush (v := 20) (pn := 11) dX4_clear_9 (by decide) rfl ?_
    refine mb_ic_ge (tgt := 27) (pn := 14) dX4_clear_11 (by decide) rfl hr (fun hr => ?_) (fun hr => ?_)
    · cases hr
      exact mb_vret dX4_clear_27
    · refine mb_aload_n (pn := 15) 0 dX4_clear_14 rfl rfl rfl ?_
      refine gf_X4_9 (pn := 18) dX4_clear_15 rfl ?_
      refine mb_iload_n (pn := 19) 1 dX4_clear_18 rfl rfl rfl ?_
      refine mb_iconst (v := 0) (pn := 20) dX4_clear_19 (by decide) rfl ?_
      refine mb_iast (pn := 21) (n := 20) rfl rfl dX4_clear_20 rfl hr (fun hr => ?_)
      refine mb_nmh hr (fun h102 hr => ?_)
      refine mb_nmx hr (fun y103 qy103 hr => ?_)
      refine mb_iinc (v := y103) (pn := 24) (lv2 := [(1, .inl y103), (0, mb_F 4 0 0)]) 1 dX4_clear_21 rfl (by rw [qy103]; rfl) (by decide) rfl rfl ?_
      refine mb_goto (tgt := 8) dX4_clear_24 (by decide) ?_
      exact mb_lvs [1, 0] rfl (ih _ _ hr)
def F_X4_clear  (h : mb_AH) : Option mb_RS := (mb_up (mb_sI h 4 0 0 2 65535) fun h101 => (B_X4_clear_8  mb_fu 0 h101))
set_option maxRecDepth 100000 in
set_option maxHeartbeats 4000000 in
theorem C_X4_clear {l : Launch} {G : mb_G} (hst : l.stackTraces = false) (hg : mb_gok G)  {h : mb_AH} {res : mb_RS} (hr : F_X4_clear  h = some res) : mb_Mt l G yX4_clear cX4_clear 2 none 0 [mb_F 4 0 0] h res := by
  refine mb_entry (own := RX4) (lv := [(0, mb_F 4 0 0)]) (by decide +kernel) rfl (Nat.le_of_ble_eq_true rfl) rfl rfl (fun _ => ?_) hst hg
  unfold F_X4_clear at hr
  refine mb_aload_n (pn := 1) 0 dX4_clear_0 rfl rfl rfl ?_
  refine mb_ldc (v := 65535) (pn := 3) wk_X4_18 dX4_clear_1 rfl ?_
  refine pf_X4_19 (pn := 6) dX4_clear_3 rfl hr (fun h101 hr => ?_)
  refine mb_iconst (v := 0) (pn := 7) dX4_clear_6 (by decide) rfl ?_
  refine mb_istore_n (pn := 8) (lv2 := [(1, .inl 0), (0, mb_F 4 0 0)]) dX4_clear_7 rfl (by decide) rfl rfl ?_
  exact mb_lvs [1, 0] rfl (T_X4_clear_8 hst hg  mb_fu _ _ hr)
def F_X4_ask (x1 : Int32) (x2 : Int32) (h : mb_AH) : Option mb_RS := (mb_gB x1 20 (mb_up (mb_sI h 14 0 0 x1.toNatClampNeg x2) fun h101 => (some (.inl none, h101))))
set_option maxRecDepth 100000 in
set_option maxHeartbeats 4000000 in
theorem C_X4_ask {l : Launch} {G : mb_G} (hst : l.stackTraces = false) (hg : mb_gok G) {x1 : Int32} {x2 : Int32} {h : mb_AH} {res : mb_RS} (hr : F_X4_ask x1 x2 h = some res) : mb_Mt l G yX4_ask cX4_ask 3 none 0 [mb_F 4 0 0, .inl x1, .inl x2] h res := by
  refine mb_entry (own := RX4) (lv := [(0, mb_F 4 0 0), (1, .inl x1), (2, .inl x2)]) (by decide +kernel) rfl (Nat.le_of_ble_eq_true rfl) rfl rfl (fun _ => ?_) hst hg
  unfold F_X4_ask at hr
  refine mb_aload_n (pn := 1) 0 dX4_ask_0 rfl rfl rfl ?_
  refine gf_X4_9 (pn := 4) dX4_ask_1 rfl ?_
  refine mb_iload_n (pn := 5) 1 dX4_ask_4 rfl rfl rfl ?_
  refine mb_iload_n (pn := 6) 2 dX4_ask_5 rfl rfl rfl ?_
  refine mb_iast (pn := 7) (n := 20) rfl rfl dX4_ask_6 rfl hr (fun hr => ?_)
  refine mb_nmh hr (fun h101 hr => ?_)
  cases hr
  exact mb_vret dX4_ask_7
def B_X4_findsBerth_95 (REC : Int32 → Int32 → mb_AH → Option mb_RS)  (v1 : Int32) (v3 : Int32) (h : mb_AH) : Option mb_RS := (mb_gB v3 16 (mb_up (mb_sI h 15 0 0 v3.toNatClampNeg v1) fun h103 => (some (.inl (some (.inl 1)), h103))))
set_option maxRecDepth 100000 in
set_option maxHeartbeats 4000000 in
theorem T_X4_findsBerth_95 {l : Launch} {G : mb_G} {res : mb_RS} {nd : Nat} {REC : Int32 → Int32 → mb_AH → Option mb_RS} (hst : l.stackTraces = false) (hg : mb_gok G) (hREC : ∀ {x2z : Int32} {x3z : Int32} {hz : mb_AH} {rz : mb_RS}, REC x2z x3z hz = some rz → mb_Mt l G yX4_findsBerth cX4_findsBerth 5 (some .boolean) nd [mb_F 4 0 0, .inl x2z, .inl x3z] hz rz)   {v1 : Int32} {v3 : Int32} {h : mb_AH} (hr : B_X4_findsBerth_95 REC  v1 v3 h = some res) : mb_Ev l G RX4 cX4_findsBerth 5 (some .boolean) (nd + 1) 95 [(0, mb_F 4 0 0), (1, .inl v1), (3, .inl v3)] [] h res := by
  unfold B_X4_findsBerth_95 at hr
  refine mb_aload_n (pn := 96) 0 dX4_findsBerth_95 rfl rfl rfl ?_
  refine gf_X4_15 (pn := 99) dX4_findsBerth_96 rfl ?_
  refine mb_iload_n (pn := 100) 2 dX4_findsBerth_99 rfl rfl rfl ?_
  refine mb_iload_n (pn := 101) 1 dX4_findsBerth_100 rfl rfl rfl ?_
  refine mb_iast (pn := 102) (n := 16) rfl rfl dX4_findsBerth_101 rfl hr (fun hr => ?_)
  refine mb_nmh hr (fun h103 hr => ?_)
  refine mb_iconst (v := 1) (pn := 103) dX4_findsBerth_102 (by decide) rfl ?_
  cases hr
  exact mb_zret1 dX4_findsBerth_103
def B_X4_findsBerth_20 (REC : Int32 → Int32 → mb_AH → Option mb_RS)  : Nat → Int32 → Int32 → Int32 → mb_AH → Option mb_RS
  | 0, _, _, _, _ => none
  | n + 1, v1, v2, v3, h => (if 16 ≤ v3 then (some (.inl (some (.inl 0)), h)) else (mb_lI ((1 : Int32) <<< (v3 &&& 31)) fun y101 => (mb_gB v1 20 (if ((((h.1 14 0 0 v1.toNatClampNeg) &&& (h.1 4 0 0 2)) &&& ((h.1 4 0 0 3) ^^^ (-1))) &&& y101) = 0 then (mb_lI (v3 + 1) fun y107 => ((B_X4_findsBerth_20 REC  n) v1 v2 y107 h)) else (mb_up (mb_sI h 4 0 0 3 ((h.1 4 0 0 3) ||| y101)) fun h102 => (mb_gB v3 16 (if (h102.1 15 0 0 v3.toNatClampNeg) = (-1) then (B_X4_findsBerth_95 REC  v1 v3 h102) else (mb_gB v3 16 (mb_cI (REC (h102.1 15 0 0 v3.toNatClampNeg) (v2 + 1) h102) fun y104 h105 => (if y104 = 0 then (mb_lI (v3 + 1) fun y106 => ((B_X4_findsBerth_20 REC  n) v1 v2 y106 h105)) else (B_X4_findsBerth_95 REC  v1 v3 h105)))))))))))
set_option maxRecDepth 100000 in
set_option maxHeartbeats 4000000 in
theorem T_X4_findsBerth_20 {l : Launch} {G : mb_G} {res : mb_RS} {nd : Nat} {REC : Int32 → Int32 → mb_AH → Option mb_RS} (hst : l.stackTraces = false) (hg : mb_gok G) (hREC : ∀ {x2z : Int32} {x3z : Int32} {hz : mb_AH} {rz : mb_RS}, REC x2z x3z hz = some rz → mb_Mt l G yX4_findsBerth cX4_findsBerth 5 (some .boolean) nd [mb_F 4 0 0, .inl x2z, .inl x3z] hz rz)   : ∀ (n : Nat) (v1 : Int32) (v2 : Int32) (v3 : Int32) (h : mb_AH), B_X4_findsBerth_20 REC  n v1 v2 v3 h = some res → mb_Ev l G RX4 cX4_findsBerth 5 (some .boolean) (nd + 1) 20 [(0, mb_F 4 0 0), (1, .inl v1), (2, .inl v2), (3, .inl v3)] [] h res := by
  intro n
  induction n with
  | zero => intro v1 v2 v3 h hr; cases hr
  | succ n ih =>
    intro v1 v2 v3 h hr
    rw [B_X4_findsBerth_20] at hr
    refine mb_iload_n (pn := 21) 3 dX4_findsBerth_20 rfl rfl rfl ?_
    refine mb_bipush (v := 16) (pn := 23) dX4_findsBerth_21 (by decide) rfl ?_
    refine mb_ic_ge (tgt := 110) (pn := 26) dX4_findsBerth_23 (by decide) rfl hr (fun hr => ?_) (fun hr => ?_)
    · refine mb_iconst (v := 0) (pn := 111) dX4_findsBerth_110 (by decide) rfl ?_
      cases hr
      exact mb_zret0 dX4_findsBerth_111
    · refine mb_iconst (v := 1) (pn := 27) dX4_findsBerth_26 (by decide) rfl ?_
      refine mb_iload_n (pn := 28) 3 dX4_findsBerth_27 rfl rfl rfl ?_
      refine mb_ishl (pn := 29) dX4_findsBerth_28 rfl ?_
      refine mb_nmI hr (fun y101 hr => ?_)
      refine mb_istore (pn := 31) (lv2 := [(4, .inl y101), (0, mb_F 4 0 0), (1, .inl v1), (2, .inl v2), (3, .inl v3)]) dX4_findsBerth_29 (by decide) rfl rfl ?_
      refine mb_aload_n (pn := 32) 1 dX4_findsBerth_31 rfl rfl rfl ?_
      refine gf_X4_9 (pn := 35) dX4_findsBerth_32 rfl ?_
      refine mb_iload_n (pn := 36) 2 dX4_findsBerth_35 rfl rfl rfl ?_
      refine mb_iald (pn := 37) (n := 20) rfl dX4_findsBerth_36 rfl hr (fun hr => ?_)
      refine mb_aload_n (pn := 38) 1 dX4_findsBerth_37 rfl rfl rfl ?_
      refine gf_X4_19 (pn := 41) dX4_findsBerth_38 rfl ?_
      refine mb_iand (pn := 42) dX4_findsBerth_41 rfl ?_
      refine mb_aload_n (pn := 43) 1 dX4_findsBerth_42 rfl rfl rfl ?_
      refine gf_X4_27 (pn := 46) dX4_findsBerth_43 rfl ?_
      refine mb_iconst (v := (-1)) (pn := 47) dX4_findsBerth_46 (by decide) rfl ?_
      refine mb_ixor (pn := 48) dX4_findsBerth_47 rfl ?_
      refine mb_iand (pn := 49) dX4_findsBerth_48 rfl ?_
      refine mb_iload (pn := 51) 0 dX4_findsBerth_49 rfl rfl ?_
      refine mb_iand (pn := 52) dX4_findsBerth_51 rfl ?_
      refine mb_if_ne (tgt := 58) (pn := 55) dX4_findsBerth_52 (by decide) rfl hr (fun hr => ?_) (fun hr => ?_)
      · refine mb_aload_n (pn := 59) 1 dX4_findsBerth_58 rfl rfl rfl ?_
        refine mb_dup (pn := 60) rfl dX4_findsBerth_59 rfl ?_
        refine gf_X4_27 (pn := 63) dX4_findsBerth_60 rfl ?_
        refine mb_iload (pn := 65) 0 dX4_findsBerth_63 rfl rfl ?_
        refine mb_ior (pn := 66) dX4_findsBerth_65 rfl ?_
        refine pf_X4_27 (pn := 69) dX4_findsBerth_66 rfl hr (fun h102 hr => ?_)
        refine mb_aload_n (pn := 70) 1 dX4_findsBerth_69 rfl rfl rfl ?_
        refine gf_X4_15 (pn := 73) dX4_findsBerth_70 rfl ?_
        refine mb_iload_n (pn := 74) 4 dX4_findsBerth_73 rfl rfl rfl ?_
        refine mb_iald (pn := 75) (n := 16) rfl dX4_findsBerth_74 rfl hr (fun hr => ?_)
        refine mb_iconst (v := (-1)) (pn := 76) dX4_findsBerth_75 (by decide) rfl ?_
        refine mb_ic_eq (tgt := 95) (pn := 79) dX4_findsBerth_76 (by decide) rfl hr (fun hr => ?_) (fun hr => ?_)
        · exact mb_lvs [1, 2, 4] rfl (T_X4_findsBerth_95 hst hg hREC  hr)
        · refine mb_aload_n (pn := 80) 1 dX4_findsBerth_79 rfl rfl rfl ?_
          refine mb_aload_n (pn := 81) 1 dX4_findsBerth_80 rfl rfl rfl ?_
          refine gf_X4_15 (pn := 84) dX4_findsBerth_81 rfl ?_
          refine mb_iload_n (pn := 85) 4 dX4_findsBerth_84 rfl rfl rfl ?_
          refine mb_iald (pn := 86) (n := 16) rfl dX4_findsBerth_85 rfl hr (fun hr => ?_)
          refine mb_iload_n (pn := 87) 3 dX4_findsBerth_86 rfl rfl rfl ?_
          refine mb_iconst (v := 1) (pn := 88) dX4_findsBerth_87 (by decide) rfl ?_
          refine mb_iadd (pn := 89) dX4_findsBerth_88 rfl ?_
          refine mb_kSI (as := [mb_F 4 0 0, .inl (h102.1 15 0 0 v3.toNatClampNeg), .inl (v2 + 1)]) (n := 3) (d2 := nd) (fun _ hf => hREC hf) (mb_gS wl_X4_30 mt_X4_findsBerth mn_X4 mc_X4_findsBerth) (by decide +kernel) rfl (Nat.le_refl _) (by decide) (Nat.le_of_ble_eq_true rfl) rfl dX4_findsBerth_89 rfl hr (fun y104 h105 hr => ?_)
          refine mb_if_eq (tgt := 104) (pn := 95) dX4_findsBerth_92 (by decide) rfl hr (fun hr => ?_) (fun hr => ?_)
          · refine mb_nmx hr (fun y106 qy106 hr => ?_)
            refine mb_iinc (v := y106) (pn := 107) (lv2 := [(3, .inl y106), (4, .inl y101), (0, mb_F 4 0 0), (1, .inl v1), (2, .inl v2)]) 4 dX4_findsBerth_104 rfl (by rw [qy106]; rfl) (by decide) rfl rfl ?_
            refine mb_goto (tgt := 20) dX4_findsBerth_107 (by decide) ?_
            exact mb_lvs [2, 3, 4, 0] rfl (ih _ _ _ _ hr)
          · exact mb_lvs [1, 2, 4] rfl (T_X4_findsBerth_95 hst hg hREC  hr)
      · refine mb_goto (tgt := 104) dX4_findsBerth_55 (by decide) ?_
        refine mb_nmx hr (fun y107 qy107 hr => ?_)
        refine mb_iinc (v := y107) (pn := 107) (lv2 := [(3, .inl y107), (4, .inl y101), (0, mb_F 4 0 0), (1, .inl v1), (2, .inl v2)]) 4 dX4_findsBerth_104 rfl (by rw [qy107]; rfl) (by decide) rfl rfl ?_
        refine mb_goto (tgt := 20) dX4_findsBerth_107 (by decide) ?_
        exact mb_lvs [2, 3, 4, 0] rfl (ih _ _ _ _ hr)
def E_X4_findsBerth (REC : Int32 → Int32 → mb_AH → Option mb_RS) (x2 : Int32) (x3 : Int32) (h : mb_AH) : Option mb_RS := (if x2 < 0 then (some (.inl (some (.inl 0)), h)) else (if 20 ≤ x2 then (some (.inl (some (.inl 0)), h)) else (if x3 ≤ 16 then (B_X4_findsBerth_20 REC  mb_fu x2 x3 0 h) else (some (.inl (some (.inl 0)), h)))))
def R_X4_findsBerth : Nat → Int32 → Int32 → mb_AH → Option mb_RS
  | 0 => fun _ _ _ => none
  | n + 1 => E_X4_findsBerth (R_X4_findsBerth n)
set_option maxRecDepth 100000 in
set_option maxHeartbeats 4000000 in
theorem CR_X4_findsBerth {l : Launch} {G : mb_G} (hst : l.stackTraces = false) (hg : mb_gok G) : ∀ (nd : Nat) {x2 : Int32} {x3 : Int32} {h : mb_AH} {res : mb_RS}, R_X4_findsBerth nd x2 x3 h = some res → mb_Mt l G yX4_findsBerth cX4_findsBerth 5 (some .boolean) nd [mb_F 4 0 0, .inl x2, .inl x3] h res := by
  intro nd
  induction nd with
  | zero => intro x2 x3 h res hr; cases hr
  | succ nd ih =>
    intro x2 x3 h res hr
    have hr : E_X4_findsBerth (R_X4_findsBerth nd) x2 x3 h = some res := hr
    unfold E_X4_findsBerth at hr
    have hREC : ∀ {x2z : Int32} {x3z : Int32} {hz : mb_AH} {rz : mb_RS}, R_X4_findsBerth nd x2z x3z hz = some rz → mb_Mt l G yX4_findsBerth cX4_findsBerth 5 (some .boolean) nd [mb_F 4 0 0, .inl x2z, .inl x3z] hz rz := fun hr9 => ih hr9
    generalize R_X4_findsBerth nd = REC at hr hREC
    refine mb_entry (own := RX4) (lv := [(0, mb_F 4 0 0), (1, .inl x2), (2, .inl x3)]) (by decide +kernel) rfl (Nat.le_of_ble_eq_true rfl) rfl rfl (fun _ => ?_) hst hg
    refine mb_iload_n (pn := 1) 1 dX4_findsBerth_0 rfl rfl rfl ?_
    refine mb_if_lt (tgt := 16) (pn := 4) dX4_findsBerth_1 (by decide) rfl hr (fun hr => ?_) (fun hr => ?_)
    · refine mb_iconst (v := 0) (pn := 17) dX4_findsBerth_16 (by decide) rfl ?_
      cases hr
      exact mb_zret0 dX4_findsBerth_17
    · refine mb_iload_n (pn := 5) 1 dX4_findsBerth_4 rfl rfl rfl ?_
      refine mb_bipush (v := 20) (pn := 7) dX4_findsBerth_5 (by decide) rfl ?_
      refine mb_ic_ge (tgt := 16) (pn := 10) dX4_findsBerth_7 (by decide) rfl hr (fun hr => ?_) (fun hr => ?_)
      · refine mb_iconst (v := 0) (pn := 17) dX4_findsBerth_16 (by decide) rfl ?_
        cases hr
        exact mb_zret0 dX4_findsBerth_17
      · refine mb_iload_n (pn := 11) 2 dX4_findsBerth_10 rfl rfl rfl ?_
        refine mb_bipush (v := 16) (pn := 13) dX4_findsBerth_11 (by decide) rfl ?_
        refine mb_ic_le (tgt := 18) (pn := 16) dX4_findsBerth_13 (by decide) rfl hr (fun hr => ?_) (fun hr => ?_)
        · refine mb_iconst (v := 0) (pn := 19) dX4_findsBerth_18 (by decide) rfl ?_
          refine mb_istore_n (pn := 20) (lv2 := [(3, .inl 0), (0, mb_F 4 0 0), (1, .inl x2), (2, .inl x3)]) dX4_findsBerth_19 rfl (by decide) rfl rfl ?_
          exact mb_lvs [1, 2, 3, 0] rfl (T_X4_findsBerth_20 hst hg hREC  mb_fu _ _ _ _ hr)
        · refine mb_iconst (v := 0) (pn := 17) dX4_findsBerth_16 (by decide) rfl ?_
          cases hr
          exact mb_zret0 dX4_findsBerth_17
def F_X4_findsBerth (x2 : Int32) (x3 : Int32) (h : mb_AH) : Option mb_RS := R_X4_findsBerth 20 x2 x3 h
set_option maxRecDepth 100000 in
set_option maxHeartbeats 4000000 in
theorem C_X4_findsBerth {l : Launch} {G : mb_G} (hst : l.stackTraces = false) (hg : mb_gok G) {x2 : Int32} {x3 : Int32} {h : mb_AH} {res : mb_RS} (hr : F_X4_findsBerth x2 x3 h = some res) : mb_Mt l G yX4_findsBerth cX4_findsBerth 5 (some .boolean) 20 [mb_F 4 0 0, .inl x2, .inl x3] h res := CR_X4_findsBerth hst hg 20 hr
set_option maxRecDepth 100000 in
set_option maxHeartbeats 4000000 in
theorem cl_X4_30 {l : Launch} {G : mb_G} {cc : ByteArray} {nL : Nat} {ret : Option FieldType} {d pc pn : Nat} {lv : List (Nat × mb_AV)} {st : List mb_AV} {h : mb_AH} {res : mb_RS} (hst : l.stackTraces = false) (hg : mb_gok G) {x2 : Int32} {x3 : Int32} {K : Int32 → mb_AH → Option mb_RS} (hd2 : 20 + 1 ≤ d) (hs4 : st.length ≤ 4) (dg : decode cc pc = .ok (.invokestatic 30, 3)) (hn : pc + 3 = pn) (hr : mb_cI (F_X4_findsBerth x2 x3 h) K = some res) (kk : ∀ (x : Int32) (h2 : mb_AH), K x h2 = some res → mb_Ev l G RX4 cc nL ret d pn lv (.inl x :: st) h2 res) : mb_Ev l G RX4 cc nL ret d pc lv (.inl x3 :: .inl x2 :: mb_F 4 0 0 :: st) h res := mb_kSI (as := [mb_F 4 0 0, .inl x2, .inl x3]) (n := 3) (d2 := 20) (fun _ hf => C_X4_findsBerth hst hg hf) (mb_gS wl_X4_30 mt_X4_findsBerth mn_X4 mc_X4_findsBerth) (by decide +kernel) rfl hd2 (by decide) hs4 rfl dg hn hr kk
def B_X4_mostFrom_25  : Nat → Int32 → Int32 → mb_AH → Option mb_RS
  | 0, _, _, _ => none
  | n + 1, v2, v3, h => (if 20 ≤ v3 then (some (.inl (some (.inl v2)), h)) else (mb_up (mb_sI h 4 0 0 3 0) fun h101 => (mb_cI (F_X4_findsBerth v3 (0 : Int32) h101) fun y103 h102 => (if y103 = 0 then (mb_lI (v3 + 1) fun y104 => ((B_X4_mostFrom_25  n) v2 y104 h102)) else (mb_lI (v2 + 1) fun y105 => (mb_lI (v3 + 1) fun y106 => ((B_X4_mostFrom_25  n) y105 y106 h102)))))))
set_option maxRecDepth 100000 in
set_option maxHeartbeats 4000000 in
theorem T_X4_mostFrom_25 {l : Launch} {G : mb_G} {res : mb_RS} (hst : l.stackTraces = false) (hg : mb_gok G)   : ∀ (n : Nat) (v2 : Int32) (v3 : Int32) (h : mb_AH), B_X4_mostFrom_25  n v2 v3 h = some res → mb_Ev l G RX4 cX4_mostFrom 4 (some .int) 21 25 [(0, mb_F 4 0 0), (2, .inl v2), (3, .inl v3)] [] h res := by
  intro n
  induction n with
  | zero => intro v2 v3 h hr; cases hr
  | succ n ih =>
    intro v2 v3 h hr
    rw [B_X4_mostFrom_25] at hr
    refine mb_iload_n (pn := 26) 2 dX4_mostFrom_25 rfl rfl rfl ?_
    refine mb_bipush (v := 20) (pn := 28) dX4_mostFrom_26 (by decide) rfl ?_
    refine mb_ic_ge (tgt := 54) (pn := 31) dX4_mostFrom_28 (by decide) rfl hr (fun hr => ?_) (fun hr => ?_)
    · refine mb_iload_n (pn := 55) 1 dX4_mostFrom_54 rfl rfl rfl ?_
      cases hr
      exact mb_iret dX4_mostFrom_55
    · refine mb_aload_n (pn := 32) 0 dX4_mostFrom_31 rfl rfl rfl ?_
      refine mb_iconst (v := 0) (pn := 33) dX4_mostFrom_32 (by decide) rfl ?_
      refine pf_X4_27 (pn := 36) dX4_mostFrom_33 rfl hr (fun h101 hr => ?_)
      refine mb_aload_n (pn := 37) 0 dX4_mostFrom_36 rfl rfl rfl ?_
      refine mb_iload_n (pn := 38) 2 dX4_mostFrom_37 rfl rfl rfl ?_
      refine mb_iconst (v := 0) (pn := 39) dX4_mostFrom_38 (by decide) rfl ?_
      refine cl_X4_30 (pn := 42) hst hg (Nat.le_of_ble_eq_true rfl) (Nat.le_of_ble_eq_true rfl) dX4_mostFrom_39 rfl hr (fun y103 h102 hr => ?_)
      refine mb_if_eq (tgt := 48) (pn := 45) dX4_mostFrom_42 (by decide) rfl hr (fun hr => ?_) (fun hr => ?_)
      · refine mb_nmx hr (fun y104 qy104 hr => ?_)
        refine mb_iinc (v := y104) (pn := 51) (lv2 := [(3, .inl y104), (0, mb_F 4 0 0), (2, .inl v2)]) 2 dX4_mostFrom_48 rfl (by rw [qy104]; rfl) (by decide) rfl rfl ?_
        refine mb_goto (tgt := 25) dX4_mostFrom_51 (by decide) ?_
        exact mb_lvs [1, 2, 0] rfl (ih _ _ _ hr)
      · refine mb_nmx hr (fun y105 qy105 hr => ?_)
        refine mb_iinc (v := y105) (pn := 48) (lv2 := [(2, .inl y105), (0, mb_F 4 0 0), (3, .inl v3)]) 1 dX4_mostFrom_45 rfl (by rw [qy105]; rfl) (by decide) rfl rfl ?_
        refine mb_nmx hr (fun y106 qy106 hr => ?_)
        refine mb_iinc (v := y106) (pn := 51) (lv2 := [(3, .inl y106), (2, .inl y105), (0, mb_F 4 0 0)]) 2 dX4_mostFrom_48 rfl (by rw [qy106]; rfl) (by decide) rfl rfl ?_
        refine mb_goto (tgt := 25) dX4_mostFrom_51 (by decide) ?_
        exact mb_lvs [2, 1, 0] rfl (ih _ _ _ hr)
def B_X4_mostFrom_2  : Nat → Int32 → Int32 → mb_AH → Option mb_RS
  | 0, _, _, _ => none
  | n + 1, v1, v2, h => (if 16 ≤ v2 then (B_X4_mostFrom_25  mb_fu 0 v1 h) else (mb_gB v2 16 (mb_up (mb_sI h 15 0 0 v2.toNatClampNeg (-1)) fun h107 => (mb_lI (v2 + 1) fun y108 => ((B_X4_mostFrom_2  n) v1 y108 h107)))))
set_option maxRecDepth 100000 in
set_option maxHeartbeats 4000000 in
theorem T_X4_mostFrom_2 {l : Launch} {G : mb_G} {res : mb_RS} (hst : l.stackTraces = false) (hg : mb_gok G)   : ∀ (n : Nat) (v1 : Int32) (v2 : Int32) (h : mb_AH), B_X4_mostFrom_2  n v1 v2 h = some res → mb_Ev l G RX4 cX4_mostFrom 4 (some .int) 21 2 [(0, mb_F 4 0 0), (1, .inl v1), (2, .inl v2)] [] h res := by
  intro n
  induction n with
  | zero => intro v1 v2 h hr; cases hr
  | succ n ih =>
    intro v1 v2 h hr
    rw [B_X4_mostFrom_2] at hr
    refine mb_iload_n (pn := 3) 2 dX4_mostFrom_2 rfl rfl rfl ?_
    refine mb_bipush (v := 16) (pn := 5) dX4_mostFrom_3 (by decide) rfl ?_
    refine mb_ic_ge (tgt := 21) (pn := 8) dX4_mostFrom_5 (by decide) rfl hr (fun hr => ?_) (fun hr => ?_)
    · refine mb_iconst (v := 0) (pn := 22) dX4_mostFrom_21 (by decide) rfl ?_
      refine mb_istore_n (pn := 23) (lv2 := [(2, .inl 0), (0, mb_F 4 0 0), (1, .inl v1)]) dX4_mostFrom_22 rfl (by decide) rfl rfl ?_
      refine mb_iload_n (pn := 24) 2 dX4_mostFrom_23 rfl rfl rfl ?_
      refine mb_istore_n (pn := 25) (lv2 := [(3, .inl v1), (2, .inl 0), (0, mb_F 4 0 0), (1, .inl v1)]) dX4_mostFrom_24 rfl (by decide) rfl rfl ?_
      exact mb_lvs [2, 1, 0] rfl (T_X4_mostFrom_25 hst hg  mb_fu _ _ _ hr)
    · refine mb_aload_n (pn := 9) 0 dX4_mostFrom_8 rfl rfl rfl ?_
      refine gf_X4_15 (pn := 12) dX4_mostFrom_9 rfl ?_
      refine mb_iload_n (pn := 13) 2 dX4_mostFrom_12 rfl rfl rfl ?_
      refine mb_iconst (v := (-1)) (pn := 14) dX4_mostFrom_13 (by decide) rfl ?_
      refine mb_iast (pn := 15) (n := 16) rfl rfl dX4_mostFrom_14 rfl hr (fun hr => ?_)
      refine mb_nmh hr (fun h107 hr => ?_)
      refine mb_nmx hr (fun y108 qy108 hr => ?_)
      refine mb_iinc (v := y108) (pn := 18) (lv2 := [(2, .inl y108), (0, mb_F 4 0 0), (1, .inl v1)]) 2 dX4_mostFrom_15 rfl (by rw [qy108]; rfl) (by decide) rfl rfl ?_
      refine mb_goto (tgt := 2) dX4_mostFrom_18 (by decide) ?_
      exact mb_lvs [1, 2, 0] rfl (ih _ _ _ hr)
def F_X4_mostFrom (x1 : Int32) (h : mb_AH) : Option mb_RS := (B_X4_mostFrom_2  mb_fu x1 0 h)
set_option maxRecDepth 100000 in
set_option maxHeartbeats 4000000 in
theorem C_X4_mostFrom {l : Launch} {G : mb_G} (hst : l.stackTraces = false) (hg : mb_gok G) {x1 : Int32} {h : mb_AH} {res : mb_RS} (hr : F_X4_mostFrom x1 h = some res) : mb_Mt l G yX4_mostFrom cX4_mostFrom 4 (some .int) 21 [mb_F 4 0 0, .inl x1] h res := by
  refine mb_entry (own := RX4) (lv := [(0, mb_F 4 0 0), (1, .inl x1)]) (by decide +kernel) rfl (Nat.le_of_ble_eq_true rfl) rfl rfl (fun _ => ?_) hst hg
  unfold F_X4_mostFrom at hr
  refine mb_iconst (v := 0) (pn := 1) dX4_mostFrom_0 (by decide) rfl ?_
  refine mb_istore_n (pn := 2) (lv2 := [(2, .inl 0), (0, mb_F 4 0 0), (1, .inl x1)]) dX4_mostFrom_1 rfl (by decide) rfl rfl ?_
  exact mb_lvs [1, 2, 0] rfl (T_X4_mostFrom_2 hst hg  mb_fu _ _ _ hr)
set_option maxRecDepth 100000 in
set_option maxHeartbeats 4000000 in
theorem cl_X4_23 {l : Launch} {G : mb_G} {cc : ByteArray} {nL : Nat} {ret : Option FieldType} {d pc pn : Nat} {lv : List (Nat × mb_AV)} {st : List mb_AV} {h : mb_AH} {res : mb_RS} (hst : l.stackTraces = false) (hg : mb_gok G) {x1 : Int32} {K : Int32 → mb_AH → Option mb_RS} (hd2 : 21 + 1 ≤ d) (hs4 : st.length ≤ 4) (dg : decode cc pc = .ok (.invokevirtual 23, 3)) (hn : pc + 3 = pn) (hr : mb_cI (F_X4_mostFrom x1 h) K = some res) (kk : ∀ (x : Int32) (h2 : mb_AH), K x h2 = some res → mb_Ev l G RX4 cc nL ret d pn lv (.inl x :: st) h2 res) : mb_Ev l G RX4 cc nL ret d pc lv (.inl x1 :: mb_F 4 0 0 :: st) h res := mb_kVI (as := [.inl x1]) (n := 1) (d2 := 21) (ci := 4) (fun _ hf => C_X4_mostFrom hst hg hf) (mb_gV wl_X4_23 mi_X4_mostFrom ms_X4_mostFrom mn_X4 mc_X4_mostFrom) (by decide +kernel) rfl rfl rfl hd2 (by decide) hs4 rfl dg hn hr kk
def B_X4_giveTo_8  : Nat → Int32 → Int32 → Int32 → mb_AH → Option mb_RS
  | 0, _, _, _, _ => none
  | n + 1, v1, v2, v3, h => (if 16 ≤ v3 then (some (.inl (some (.inl (-1))), h)) else (mb_lI ((1 : Int32) <<< (v3 &&& 31)) fun y103 => (mb_gB v1 20 (if (((h.1 14 0 0 v1.toNatClampNeg) &&& (h.1 4 0 0 2)) &&& y103) = 0 then (mb_lI (v3 + 1) fun y109 => ((B_X4_giveTo_8  n) v1 v2 y109 h)) else (mb_up (mb_sI h 4 0 0 2 ((h.1 4 0 0 2) &&& (y103 ^^^ (-1)))) fun h104 => (mb_cI (F_X4_mostFrom (v1 + 1) h104) fun y106 h105 => (if (y106 + 1) = v2 then (some (.inl (some (.inl v3)), h105)) else (mb_up (mb_sI h105 4 0 0 2 ((h105.1 4 0 0 2) ||| y103)) fun h107 => (mb_lI (v3 + 1) fun y108 => ((B_X4_giveTo_8  n) v1 v2 y108 h107))))))))))
set_option maxRecDepth 100000 in
set_option maxHeartbeats 4000000 in
theorem T_X4_giveTo_8 {l : Launch} {G : mb_G} {res : mb_RS} (hst : l.stackTraces = false) (hg : mb_gok G)   : ∀ (n : Nat) (v1 : Int32) (v2 : Int32) (v3 : Int32) (h : mb_AH), B_X4_giveTo_8  n v1 v2 v3 h = some res → mb_Ev l G RX4 cX4_giveTo 5 (some .int) 22 8 [(0, mb_F 4 0 0), (1, .inl v1), (2, .inl v2), (3, .inl v3)] [] h res := by
  intro n
  induction n with
  | zero => intro v1 v2 v3 h hr; cases hr
  | succ n ih =>
    intro v1 v2 v3 h hr
    rw [B_X4_giveTo_8] at hr
    refine mb_iload_n (pn := 9) 3 dX4_giveTo_8 rfl rfl rfl ?_
    refine mb_bipush (v := 16) (pn := 11) dX4_giveTo_9 (by decide) rfl ?_
    refine mb_ic_ge (tgt := 84) (pn := 14) dX4_giveTo_11 (by decide) rfl hr (fun hr => ?_) (fun hr => ?_)
    · refine mb_iconst (v := (-1)) (pn := 85) dX4_giveTo_84 (by decide) rfl ?_
      cases hr
      exact mb_iret dX4_giveTo_85
    · refine mb_iconst (v := 1) (pn := 15) dX4_giveTo_14 (by decide) rfl ?_
      refine mb_iload_n (pn := 16) 3 dX4_giveTo_15 rfl rfl rfl ?_
      refine mb_ishl (pn := 17) dX4_giveTo_16 rfl ?_
      refine mb_nmI hr (fun y103 hr => ?_)
      refine mb_istore (pn := 19) (lv2 := [(4, .inl y103), (0, mb_F 4 0 0), (1, .inl v1), (2, .inl v2), (3, .inl v3)]) dX4_giveTo_17 (by decide) rfl rfl ?_
      refine mb_aload_n (pn := 20) 1 dX4_giveTo_19 rfl rfl rfl ?_
      refine gf_X4_9 (pn := 23) dX4_giveTo_20 rfl ?_
      refine mb_iload_n (pn := 24) 2 dX4_giveTo_23 rfl rfl rfl ?_
      refine mb_iald (pn := 25) (n := 20) rfl dX4_giveTo_24 rfl hr (fun hr => ?_)
      refine mb_aload_n (pn := 26) 1 dX4_giveTo_25 rfl rfl rfl ?_
      refine gf_X4_19 (pn := 29) dX4_giveTo_26 rfl ?_
      refine mb_iand (pn := 30) dX4_giveTo_29 rfl ?_
      refine mb_iload (pn := 32) 0 dX4_giveTo_30 rfl rfl ?_
      refine mb_iand (pn := 33) dX4_giveTo_32 rfl ?_
      refine mb_if_ne (tgt := 39) (pn := 36) dX4_giveTo_33 (by decide) rfl hr (fun hr => ?_) (fun hr => ?_)
      · refine mb_aload_n (pn := 40) 1 dX4_giveTo_39 rfl rfl rfl ?_
        refine mb_dup (pn := 41) rfl dX4_giveTo_40 rfl ?_
        refine gf_X4_19 (pn := 44) dX4_giveTo_41 rfl ?_
        refine mb_iload (pn := 46) 0 dX4_giveTo_44 rfl rfl ?_
        refine mb_iconst (v := (-1)) (pn := 47) dX4_giveTo_46 (by decide) rfl ?_
        refine mb_ixor (pn := 48) dX4_giveTo_47 rfl ?_
        refine mb_iand (pn := 49) dX4_giveTo_48 rfl ?_
        refine pf_X4_19 (pn := 52) dX4_giveTo_49 rfl hr (fun h104 hr => ?_)
        refine mb_aload_n (pn := 53) 1 dX4_giveTo_52 rfl rfl rfl ?_
        refine mb_iload_n (pn := 54) 2 dX4_giveTo_53 rfl rfl rfl ?_
        refine mb_iconst (v := 1) (pn := 55) dX4_giveTo_54 (by decide) rfl ?_
        refine mb_iadd (pn := 56) dX4_giveTo_55 rfl ?_
        refine cl_X4_23 (pn := 59) hst hg (Nat.le_of_ble_eq_true rfl) (Nat.le_of_ble_eq_true rfl) dX4_giveTo_56 rfl hr (fun y106 h105 hr => ?_)
        refine mb_iconst (v := 1) (pn := 60) dX4_giveTo_59 (by decide) rfl ?_
        refine mb_iadd (pn := 61) dX4_giveTo_60 rfl ?_
        refine mb_iload_n (pn := 62) 3 dX4_giveTo_61 rfl rfl rfl ?_
        refine mb_ic_ne (tgt := 67) (pn := 65) dX4_giveTo_62 (by decide) rfl hr (fun hr => ?_) (fun hr => ?_)
        · refine mb_aload_n (pn := 68) 1 dX4_giveTo_67 rfl rfl rfl ?_
          refine mb_dup (pn := 69) rfl dX4_giveTo_68 rfl ?_
          refine gf_X4_19 (pn := 72) dX4_giveTo_69 rfl ?_
          refine mb_iload (pn := 74) 0 dX4_giveTo_72 rfl rfl ?_
          refine mb_ior (pn := 75) dX4_giveTo_74 rfl ?_
          refine pf_X4_19 (pn := 78) dX4_giveTo_75 rfl hr (fun h107 hr => ?_)
          refine mb_nmx hr (fun y108 qy108 hr => ?_)
          refine mb_iinc (v := y108) (pn := 81) (lv2 := [(3, .inl y108), (4, .inl y103), (0, mb_F 4 0 0), (1, .inl v1), (2, .inl v2)]) 4 dX4_giveTo_78 rfl (by rw [qy108]; rfl) (by decide) rfl rfl ?_
          refine mb_goto (tgt := 8) dX4_giveTo_81 (by decide) ?_
          exact mb_lvs [2, 3, 4, 0] rfl (ih _ _ _ _ hr)
        · refine mb_iload_n (pn := 66) 4 dX4_giveTo_65 rfl rfl rfl ?_
          cases hr
          exact mb_iret dX4_giveTo_66
      · refine mb_goto (tgt := 78) dX4_giveTo_36 (by decide) ?_
        refine mb_nmx hr (fun y109 qy109 hr => ?_)
        refine mb_iinc (v := y109) (pn := 81) (lv2 := [(3, .inl y109), (4, .inl y103), (0, mb_F 4 0 0), (1, .inl v1), (2, .inl v2)]) 4 dX4_giveTo_78 rfl (by rw [qy109]; rfl) (by decide) rfl rfl ?_
        refine mb_goto (tgt := 8) dX4_giveTo_81 (by decide) ?_
        exact mb_lvs [2, 3, 4, 0] rfl (ih _ _ _ _ hr)
def F_X4_giveTo (x1 : Int32) (h : mb_AH) : Option mb_RS := (mb_cI (F_X4_mostFrom x1 h) fun y102 h101 => (B_X4_giveTo_8  mb_fu x1 y102 0 h101))
set_option maxRecDepth 100000 in
set_option maxHeartbeats 4000000 in
theorem C_X4_giveTo {l : Launch} {G : mb_G} (hst : l.stackTraces = false) (hg : mb_gok G) {x1 : Int32} {h : mb_AH} {res : mb_RS} (hr : F_X4_giveTo x1 h = some res) : mb_Mt l G yX4_giveTo cX4_giveTo 5 (some .int) 22 [mb_F 4 0 0, .inl x1] h res := by
  refine mb_entry (own := RX4) (lv := [(0, mb_F 4 0 0), (1, .inl x1)]) (by decide +kernel) rfl (Nat.le_of_ble_eq_true rfl) rfl rfl (fun _ => ?_) hst hg
  unfold F_X4_giveTo at hr
  refine mb_aload_n (pn := 1) 0 dX4_giveTo_0 rfl rfl rfl ?_
  refine mb_iload_n (pn := 2) 1 dX4_giveTo_1 rfl rfl rfl ?_
  refine cl_X4_23 (pn := 5) hst hg (Nat.le_of_ble_eq_true rfl) (Nat.le_of_ble_eq_true rfl) dX4_giveTo_2 rfl hr (fun y102 h101 hr => ?_)
  refine mb_istore_n (pn := 6) (lv2 := [(2, .inl y102), (0, mb_F 4 0 0), (1, .inl x1)]) dX4_giveTo_5 rfl (by decide) rfl rfl ?_
  refine mb_iconst (v := 0) (pn := 7) dX4_giveTo_6 (by decide) rfl ?_
  refine mb_istore_n (pn := 8) (lv2 := [(3, .inl 0), (2, .inl y102), (0, mb_F 4 0 0), (1, .inl x1)]) dX4_giveTo_7 rfl (by decide) rfl rfl ?_
  exact mb_lvs [2, 3, 1, 0] rfl (T_X4_giveTo_8 hst hg  mb_fu _ _ _ _ hr)
def F_X0_become (a0 : Nat) (b0 : Nat) (x1 : Int32) (x2 : Int32) (x3 : Int32) (x4 : Int32) (h : mb_AH) : Option mb_RS := (mb_up (mb_sI h 2 a0 b0 0 x1) fun h101 => (mb_up (mb_sI h101 2 a0 b0 1 x2) fun h102 => (mb_gZ x3 (mb_up (mb_sI h102 2 a0 b0 2 x3) fun h103 => (mb_up (mb_sI h103 2 a0 b0 3 x4) fun h104 => (some (.inl none, h104)))))))
set_option maxRecDepth 100000 in
set_option maxHeartbeats 4000000 in
theorem C_X0_become {l : Launch} {G : mb_G} (hst : l.stackTraces = false) (hg : mb_gok G) {a0 : Nat} {b0 : Nat} {x1 : Int32} {x2 : Int32} {x3 : Int32} {x4 : Int32} {h : mb_AH} {res : mb_RS} (hr : F_X0_become a0 b0 x1 x2 x3 x4 h = some res) : mb_Mt l G yX0_become cX0_become 5 none 0 [mb_F 2 a0 b0, .inl x1, .inl x2, .inl x3, .inl x4] h res := by
  refine mb_entry (own := RX0) (lv := [(0, mb_F 2 a0 b0), (1, .inl x1), (2, .inl x2), (3, .inl x3), (4, .inl x4)]) (by decide +kernel) rfl (Nat.le_of_ble_eq_true rfl) rfl rfl (fun _ => ?_) hst hg
  unfold F_X0_become at hr
  refine mb_aload_n (pn := 1) 0 dX0_become_0 rfl rfl rfl ?_
  refine mb_iload_n (pn := 2) 1 dX0_become_1 rfl rfl rfl ?_
  refine pf_X0_7 (pn := 5) dX0_become_2 rfl hr (fun h101 hr => ?_)
  refine mb_aload_n (pn := 6) 0 dX0_become_5 rfl rfl rfl ?_
  refine mb_iload_n (pn := 7) 2 dX0_become_6 rfl rfl rfl ?_
  refine pf_X0_13 (pn := 10) dX0_become_7 rfl hr (fun h102 hr => ?_)
  refine mb_aload_n (pn := 11) 0 dX0_become_10 rfl rfl rfl ?_
  refine mb_iload_n (pn := 12) 3 dX0_become_11 rfl rfl rfl ?_
  refine pf_X0_16 (pn := 15) dX0_become_12 rfl hr (fun h103 hr => ?_)
  refine mb_aload_n (pn := 16) 0 dX0_become_15 rfl rfl rfl ?_
  refine mb_iload (pn := 18) 4 dX0_become_16 rfl rfl ?_
  refine pf_X0_20 (pn := 21) dX0_become_18 rfl hr (fun h104 hr => ?_)
  cases hr
  exact mb_vret dX0_become_21
set_option maxRecDepth 100000 in
set_option maxHeartbeats 4000000 in
theorem cl_X0_23 {l : Launch} {G : mb_G} {cc : ByteArray} {nL : Nat} {ret : Option FieldType} {d pc pn : Nat} {lv : List (Nat × mb_AV)} {st : List mb_AV} {h : mb_AH} {res : mb_RS} (hst : l.stackTraces = false) (hg : mb_gok G) {a0 : Nat} {b0 : Nat} {x1 : Int32} {x2 : Int32} {x3 : Int32} {x4 : Int32} {K : mb_AH → Option mb_RS} (hd2 : 0 + 1 ≤ d) (hs4 : st.length ≤ 4) (dg : decode cc pc = .ok (.invokevirtual 23, 3)) (hn : pc + 3 = pn) (hr : mb_cV (F_X0_become a0 b0 x1 x2 x3 x4 h) K = some res) (kk : ∀ (h2 : mb_AH), K h2 = some res → mb_Ev l G RX0 cc nL ret d pn lv st h2 res) : mb_Ev l G RX0 cc nL ret d pc lv (.inl x4 :: .inl x3 :: .inl x2 :: .inl x1 :: mb_F 2 a0 b0 :: st) h res := mb_kVV (as := [.inl x1, .inl x2, .inl x3, .inl x4]) (n := 4) (d2 := 0) (ci := 0) (fun _ hf => C_X0_become hst hg hf) (mb_gV wl_X0_23 mi_X0_become ms_X0_become mn_X0 mc_X0_become) (by decide +kernel) rfl rfl rfl hd2 (by decide) hs4 rfl dg hn hr kk
def F_X0_copyFrom (a0 : Nat) (b0 : Nat) (a1 : Nat) (b1 : Nat) (h : mb_AH) : Option mb_RS := (mb_cV (F_X0_become a0 b0 (h.1 2 a1 b1 0) (h.1 2 a1 b1 1) (h.1 2 a1 b1 2) (h.1 2 a1 b1 3) h) fun h101 => (some (.inl none, h101)))
set_option maxRecDepth 100000 in
set_option maxHeartbeats 4000000 in
theorem C_X0_copyFrom {l : Launch} {G : mb_G} (hst : l.stackTraces = false) (hg : mb_gok G) {a0 : Nat} {b0 : Nat} {a1 : Nat} {b1 : Nat} {h : mb_AH} {res : mb_RS} (hr : F_X0_copyFrom a0 b0 a1 b1 h = some res) : mb_Mt l G yX0_copyFrom cX0_copyFrom 2 none 1 [mb_F 2 a0 b0, mb_F 2 a1 b1] h res := by
  refine mb_entry (own := RX0) (lv := [(0, mb_F 2 a0 b0), (1, mb_F 2 a1 b1)]) (by decide +kernel) rfl (Nat.le_of_ble_eq_true rfl) rfl rfl (fun _ => ?_) hst hg
  unfold F_X0_copyFrom at hr
  refine mb_aload_n (pn := 1) 0 dX0_copyFrom_0 rfl rfl rfl ?_
  refine mb_aload_n (pn := 2) 1 dX0_copyFrom_1 rfl rfl rfl ?_
  refine gf_X0_7 (pn := 5) dX0_copyFrom_2 rfl ?_
  refine mb_aload_n (pn := 6) 1 dX0_copyFrom_5 rfl rfl rfl ?_
  refine gf_X0_13 (pn := 9) dX0_copyFrom_6 rfl ?_
  refine mb_aload_n (pn := 10) 1 dX0_copyFrom_9 rfl rfl rfl ?_
  refine gf_X0_16 (pn := 13) dX0_copyFrom_10 rfl ?_
  refine mb_aload_n (pn := 14) 1 dX0_copyFrom_13 rfl rfl rfl ?_
  refine gf_X0_20 (pn := 17) dX0_copyFrom_14 rfl ?_
  refine cl_X0_23 (pn := 20) hst hg (Nat.le_of_ble_eq_true rfl) (Nat.le_of_ble_eq_true rfl) dX0_copyFrom_17 rfl hr (fun h101 hr => ?_)
  cases hr
  exact mb_vret dX0_copyFrom_20
def F_X0_isTighterThan (a0 : Nat) (b0 : Nat) (a1 : Nat) (b1 : Nat) (h : mb_AH) : Option mb_RS := (if (h.1 2 a0 b0 1) < (h.1 2 a1 b1 1) then (some (.inl (some (.inl 1)), h)) else (if (h.1 2 a0 b0 1) = (h.1 2 a1 b1 1) then (if (h.1 2 a1 b1 0) ≤ (h.1 2 a0 b0 0) then (some (.inl (some (.inl 0)), h)) else (some (.inl (some (.inl 1)), h))) else (some (.inl (some (.inl 0)), h))))
set_option maxRecDepth 100000 in
set_option maxHeartbeats 4000000 in
theorem C_X0_isTighterThan {l : Launch} {G : mb_G} (hst : l.stackTraces = false) (hg : mb_gok G) {a0 : Nat} {b0 : Nat} {a1 : Nat} {b1 : Nat} {h : mb_AH} {res : mb_RS} (hr : F_X0_isTighterThan a0 b0 a1 b1 h = some res) : mb_Mt l G yX0_isTighterThan cX0_isTighterThan 2 (some .boolean) 0 [mb_F 2 a0 b0, mb_F 2 a1 b1] h res := by
  refine mb_entry (own := RX0) (lv := [(0, mb_F 2 a0 b0), (1, mb_F 2 a1 b1)]) (by decide +kernel) rfl (Nat.le_of_ble_eq_true rfl) rfl rfl (fun _ => ?_) hst hg
  unfold F_X0_isTighterThan at hr
  refine mb_aload_n (pn := 1) 0 dX0_isTighterThan_0 rfl rfl rfl ?_
  refine gf_X0_13 (pn := 4) dX0_isTighterThan_1 rfl ?_
  refine mb_aload_n (pn := 5) 1 dX0_isTighterThan_4 rfl rfl rfl ?_
  refine gf_X0_13 (pn := 8) dX0_isTighterThan_5 rfl ?_
  refine mb_ic_lt (tgt := 33) (pn := 11) dX0_isTighterThan_8 (by decide) rfl hr (fun hr => ?_) (fun hr => ?_)
  · refine mb_iconst (v := 1) (pn := 34) dX0_isTighterThan_33 (by decide) rfl ?_
    refine mb_goto (tgt := 38) dX0_isTighterThan_34 (by decide) ?_
    cases hr
    exact mb_zret1 dX0_isTighterThan_38
  · refine mb_aload_n (pn := 12) 0 dX0_isTighterThan_11 rfl rfl rfl ?_
    refine gf_X0_13 (pn := 15) dX0_isTighterThan_12 rfl ?_
    refine mb_aload_n (pn := 16) 1 dX0_isTighterThan_15 rfl rfl rfl ?_
    refine gf_X0_13 (pn := 19) dX0_isTighterThan_16 rfl ?_
    refine mb_ic_ne (tgt := 37) (pn := 22) dX0_isTighterThan_19 (by decide) rfl hr (fun hr => ?_) (fun hr => ?_)
    · refine mb_iconst (v := 0) (pn := 38) dX0_isTighterThan_37 (by decide) rfl ?_
      cases hr
      exact mb_zret0 dX0_isTighterThan_38
    · refine mb_aload_n (pn := 23) 0 dX0_isTighterThan_22 rfl rfl rfl ?_
      refine gf_X0_7 (pn := 26) dX0_isTighterThan_23 rfl ?_
      refine mb_aload_n (pn := 27) 1 dX0_isTighterThan_26 rfl rfl rfl ?_
      refine gf_X0_7 (pn := 30) dX0_isTighterThan_27 rfl ?_
      refine mb_ic_ge (tgt := 37) (pn := 33) dX0_isTighterThan_30 (by decide) rfl hr (fun hr => ?_) (fun hr => ?_)
      · refine mb_iconst (v := 0) (pn := 38) dX0_isTighterThan_37 (by decide) rfl ?_
        cases hr
        exact mb_zret0 dX0_isTighterThan_38
      · refine mb_iconst (v := 1) (pn := 34) dX0_isTighterThan_33 (by decide) rfl ?_
        refine mb_goto (tgt := 38) dX0_isTighterThan_34 (by decide) ?_
        cases hr
        exact mb_zret1 dX0_isTighterThan_38
def F_X1_move (a0 : Nat) (b0 : Nat) (x1 : Int32) (x2 : Int32) (h : mb_AH) : Option mb_RS := (mb_up (mb_sI h 3 a0 b0 3 x1) fun h101 => (mb_up (mb_sI h101 3 a0 b0 4 x2) fun h102 => (some (.inl none, h102))))
set_option maxRecDepth 100000 in
set_option maxHeartbeats 4000000 in
theorem C_X1_move {l : Launch} {G : mb_G} (hst : l.stackTraces = false) (hg : mb_gok G) {a0 : Nat} {b0 : Nat} {x1 : Int32} {x2 : Int32} {h : mb_AH} {res : mb_RS} (hr : F_X1_move a0 b0 x1 x2 h = some res) : mb_Mt l G yX1_move cX1_move 3 none 0 [mb_F 3 a0 b0, .inl x1, .inl x2] h res := by
  refine mb_entry (own := RX1) (lv := [(0, mb_F 3 a0 b0), (1, .inl x1), (2, .inl x2)]) (by decide +kernel) rfl (Nat.le_of_ble_eq_true rfl) rfl rfl (fun _ => ?_) hst hg
  unfold F_X1_move at hr
  refine mb_aload_n (pn := 1) 0 dX1_move_0 rfl rfl rfl ?_
  refine mb_iload_n (pn := 2) 1 dX1_move_1 rfl rfl rfl ?_
  refine pf_X1_28 (pn := 5) dX1_move_2 rfl hr (fun h101 hr => ?_)
  refine mb_aload_n (pn := 6) 0 dX1_move_5 rfl rfl rfl ?_
  refine mb_iload_n (pn := 7) 2 dX1_move_6 rfl rfl rfl ?_
  refine pf_X1_31 (pn := 10) dX1_move_7 rfl hr (fun h102 hr => ?_)
  cases hr
  exact mb_vret dX1_move_10
set_option maxRecDepth 100000 in
set_option maxHeartbeats 4000000 in
theorem cl_X1_43 {l : Launch} {G : mb_G} {cc : ByteArray} {nL : Nat} {ret : Option FieldType} {d pc pn : Nat} {lv : List (Nat × mb_AV)} {st : List mb_AV} {h : mb_AH} {res : mb_RS} (hst : l.stackTraces = false) (hg : mb_gok G) {a0 : Nat} {b0 : Nat} {x1 : Int32} {x2 : Int32} {K : mb_AH → Option mb_RS} (hd2 : 0 + 1 ≤ d) (hs4 : st.length ≤ 4) (dg : decode cc pc = .ok (.invokevirtual 43, 3)) (hn : pc + 3 = pn) (hr : mb_cV (F_X1_move a0 b0 x1 x2 h) K = some res) (kk : ∀ (h2 : mb_AH), K h2 = some res → mb_Ev l G RX1 cc nL ret d pn lv st h2 res) : mb_Ev l G RX1 cc nL ret d pc lv (.inl x2 :: .inl x1 :: mb_F 3 a0 b0 :: st) h res := mb_kVV (as := [.inl x1, .inl x2]) (n := 2) (d2 := 0) (ci := 1) (fun _ hf => C_X1_move hst hg hf) (mb_gV wl_X1_43 mi_X1_move ms_X1_move mn_X1 mc_X1_move) (by decide +kernel) rfl rfl rfl hd2 (by decide) hs4 rfl dg hn hr kk
def F_X1_moveForGood (a0 : Nat) (b0 : Nat) (x1 : Int32) (x2 : Int32) (h : mb_AH) : Option mb_RS := (mb_cV (F_X1_move a0 b0 x1 x2 h) fun h101 => (mb_up (mb_sI h101 3 a0 b0 5 (-1)) fun h102 => (some (.inl none, h102))))
set_option maxRecDepth 100000 in
set_option maxHeartbeats 4000000 in
theorem C_X1_moveForGood {l : Launch} {G : mb_G} (hst : l.stackTraces = false) (hg : mb_gok G) {a0 : Nat} {b0 : Nat} {x1 : Int32} {x2 : Int32} {h : mb_AH} {res : mb_RS} (hr : F_X1_moveForGood a0 b0 x1 x2 h = some res) : mb_Mt l G yX1_moveForGood cX1_moveForGood 3 none 1 [mb_F 3 a0 b0, .inl x1, .inl x2] h res := by
  refine mb_entry (own := RX1) (lv := [(0, mb_F 3 a0 b0), (1, .inl x1), (2, .inl x2)]) (by decide +kernel) rfl (Nat.le_of_ble_eq_true rfl) rfl rfl (fun _ => ?_) hst hg
  unfold F_X1_moveForGood at hr
  refine mb_aload_n (pn := 1) 0 dX1_moveForGood_0 rfl rfl rfl ?_
  refine mb_iload_n (pn := 2) 1 dX1_moveForGood_1 rfl rfl rfl ?_
  refine mb_iload_n (pn := 3) 2 dX1_moveForGood_2 rfl rfl rfl ?_
  refine cl_X1_43 (pn := 6) hst hg (Nat.le_of_ble_eq_true rfl) (Nat.le_of_ble_eq_true rfl) dX1_moveForGood_3 rfl hr (fun h101 hr => ?_)
  refine mb_aload_n (pn := 7) 0 dX1_moveForGood_6 rfl rfl rfl ?_
  refine mb_iconst (v := (-1)) (pn := 8) dX1_moveForGood_7 (by decide) rfl ?_
  refine pf_X1_34 (pn := 11) dX1_moveForGood_8 rfl hr (fun h102 hr => ?_)
  cases hr
  exact mb_vret dX1_moveForGood_11
set_option maxRecDepth 100000 in
set_option maxHeartbeats 4000000 in
theorem cl_X1_24 {l : Launch} {G : mb_G} {cc : ByteArray} {nL : Nat} {ret : Option FieldType} {d pc pn : Nat} {lv : List (Nat × mb_AV)} {st : List mb_AV} {h : mb_AH} {res : mb_RS} (hst : l.stackTraces = false) (hg : mb_gok G) {a0 : Nat} {b0 : Nat} {x1 : Int32} {x2 : Int32} {K : mb_AH → Option mb_RS} (hd2 : 1 + 1 ≤ d) (hs4 : st.length ≤ 4) (dg : decode cc pc = .ok (.invokevirtual 24, 3)) (hn : pc + 3 = pn) (hr : mb_cV (F_X1_moveForGood a0 b0 x1 x2 h) K = some res) (kk : ∀ (h2 : mb_AH), K h2 = some res → mb_Ev l G RX1 cc nL ret d pn lv st h2 res) : mb_Ev l G RX1 cc nL ret d pc lv (.inl x2 :: .inl x1 :: mb_F 3 a0 b0 :: st) h res := mb_kVV (as := [.inl x1, .inl x2]) (n := 2) (d2 := 1) (ci := 1) (fun _ hf => C_X1_moveForGood hst hg hf) (mb_gV wl_X1_24 mi_X1_moveForGood ms_X1_moveForGood mn_X1 mc_X1_moveForGood) (by decide +kernel) rfl rfl rfl hd2 (by decide) hs4 rfl dg hn hr kk
def F_X1_become (a0 : Nat) (b0 : Nat) (x1 : Int32) (x2 : Int32) (x3 : Int32) (h : mb_AH) : Option mb_RS := (mb_up (mb_sI h 3 a0 b0 0 x1) fun h101 => (mb_up (mb_sI h101 3 a0 b0 1 x2) fun h102 => (mb_up (mb_sI h102 3 a0 b0 2 x3) fun h103 => (mb_up (mb_sI h103 3 a0 b0 6 0) fun h104 => (mb_cV (F_X1_moveForGood a0 b0 (0 : Int32) ((-1) : Int32) h104) fun h105 => (some (.inl none, h105)))))))
set_option maxRecDepth 100000 in
set_option maxHeartbeats 4000000 in
theorem C_X1_become {l : Launch} {G : mb_G} (hst : l.stackTraces = false) (hg : mb_gok G) {a0 : Nat} {b0 : Nat} {x1 : Int32} {x2 : Int32} {x3 : Int32} {h : mb_AH} {res : mb_RS} (hr : F_X1_become a0 b0 x1 x2 x3 h = some res) : mb_Mt l G yX1_become cX1_become 4 none 2 [mb_F 3 a0 b0, .inl x1, .inl x2, .inl x3] h res := by
  refine mb_entry (own := RX1) (lv := [(0, mb_F 3 a0 b0), (1, .inl x1), (2, .inl x2), (3, .inl x3)]) (by decide +kernel) rfl (Nat.le_of_ble_eq_true rfl) rfl rfl (fun _ => ?_) hst hg
  unfold F_X1_become at hr
  refine mb_aload_n (pn := 1) 0 dX1_become_0 rfl rfl rfl ?_
  refine mb_iload_n (pn := 2) 1 dX1_become_1 rfl rfl rfl ?_
  refine pf_X1_9 (pn := 5) dX1_become_2 rfl hr (fun h101 hr => ?_)
  refine mb_aload_n (pn := 6) 0 dX1_become_5 rfl rfl rfl ?_
  refine mb_iload_n (pn := 7) 2 dX1_become_6 rfl rfl rfl ?_
  refine pf_X1_15 (pn := 10) dX1_become_7 rfl hr (fun h102 hr => ?_)
  refine mb_aload_n (pn := 11) 0 dX1_become_10 rfl rfl rfl ?_
  refine mb_iload_n (pn := 12) 3 dX1_become_11 rfl rfl rfl ?_
  refine pf_X1_18 (pn := 15) dX1_become_12 rfl hr (fun h103 hr => ?_)
  refine mb_aload_n (pn := 16) 0 dX1_become_15 rfl rfl rfl ?_
  refine mb_iconst (v := 0) (pn := 17) dX1_become_16 (by decide) rfl ?_
  refine pf_X1_21 (pn := 20) dX1_become_17 rfl hr (fun h104 hr => ?_)
  refine mb_aload_n (pn := 21) 0 dX1_become_20 rfl rfl rfl ?_
  refine mb_iconst (v := 0) (pn := 22) dX1_become_21 (by decide) rfl ?_
  refine mb_iconst (v := (-1)) (pn := 23) dX1_become_22 (by decide) rfl ?_
  refine cl_X1_24 (pn := 26) hst hg (Nat.le_of_ble_eq_true rfl) (Nat.le_of_ble_eq_true rfl) dX1_become_23 rfl hr (fun h105 hr => ?_)
  cases hr
  exact mb_vret dX1_become_26
def F_X1_copyFrom (a0 : Nat) (b0 : Nat) (a1 : Nat) (b1 : Nat) (h : mb_AH) : Option mb_RS := (mb_up (mb_sI h 3 a0 b0 0 (h.1 3 a1 b1 0)) fun h101 => (mb_up (mb_sI h101 3 a0 b0 1 (h101.1 3 a1 b1 1)) fun h102 => (mb_up (mb_sI h102 3 a0 b0 2 (h102.1 3 a1 b1 2)) fun h103 => (mb_up (mb_sI h103 3 a0 b0 3 (h103.1 3 a1 b1 3)) fun h104 => (mb_up (mb_sI h104 3 a0 b0 4 (h104.1 3 a1 b1 4)) fun h105 => (mb_up (mb_sI h105 3 a0 b0 5 (h105.1 3 a1 b1 5)) fun h106 => (mb_up (mb_sI h106 3 a0 b0 6 (h106.1 3 a1 b1 6)) fun h107 => (mb_up (mb_sI h107 3 a0 b0 7 (h107.1 3 a1 b1 7)) fun h108 => (mb_up (mb_sI h108 3 a0 b0 8 (h108.1 3 a1 b1 8)) fun h109 => (some (.inl none, h109)))))))))))
set_option maxRecDepth 100000 in
set_option maxHeartbeats 4000000 in
theorem C_X1_copyFrom {l : Launch} {G : mb_G} (hst : l.stackTraces = false) (hg : mb_gok G) {a0 : Nat} {b0 : Nat} {a1 : Nat} {b1 : Nat} {h : mb_AH} {res : mb_RS} (hr : F_X1_copyFrom a0 b0 a1 b1 h = some res) : mb_Mt l G yX1_copyFrom cX1_copyFrom 2 none 0 [mb_F 3 a0 b0, mb_F 3 a1 b1] h res := by
  refine mb_entry (own := RX1) (lv := [(0, mb_F 3 a0 b0), (1, mb_F 3 a1 b1)]) (by decide +kernel) rfl (Nat.le_of_ble_eq_true rfl) rfl rfl (fun _ => ?_) hst hg
  unfold F_X1_copyFrom at hr
  refine mb_aload_n (pn := 1) 0 dX1_copyFrom_0 rfl rfl rfl ?_
  refine mb_aload_n (pn := 2) 1 dX1_copyFrom_1 rfl rfl rfl ?_
  refine gf_X1_9 (pn := 5) dX1_copyFrom_2 rfl ?_
  refine pf_X1_9 (pn := 8) dX1_copyFrom_5 rfl hr (fun h101 hr => ?_)
  refine mb_aload_n (pn := 9) 0 dX1_copyFrom_8 rfl rfl rfl ?_
  refine mb_aload_n (pn := 10) 1 dX1_copyFrom_9 rfl rfl rfl ?_
  refine gf_X1_15 (pn := 13) dX1_copyFrom_10 rfl ?_
  refine pf_X1_15 (pn := 16) dX1_copyFrom_13 rfl hr (fun h102 hr => ?_)
  refine mb_aload_n (pn := 17) 0 dX1_copyFrom_16 rfl rfl rfl ?_
  refine mb_aload_n (pn := 18) 1 dX1_copyFrom_17 rfl rfl rfl ?_
  refine gf_X1_18 (pn := 21) dX1_copyFrom_18 rfl ?_
  refine pf_X1_18 (pn := 24) dX1_copyFrom_21 rfl hr (fun h103 hr => ?_)
  refine mb_aload_n (pn := 25) 0 dX1_copyFrom_24 rfl rfl rfl ?_
  refine mb_aload_n (pn := 26) 1 dX1_copyFrom_25 rfl rfl rfl ?_
  refine gf_X1_28 (pn := 29) dX1_copyFrom_26 rfl ?_
  refine pf_X1_28 (pn := 32) dX1_copyFrom_29 rfl hr (fun h104 hr => ?_)
  refine mb_aload_n (pn := 33) 0 dX1_copyFrom_32 rfl rfl rfl ?_
  refine mb_aload_n (pn := 34) 1 dX1_copyFrom_33 rfl rfl rfl ?_
  refine gf_X1_31 (pn := 37) dX1_copyFrom_34 rfl ?_
  refine pf_X1_31 (pn := 40) dX1_copyFrom_37 rfl hr (fun h105 hr => ?_)
  refine mb_aload_n (pn := 41) 0 dX1_copyFrom_40 rfl rfl rfl ?_
  refine mb_aload_n (pn := 42) 1 dX1_copyFrom_41 rfl rfl rfl ?_
  refine gf_X1_34 (pn := 45) dX1_copyFrom_42 rfl ?_
  refine pf_X1_34 (pn := 48) dX1_copyFrom_45 rfl hr (fun h106 hr => ?_)
  refine mb_aload_n (pn := 49) 0 dX1_copyFrom_48 rfl rfl rfl ?_
  refine mb_aload_n (pn := 50) 1 dX1_copyFrom_49 rfl rfl rfl ?_
  refine gf_X1_21 (pn := 53) dX1_copyFrom_50 rfl ?_
  refine pf_X1_21 (pn := 56) dX1_copyFrom_53 rfl hr (fun h107 hr => ?_)
  refine mb_aload_n (pn := 57) 0 dX1_copyFrom_56 rfl rfl rfl ?_
  refine mb_aload_n (pn := 58) 1 dX1_copyFrom_57 rfl rfl rfl ?_
  refine gf_X1_37 (pn := 61) dX1_copyFrom_58 rfl ?_
  refine pf_X1_37 (pn := 64) dX1_copyFrom_61 rfl hr (fun h108 hr => ?_)
  refine mb_aload_n (pn := 65) 0 dX1_copyFrom_64 rfl rfl rfl ?_
  refine mb_aload_n (pn := 66) 1 dX1_copyFrom_65 rfl rfl rfl ?_
  refine gf_X1_40 (pn := 69) dX1_copyFrom_66 rfl ?_
  refine pf_X1_40 (pn := 72) dX1_copyFrom_69 rfl hr (fun h109 hr => ?_)
  cases hr
  exact mb_vret dX1_copyFrom_72
def F_X1_canOweMore (a0 : Nat) (b0 : Nat) (x1 : Int64) (h : mb_AH) : Option mb_RS := (if 0 < (lg_cmp (((h.1 3 a0 b0 6).toInt64) + x1) 2147483647) then (some (.inl (some (.inl 0)), h)) else (some (.inl (some (.inl 1)), h)))
set_option maxRecDepth 100000 in
set_option maxHeartbeats 4000000 in
theorem C_X1_canOweMore {l : Launch} {G : mb_G} (hst : l.stackTraces = false) (hg : mb_gok G) {a0 : Nat} {b0 : Nat} {x1 : Int64} {h : mb_AH} {res : mb_RS} (hr : F_X1_canOweMore a0 b0 x1 h = some res) : mb_Mt l G yX1_canOweMore cX1_canOweMore 3 (some .boolean) 0 [mb_F 3 a0 b0, .inr (.inl x1)] h res := by
  refine mb_entry (own := RX1) (lv := [(0, mb_F 3 a0 b0), (1, .inr (.inl x1))]) (by decide +kernel) rfl (Nat.le_of_ble_eq_true rfl) rfl rfl (fun _ => ?_) hst hg
  unfold F_X1_canOweMore at hr
  refine mb_aload_n (pn := 1) 0 dX1_canOweMore_0 rfl rfl rfl ?_
  refine gf_X1_21 (pn := 4) dX1_canOweMore_1 rfl ?_
  refine mb_i2l (pn := 5) dX1_canOweMore_4 rfl ?_
  refine mb_lload_n (pn := 6) 1 dX1_canOweMore_5 rfl rfl rfl ?_
  refine mb_ladd (pn := 7) dX1_canOweMore_6 rfl ?_
  refine mb_ldc2 (v := 2147483647) (pn := 10) wk_X1_46 dX1_canOweMore_7 rfl ?_
  refine mb_lcmp (pn := 11) dX1_canOweMore_10 rfl ?_
  refine mb_if_gt (tgt := 18) (pn := 14) dX1_canOweMore_11 (by decide) rfl hr (fun hr => ?_) (fun hr => ?_)
  · refine mb_iconst (v := 0) (pn := 19) dX1_canOweMore_18 (by decide) rfl ?_
    cases hr
    exact mb_zret0 dX1_canOweMore_19
  · refine mb_iconst (v := 1) (pn := 15) dX1_canOweMore_14 (by decide) rfl ?_
    refine mb_goto (tgt := 19) dX1_canOweMore_15 (by decide) ?_
    cases hr
    exact mb_zret1 dX1_canOweMore_19
def F_X3_append (x1 : Int32) (h : mb_AH) : Option mb_RS := (mb_gB (h.1 5 0 0 1) 70 (mb_up (mb_sI h 16 0 0 (h.1 5 0 0 1).toNatClampNeg (vp_nar .char x1)) fun h101 => (mb_up (mb_sI h101 5 0 0 1 ((h101.1 5 0 0 1) + 1)) fun h102 => (some (.inl none, h102)))))
set_option maxRecDepth 100000 in
set_option maxHeartbeats 4000000 in
theorem C_X3_append {l : Launch} {G : mb_G} (hst : l.stackTraces = false) (hg : mb_gok G) {x1 : Int32} {h : mb_AH} {res : mb_RS} (hr : F_X3_append x1 h = some res) : mb_Mt l G yX3_append cX3_append 2 none 0 [mb_F 5 0 0, .inl x1] h res := by
  refine mb_entry (own := RX3) (lv := [(0, mb_F 5 0 0), (1, .inl x1)]) (by decide +kernel) rfl (Nat.le_of_ble_eq_true rfl) rfl rfl (fun _ => ?_) hst hg
  unfold F_X3_append at hr
  refine mb_aload_n (pn := 1) 0 dX3_append_0 rfl rfl rfl ?_
  refine gf_X3_9 (pn := 4) dX3_append_1 rfl ?_
  refine mb_aload_n (pn := 5) 0 dX3_append_4 rfl rfl rfl ?_
  refine gf_X3_19 (pn := 8) dX3_append_5 rfl ?_
  refine mb_iload_n (pn := 9) 1 dX3_append_8 rfl rfl rfl ?_
  refine mb_cast (pn := 10) (n := 70) rfl rfl dX3_append_9 rfl hr (fun hr => ?_)
  refine mb_nmh hr (fun h101 hr => ?_)
  refine mb_aload_n (pn := 11) 0 dX3_append_10 rfl rfl rfl ?_
  refine mb_dup (pn := 12) rfl dX3_append_11 rfl ?_
  refine gf_X3_19 (pn := 15) dX3_append_12 rfl ?_
  refine mb_iconst (v := 1) (pn := 16) dX3_append_15 (by decide) rfl ?_
  refine mb_iadd (pn := 17) dX3_append_16 rfl ?_
  refine pf_X3_19 (pn := 20) dX3_append_17 rfl hr (fun h102 hr => ?_)
  cases hr
  exact mb_vret dX3_append_20
def F_X3_isAt (x1 : Int32) (x2 : Int32) (h : mb_AH) : Option mb_RS := (if (h.1 5 0 0 1) ≤ x1 then (some (.inl (some (.inl 0)), h)) else (mb_gB x1 70 (if (h.1 16 0 0 x1.toNatClampNeg) = x2 then (some (.inl (some (.inl 1)), h)) else (some (.inl (some (.inl 0)), h)))))
set_option maxRecDepth 100000 in
set_option maxHeartbeats 4000000 in
theorem C_X3_isAt {l : Launch} {G : mb_G} (hst : l.stackTraces = false) (hg : mb_gok G) {x1 : Int32} {x2 : Int32} {h : mb_AH} {res : mb_RS} (hr : F_X3_isAt x1 x2 h = some res) : mb_Mt l G yX3_isAt cX3_isAt 3 (some .boolean) 0 [mb_F 5 0 0, .inl x1, .inl x2] h res := by
  refine mb_entry (own := RX3) (lv := [(0, mb_F 5 0 0), (1, .inl x1), (2, .inl x2)]) (by decide +kernel) rfl (Nat.le_of_ble_eq_true rfl) rfl rfl (fun _ => ?_) hst hg
  unfold F_X3_isAt at hr
  refine mb_iload_n (pn := 1) 1 dX3_isAt_0 rfl rfl rfl ?_
  refine mb_aload_n (pn := 2) 0 dX3_isAt_1 rfl rfl rfl ?_
  refine gf_X3_19 (pn := 5) dX3_isAt_2 rfl ?_
  refine mb_ic_ge (tgt := 22) (pn := 8) dX3_isAt_5 (by decide) rfl hr (fun hr => ?_) (fun hr => ?_)
  · refine mb_iconst (v := 0) (pn := 23) dX3_isAt_22 (by decide) rfl ?_
    cases hr
    exact mb_zret0 dX3_isAt_23
  · refine mb_aload_n (pn := 9) 0 dX3_isAt_8 rfl rfl rfl ?_
    refine gf_X3_9 (pn := 12) dX3_isAt_9 rfl ?_
    refine mb_iload_n (pn := 13) 1 dX3_isAt_12 rfl rfl rfl ?_
    refine mb_cald (pn := 14) (n := 70) rfl dX3_isAt_13 rfl hr (fun hr => ?_)
    refine mb_iload_n (pn := 15) 2 dX3_isAt_14 rfl rfl rfl ?_
    refine mb_ic_ne (tgt := 22) (pn := 18) dX3_isAt_15 (by decide) rfl hr (fun hr => ?_) (fun hr => ?_)
    · refine mb_iconst (v := 0) (pn := 23) dX3_isAt_22 (by decide) rfl ?_
      cases hr
      exact mb_zret0 dX3_isAt_23
    · refine mb_iconst (v := 1) (pn := 19) dX3_isAt_18 (by decide) rfl ?_
      refine mb_goto (tgt := 23) dX3_isAt_19 (by decide) ?_
      cases hr
      exact mb_zret1 dX3_isAt_23
set_option maxRecDepth 100000 in
set_option maxHeartbeats 4000000 in
theorem cl_X3_26 {l : Launch} {G : mb_G} {cc : ByteArray} {nL : Nat} {ret : Option FieldType} {d pc pn : Nat} {lv : List (Nat × mb_AV)} {st : List mb_AV} {h : mb_AH} {res : mb_RS} (hst : l.stackTraces = false) (hg : mb_gok G) {x1 : Int32} {x2 : Int32} {K : Int32 → mb_AH → Option mb_RS} (hd2 : 0 + 1 ≤ d) (hs4 : st.length ≤ 4) (dg : decode cc pc = .ok (.invokevirtual 26, 3)) (hn : pc + 3 = pn) (hr : mb_cI (F_X3_isAt x1 x2 h) K = some res) (kk : ∀ (x : Int32) (h2 : mb_AH), K x h2 = some res → mb_Ev l G RX3 cc nL ret d pn lv (.inl x :: st) h2 res) : mb_Ev l G RX3 cc nL ret d pc lv (.inl x2 :: .inl x1 :: mb_F 5 0 0 :: st) h res := mb_kVI (as := [.inl x1, .inl x2]) (n := 2) (d2 := 0) (ci := 3) (fun _ hf => C_X3_isAt hst hg hf) (mb_gV wl_X3_26 mi_X3_isAt ms_X3_isAt mn_X3 mc_X3_isAt) (by decide +kernel) rfl rfl rfl hd2 (by decide) hs4 rfl dg hn hr kk
def B_X3_endOfDigits_2  : Nat → Int32 → Int32 → mb_AH → Option mb_RS
  | 0, _, _, _ => none
  | n + 1, v1, v2, h => (if (v1 + 3) ≤ v2 then (some (.inl (some (.inl v2)), h)) else (if (h.1 5 0 0 1) ≤ v2 then (some (.inl (some (.inl v2)), h)) else (mb_gB v2 70 (if (h.1 16 0 0 v2.toNatClampNeg) < 48 then (some (.inl (some (.inl v2)), h)) else (mb_gB v2 70 (if 57 < (h.1 16 0 0 v2.toNatClampNeg) then (some (.inl (some (.inl v2)), h)) else (mb_lI (v2 + 1) fun y101 => ((B_X3_endOfDigits_2  n) v1 y101 h))))))))
set_option maxRecDepth 100000 in
set_option maxHeartbeats 4000000 in
theorem T_X3_endOfDigits_2 {l : Launch} {G : mb_G} {res : mb_RS} (hst : l.stackTraces = false) (hg : mb_gok G)   : ∀ (n : Nat) (v1 : Int32) (v2 : Int32) (h : mb_AH), B_X3_endOfDigits_2  n v1 v2 h = some res → mb_Ev l G RX3 cX3_endOfDigits 3 (some .int) 0 2 [(0, mb_F 5 0 0), (1, .inl v1), (2, .inl v2)] [] h res := by
  intro n
  induction n with
  | zero => intro v1 v2 h hr; cases hr
  | succ n ih =>
    intro v1 v2 h hr
    rw [B_X3_endOfDigits_2] at hr
    refine mb_iload_n (pn := 3) 2 dX3_endOfDigits_2 rfl rfl rfl ?_
    refine mb_iload_n (pn := 4) 1 dX3_endOfDigits_3 rfl rfl rfl ?_
    refine mb_iconst (v := 3) (pn := 5) dX3_endOfDigits_4 (by decide) rfl ?_
    refine mb_iadd (pn := 6) dX3_endOfDigits_5 rfl ?_
    refine mb_ic_ge (tgt := 45) (pn := 9) dX3_endOfDigits_6 (by decide) rfl hr (fun hr => ?_) (fun hr => ?_)
    · refine mb_iload_n (pn := 46) 2 dX3_endOfDigits_45 rfl rfl rfl ?_
      cases hr
      exact mb_iret dX3_endOfDigits_46
    · refine mb_iload_n (pn := 10) 2 dX3_endOfDigits_9 rfl rfl rfl ?_
      refine mb_aload_n (pn := 11) 0 dX3_endOfDigits_10 rfl rfl rfl ?_
      refine gf_X3_19 (pn := 14) dX3_endOfDigits_11 rfl ?_
      refine mb_ic_ge (tgt := 45) (pn := 17) dX3_endOfDigits_14 (by decide) rfl hr (fun hr => ?_) (fun hr => ?_)
      · refine mb_iload_n (pn := 46) 2 dX3_endOfDigits_45 rfl rfl rfl ?_
        cases hr
        exact mb_iret dX3_endOfDigits_46
      · refine mb_aload_n (pn := 18) 0 dX3_endOfDigits_17 rfl rfl rfl ?_
        refine gf_X3_9 (pn := 21) dX3_endOfDigits_18 rfl ?_
        refine mb_iload_n (pn := 22) 2 dX3_endOfDigits_21 rfl rfl rfl ?_
        refine mb_cald (pn := 23) (n := 70) rfl dX3_endOfDigits_22 rfl hr (fun hr => ?_)
        refine mb_bipush (v := 48) (pn := 25) dX3_endOfDigits_23 (by decide) rfl ?_
        refine mb_ic_lt (tgt := 45) (pn := 28) dX3_endOfDigits_25 (by decide) rfl hr (fun hr => ?_) (fun hr => ?_)
        · refine mb_iload_n (pn := 46) 2 dX3_endOfDigits_45 rfl rfl rfl ?_
          cases hr
          exact mb_iret dX3_endOfDigits_46
        · refine mb_aload_n (pn := 29) 0 dX3_endOfDigits_28 rfl rfl rfl ?_
          refine gf_X3_9 (pn := 32) dX3_endOfDigits_29 rfl ?_
          refine mb_iload_n (pn := 33) 2 dX3_endOfDigits_32 rfl rfl rfl ?_
          refine mb_cald (pn := 34) (n := 70) rfl dX3_endOfDigits_33 rfl hr (fun hr => ?_)
          refine mb_bipush (v := 57) (pn := 36) dX3_endOfDigits_34 (by decide) rfl ?_
          refine mb_ic_gt (tgt := 45) (pn := 39) dX3_endOfDigits_36 (by decide) rfl hr (fun hr => ?_) (fun hr => ?_)
          · refine mb_iload_n (pn := 46) 2 dX3_endOfDigits_45 rfl rfl rfl ?_
            cases hr
            exact mb_iret dX3_endOfDigits_46
          · refine mb_nmx hr (fun y101 qy101 hr => ?_)
            refine mb_iinc (v := y101) (pn := 42) (lv2 := [(2, .inl y101), (0, mb_F 5 0 0), (1, .inl v1)]) 2 dX3_endOfDigits_39 rfl (by rw [qy101]; rfl) (by decide) rfl rfl ?_
            refine mb_goto (tgt := 2) dX3_endOfDigits_42 (by decide) ?_
            exact mb_lvs [1, 2, 0] rfl (ih _ _ _ hr)
def F_X3_endOfDigits (x1 : Int32) (h : mb_AH) : Option mb_RS := (B_X3_endOfDigits_2  mb_fu x1 x1 h)
set_option maxRecDepth 100000 in
set_option maxHeartbeats 4000000 in
theorem C_X3_endOfDigits {l : Launch} {G : mb_G} (hst : l.stackTraces = false) (hg : mb_gok G) {x1 : Int32} {h : mb_AH} {res : mb_RS} (hr : F_X3_endOfDigits x1 h = some res) : mb_Mt l G yX3_endOfDigits cX3_endOfDigits 3 (some .int) 0 [mb_F 5 0 0, .inl x1] h res := by
  refine mb_entry (own := RX3) (lv := [(0, mb_F 5 0 0), (1, .inl x1)]) (by decide +kernel) rfl (Nat.le_of_ble_eq_true rfl) rfl rfl (fun _ => ?_) hst hg
  unfold F_X3_endOfDigits at hr
  refine mb_iload_n (pn := 1) 1 dX3_endOfDigits_0 rfl rfl rfl ?_
  refine mb_istore_n (pn := 2) (lv2 := [(2, .inl x1), (0, mb_F 5 0 0), (1, .inl x1)]) dX3_endOfDigits_1 rfl (by decide) rfl rfl ?_
  exact mb_lvs [1, 2, 0] rfl (T_X3_endOfDigits_2 hst hg  mb_fu _ _ _ hr)
set_option maxRecDepth 100000 in
set_option maxHeartbeats 4000000 in
theorem cl_X3_30 {l : Launch} {G : mb_G} {cc : ByteArray} {nL : Nat} {ret : Option FieldType} {d pc pn : Nat} {lv : List (Nat × mb_AV)} {st : List mb_AV} {h : mb_AH} {res : mb_RS} (hst : l.stackTraces = false) (hg : mb_gok G) {x1 : Int32} {K : Int32 → mb_AH → Option mb_RS} (hd2 : 0 + 1 ≤ d) (hs4 : st.length ≤ 4) (dg : decode cc pc = .ok (.invokevirtual 30, 3)) (hn : pc + 3 = pn) (hr : mb_cI (F_X3_endOfDigits x1 h) K = some res) (kk : ∀ (x : Int32) (h2 : mb_AH), K x h2 = some res → mb_Ev l G RX3 cc nL ret d pn lv (.inl x :: st) h2 res) : mb_Ev l G RX3 cc nL ret d pc lv (.inl x1 :: mb_F 5 0 0 :: st) h res := mb_kVI (as := [.inl x1]) (n := 1) (d2 := 0) (ci := 3) (fun _ hf => C_X3_endOfDigits hst hg hf) (mb_gV wl_X3_30 mi_X3_endOfDigits ms_X3_endOfDigits mn_X3 mc_X3_endOfDigits) (by decide +kernel) rfl rfl rfl hd2 (by decide) hs4 rfl dg hn hr kk
def B_X3_valueOf_5  : Nat → Int32 → Int32 → Int32 → mb_AH → Option mb_RS
  | 0, _, _, _, _ => none
  | n + 1, v2, v3, v4, h => (if v2 ≤ v4 then (some (.inl (some (.inl v3)), h)) else (mb_gB v4 70 (mb_lI (((10 : Int32) * v3) + ((h.1 16 0 0 v4.toNatClampNeg) - 48)) fun y101 => (mb_lI (v4 + 1) fun y102 => ((B_X3_valueOf_5  n) v2 y101 y102 h)))))
set_option maxRecDepth 100000 in
set_option maxHeartbeats 4000000 in
theorem T_X3_valueOf_5 {l : Launch} {G : mb_G} {res : mb_RS} (hst : l.stackTraces = false) (hg : mb_gok G)   : ∀ (n : Nat) (v2 : Int32) (v3 : Int32) (v4 : Int32) (h : mb_AH), B_X3_valueOf_5  n v2 v3 v4 h = some res → mb_Ev l G RX3 cX3_valueOf 5 (some .int) 0 5 [(0, mb_F 5 0 0), (2, .inl v2), (3, .inl v3), (4, .inl v4)] [] h res := by
  intro n
  induction n with
  | zero => intro v2 v3 v4 h hr; cases hr
  | succ n ih =>
    intro v2 v3 v4 h hr
    rw [B_X3_valueOf_5] at hr
    refine mb_iload (pn := 7) 3 dX3_valueOf_5 rfl rfl ?_
    refine mb_iload_n (pn := 8) 1 dX3_valueOf_7 rfl rfl rfl ?_
    refine mb_ic_ge (tgt := 33) (pn := 11) dX3_valueOf_8 (by decide) rfl hr (fun hr => ?_) (fun hr => ?_)
    · refine mb_iload_n (pn := 34) 2 dX3_valueOf_33 rfl rfl rfl ?_
      cases hr
      exact mb_iret dX3_valueOf_34
    · refine mb_bipush (v := 10) (pn := 13) dX3_valueOf_11 (by decide) rfl ?_
      refine mb_iload_n (pn := 14) 2 dX3_valueOf_13 rfl rfl rfl ?_
      refine mb_imul (pn := 15) dX3_valueOf_14 rfl ?_
      refine mb_aload_n (pn := 16) 0 dX3_valueOf_15 rfl rfl rfl ?_
      refine gf_X3_9 (pn := 19) dX3_valueOf_16 rfl ?_
      refine mb_iload (pn := 21) 3 dX3_valueOf_19 rfl rfl ?_
      refine mb_cald (pn := 22) (n := 70) rfl dX3_valueOf_21 rfl hr (fun hr => ?_)
      refine mb_bipush (v := 48) (pn := 24) dX3_valueOf_22 (by decide) rfl ?_
      refine mb_isub (pn := 25) dX3_valueOf_24 rfl ?_
      refine mb_iadd (pn := 26) dX3_valueOf_25 rfl ?_
      refine mb_nmI hr (fun y101 hr => ?_)
      refine mb_istore_n (pn := 27) (lv2 := [(3, .inl y101), (0, mb_F 5 0 0), (2, .inl v2), (4, .inl v4)]) dX3_valueOf_26 rfl (by decide) rfl rfl ?_
      refine mb_nmx hr (fun y102 qy102 hr => ?_)
      refine mb_iinc (v := y102) (pn := 30) (lv2 := [(4, .inl y102), (3, .inl y101), (0, mb_F 5 0 0), (2, .inl v2)]) 3 dX3_valueOf_27 rfl (by rw [qy102]; rfl) (by decide) rfl rfl ?_
      refine mb_goto (tgt := 5) dX3_valueOf_30 (by decide) ?_
      exact mb_lvs [2, 3, 1, 0] rfl (ih _ _ _ _ hr)
def F_X3_valueOf (x1 : Int32) (x2 : Int32) (h : mb_AH) : Option mb_RS := (B_X3_valueOf_5  mb_fu x2 0 x1 h)
set_option maxRecDepth 100000 in
set_option maxHeartbeats 4000000 in
theorem C_X3_valueOf {l : Launch} {G : mb_G} (hst : l.stackTraces = false) (hg : mb_gok G) {x1 : Int32} {x2 : Int32} {h : mb_AH} {res : mb_RS} (hr : F_X3_valueOf x1 x2 h = some res) : mb_Mt l G yX3_valueOf cX3_valueOf 5 (some .int) 0 [mb_F 5 0 0, .inl x1, .inl x2] h res := by
  refine mb_entry (own := RX3) (lv := [(0, mb_F 5 0 0), (1, .inl x1), (2, .inl x2)]) (by decide +kernel) rfl (Nat.le_of_ble_eq_true rfl) rfl rfl (fun _ => ?_) hst hg
  unfold F_X3_valueOf at hr
  refine mb_iconst (v := 0) (pn := 1) dX3_valueOf_0 (by decide) rfl ?_
  refine mb_istore_n (pn := 2) (lv2 := [(3, .inl 0), (0, mb_F 5 0 0), (1, .inl x1), (2, .inl x2)]) dX3_valueOf_1 rfl (by decide) rfl rfl ?_
  refine mb_iload_n (pn := 3) 2 dX3_valueOf_2 rfl rfl rfl ?_
  refine mb_istore (pn := 5) (lv2 := [(4, .inl x1), (3, .inl 0), (0, mb_F 5 0 0), (1, .inl x1), (2, .inl x2)]) dX3_valueOf_3 (by decide) rfl rfl ?_
  exact mb_lvs [2, 4, 1, 0] rfl (T_X3_valueOf_5 hst hg  mb_fu _ _ _ _ hr)
set_option maxRecDepth 100000 in
set_option maxHeartbeats 4000000 in
theorem cl_X3_34 {l : Launch} {G : mb_G} {cc : ByteArray} {nL : Nat} {ret : Option FieldType} {d pc pn : Nat} {lv : List (Nat × mb_AV)} {st : List mb_AV} {h : mb_AH} {res : mb_RS} (hst : l.stackTraces = false) (hg : mb_gok G) {x1 : Int32} {x2 : Int32} {K : Int32 → mb_AH → Option mb_RS} (hd2 : 0 + 1 ≤ d) (hs4 : st.length ≤ 4) (dg : decode cc pc = .ok (.invokevirtual 34, 3)) (hn : pc + 3 = pn) (hr : mb_cI (F_X3_valueOf x1 x2 h) K = some res) (kk : ∀ (x : Int32) (h2 : mb_AH), K x h2 = some res → mb_Ev l G RX3 cc nL ret d pn lv (.inl x :: st) h2 res) : mb_Ev l G RX3 cc nL ret d pc lv (.inl x2 :: .inl x1 :: mb_F 5 0 0 :: st) h res := mb_kVI (as := [.inl x1, .inl x2]) (n := 2) (d2 := 0) (ci := 3) (fun _ hf => C_X3_valueOf hst hg hf) (mb_gV wl_X3_34 mi_X3_valueOf ms_X3_valueOf mn_X3 mc_X3_valueOf) (by decide +kernel) rfl rfl rfl hd2 (by decide) hs4 rfl dg hn hr kk
def B_X3_findFault_94 (K9 : Int32 → Int32 → mb_AH → Option mb_RS) (v1 : Int32) (v4 : Int32) (h : mb_AH) : Option mb_RS := (if v4 = (h.1 5 0 0 1) then (mb_up (mb_sI h 5 0 0 3 ((h.1 5 0 0 3) + 1)) fun h113 => (some (.inl (some (.inl v1)), h113))) else (mb_cI (F_X3_isAt v4 (44 : Int32) h) fun y110 h109 => (if y110 = 0 then (some (.inl (some (.inl v4)), h109)) else (mb_lI (v4 + 1) fun y111 => (mb_up (mb_sI h109 5 0 0 3 ((h109.1 5 0 0 3) + 1)) fun h112 => (K9 v1 y111 h112))))))
set_option maxRecDepth 100000 in
set_option maxHeartbeats 4000000 in
theorem T_X3_findFault_94 {l : Launch} {G : mb_G} {res : mb_RS} (hst : l.stackTraces = false) (hg : mb_gok G) {K9 : Int32 → Int32 → mb_AH → Option mb_RS} (hK9 : ∀ (v1z : Int32) (v2z : Int32) (hz : mb_AH), K9 v1z v2z hz = some res → mb_Ev l G RX3 cX3_findFault 6 (some .int) 1 9 [(0, mb_F 5 0 0), (1, .inl v1z), (2, .inl v2z)] [] hz res) {v1 : Int32} {v4 : Int32} {h : mb_AH} (hr : B_X3_findFault_94 K9 v1 v4 h = some res) : mb_Ev l G RX3 cX3_findFault 6 (some .int) 1 94 [(0, mb_F 5 0 0), (1, .inl v1), (4, .inl v4)] [] h res := by
  unfold B_X3_findFault_94 at hr
  refine mb_iload (pn := 96) 2 dX3_findFault_94 rfl rfl ?_
  refine mb_aload_n (pn := 97) 0 dX3_findFault_96 rfl rfl rfl ?_
  refine gf_X3_19 (pn := 100) dX3_findFault_97 rfl ?_
  refine mb_ic_ne (tgt := 115) (pn := 103) dX3_findFault_100 (by decide) rfl hr (fun hr => ?_) (fun hr => ?_)
  · refine mb_aload_n (pn := 116) 0 dX3_findFault_115 rfl rfl rfl ?_
    refine mb_iload (pn := 118) 2 dX3_findFault_116 rfl rfl ?_
    refine mb_bipush (v := 44) (pn := 120) dX3_findFault_118 (by decide) rfl ?_
    refine cl_X3_26 (pn := 123) hst hg (Nat.le_of_ble_eq_true rfl) (Nat.le_of_ble_eq_true rfl) dX3_findFault_120 rfl hr (fun y110 h109 hr => ?_)
    refine mb_if_ne (tgt := 129) (pn := 126) dX3_findFault_123 (by decide) rfl hr (fun hr => ?_) (fun hr => ?_)
    · refine mb_iload (pn := 131) 2 dX3_findFault_129 rfl rfl ?_
      refine mb_iconst (v := 1) (pn := 132) dX3_findFault_131 (by decide) rfl ?_
      refine mb_iadd (pn := 133) dX3_findFault_132 rfl ?_
      refine mb_nmI hr (fun y111 hr => ?_)
      refine mb_istore_n (pn := 134) (lv2 := [(2, .inl y111), (0, mb_F 5 0 0), (1, .inl v1), (4, .inl v4)]) dX3_findFault_133 rfl (by decide) rfl rfl ?_
      refine mb_aload_n (pn := 135) 1 dX3_findFault_134 rfl rfl rfl ?_
      refine mb_dup (pn := 136) rfl dX3_findFault_135 rfl ?_
      refine gf_X3_23 (pn := 139) dX3_findFault_136 rfl ?_
      refine mb_iconst (v := 1) (pn := 140) dX3_findFault_139 (by decide) rfl ?_
      refine mb_iadd (pn := 141) dX3_findFault_140 rfl ?_
      refine pf_X3_23 (pn := 144) dX3_findFault_141 rfl hr (fun h112 hr => ?_)
      refine mb_goto (tgt := 9) dX3_findFault_144 (by decide) ?_
      exact mb_lvs [1, 2, 0] rfl (hK9 _ _ _ hr)
    · refine mb_iload (pn := 128) 2 dX3_findFault_126 rfl rfl ?_
      cases hr
      exact mb_iret dX3_findFault_128
  · refine mb_aload_n (pn := 104) 0 dX3_findFault_103 rfl rfl rfl ?_
    refine mb_dup (pn := 105) rfl dX3_findFault_104 rfl ?_
    refine gf_X3_23 (pn := 108) dX3_findFault_105 rfl ?_
    refine mb_iconst (v := 1) (pn := 109) dX3_findFault_108 (by decide) rfl ?_
    refine mb_iadd (pn := 110) dX3_findFault_109 rfl ?_
    refine pf_X3_23 (pn := 113) dX3_findFault_110 rfl hr (fun h113 hr => ?_)
    refine mb_iload_n (pn := 114) 1 dX3_findFault_113 rfl rfl rfl ?_
    cases hr
    exact mb_iret dX3_findFault_114
def B_X3_findFault_78 (K9 : Int32 → Int32 → mb_AH → Option mb_RS) (v1 : Int32) (v3 : Int32) (v4 : Int32) (v5 : Int32) (s0 : Int32) (s1 : Int32) (h : mb_AH) : Option mb_RS := (mb_gB s1 14 (mb_up (mb_sI h 17 0 0 s1.toNatClampNeg s0) fun h108 => (if v5 ≤ 300 then (B_X3_findFault_94 K9 v1 v4 h108) else (if v1 = (-1) then (B_X3_findFault_94 K9 v3 v4 h108) else (B_X3_findFault_94 K9 v1 v4 h108)))))
set_option maxRecDepth 100000 in
set_option maxHeartbeats 4000000 in
theorem T_X3_findFault_78 {l : Launch} {G : mb_G} {res : mb_RS} (hst : l.stackTraces = false) (hg : mb_gok G) {K9 : Int32 → Int32 → mb_AH → Option mb_RS} (hK9 : ∀ (v1z : Int32) (v2z : Int32) (hz : mb_AH), K9 v1z v2z hz = some res → mb_Ev l G RX3 cX3_findFault 6 (some .int) 1 9 [(0, mb_F 5 0 0), (1, .inl v1z), (2, .inl v2z)] [] hz res) {v1 : Int32} {v3 : Int32} {v4 : Int32} {v5 : Int32} {s0 : Int32} {s1 : Int32} {h : mb_AH} (hr : B_X3_findFault_78 K9 v1 v3 v4 v5 s0 s1 h = some res) : mb_Ev l G RX3 cX3_findFault 6 (some .int) 1 78 [(0, mb_F 5 0 0), (1, .inl v1), (3, .inl v3), (4, .inl v4), (5, .inl v5)] [.inl s0, .inl s1, mb_F 17 0 0] h res := by
  unfold B_X3_findFault_78 at hr
  refine mb_iast (pn := 79) (n := 14) rfl rfl dX3_findFault_78 rfl hr (fun hr => ?_)
  refine mb_nmh hr (fun h108 hr => ?_)
  refine mb_iload (pn := 81) 4 dX3_findFault_79 rfl rfl ?_
  refine mb_sipush (v := 300) (pn := 84) dX3_findFault_81 (by decide) rfl ?_
  refine mb_ic_le (tgt := 94) (pn := 87) dX3_findFault_84 (by decide) rfl hr (fun hr => ?_) (fun hr => ?_)
  · exact mb_lvs [0, 1, 3] rfl (T_X3_findFault_94 hst hg hK9 hr)
  · refine mb_iload_n (pn := 88) 1 dX3_findFault_87 rfl rfl rfl ?_
    refine mb_iconst (v := (-1)) (pn := 89) dX3_findFault_88 (by decide) rfl ?_
    refine mb_ic_ne (tgt := 94) (pn := 92) dX3_findFault_89 (by decide) rfl hr (fun hr => ?_) (fun hr => ?_)
    · exact mb_lvs [0, 1, 3] rfl (T_X3_findFault_94 hst hg hK9 hr)
    · refine mb_iload_n (pn := 93) 2 dX3_findFault_92 rfl rfl rfl ?_
      refine mb_istore_n (pn := 94) (lv2 := [(1, .inl v3), (0, mb_F 5 0 0), (3, .inl v3), (4, .inl v4), (5, .inl v5)]) dX3_findFault_93 rfl (by decide) rfl rfl ?_
      exact mb_lvs [1, 0, 3] rfl (T_X3_findFault_94 hst hg hK9 hr)
def B_X3_findFault_33 (K9 : Int32 → Int32 → mb_AH → Option mb_RS) (v1 : Int32) (v2 : Int32) (v3 : Int32) (h : mb_AH) : Option mb_RS := (mb_cI (F_X3_endOfDigits v2 h) fun y105 h104 => (if y105 = v2 then (some (.inl (some (.inl v2)), h104)) else (mb_cI (F_X3_valueOf v2 y105 h104) fun y107 h106 => (if v2 ≤ v3 then (B_X3_findFault_78 K9 v1 v3 y105 y107 y107 (h106.1 5 0 0 3) h106) else (B_X3_findFault_78 K9 v1 v3 y105 y107 (-y107) (h106.1 5 0 0 3) h106)))))
set_option maxRecDepth 100000 in
set_option maxHeartbeats 4000000 in
theorem T_X3_findFault_33 {l : Launch} {G : mb_G} {res : mb_RS} (hst : l.stackTraces = false) (hg : mb_gok G) {K9 : Int32 → Int32 → mb_AH → Option mb_RS} (hK9 : ∀ (v1z : Int32) (v2z : Int32) (hz : mb_AH), K9 v1z v2z hz = some res → mb_Ev l G RX3 cX3_findFault 6 (some .int) 1 9 [(0, mb_F 5 0 0), (1, .inl v1z), (2, .inl v2z)] [] hz res) {v1 : Int32} {v2 : Int32} {v3 : Int32} {h : mb_AH} (hr : B_X3_findFault_33 K9 v1 v2 v3 h = some res) : mb_Ev l G RX3 cX3_findFault 6 (some .int) 1 33 [(0, mb_F 5 0 0), (1, .inl v1), (2, .inl v2), (3, .inl v3)] [] h res := by
  unfold B_X3_findFault_33 at hr
  refine mb_aload_n (pn := 34) 0 dX3_findFault_33 rfl rfl rfl ?_
  refine mb_iload_n (pn := 35) 2 dX3_findFault_34 rfl rfl rfl ?_
  refine cl_X3_30 (pn := 38) hst hg (Nat.le_of_ble_eq_true rfl) (Nat.le_of_ble_eq_true rfl) dX3_findFault_35 rfl hr (fun y105 h104 hr => ?_)
  refine mb_istore (pn := 40) (lv2 := [(4, .inl y105), (0, mb_F 5 0 0), (1, .inl v1), (2, .inl v2), (3, .inl v3)]) dX3_findFault_38 (by decide) rfl rfl ?_
  refine mb_iload (pn := 42) 0 dX3_findFault_40 rfl rfl ?_
  refine mb_iload_n (pn := 43) 3 dX3_findFault_42 rfl rfl rfl ?_
  refine mb_ic_ne (tgt := 48) (pn := 46) dX3_findFault_43 (by decide) rfl hr (fun hr => ?_) (fun hr => ?_)
  · refine mb_aload_n (pn := 49) 1 dX3_findFault_48 rfl rfl rfl ?_
    refine mb_iload_n (pn := 50) 3 dX3_findFault_49 rfl rfl rfl ?_
    refine mb_iload (pn := 52) 0 dX3_findFault_50 rfl rfl ?_
    refine cl_X3_34 (pn := 55) hst hg (Nat.le_of_ble_eq_true rfl) (Nat.le_of_ble_eq_true rfl) dX3_findFault_52 rfl hr (fun y107 h106 hr => ?_)
    refine mb_istore (pn := 57) (lv2 := [(5, .inl y107), (4, .inl y105), (0, mb_F 5 0 0), (1, .inl v1), (2, .inl v2), (3, .inl v3)]) dX3_findFault_55 (by decide) rfl rfl ?_
    refine mb_aload_n (pn := 58) 2 dX3_findFault_57 rfl rfl rfl ?_
    refine gf_X3_15 (pn := 61) dX3_findFault_58 rfl ?_
    refine mb_aload_n (pn := 62) 2 dX3_findFault_61 rfl rfl rfl ?_
    refine gf_X3_23 (pn := 65) dX3_findFault_62 rfl ?_
    refine mb_iload_n (pn := 66) 4 dX3_findFault_65 rfl rfl rfl ?_
    refine mb_iload_n (pn := 67) 5 dX3_findFault_66 rfl rfl rfl ?_
    refine mb_ic_le (tgt := 76) (pn := 70) dX3_findFault_67 (by decide) rfl hr (fun hr => ?_) (fun hr => ?_)
    · refine mb_iload (pn := 78) 0 dX3_findFault_76 rfl rfl ?_
      exact mb_lvs [2, 3, 5, 1, 0] rfl (T_X3_findFault_78 hst hg hK9 hr)
    · refine mb_iload (pn := 72) 0 dX3_findFault_70 rfl rfl ?_
      refine mb_ineg (pn := 73) dX3_findFault_72 rfl ?_
      refine mb_goto (tgt := 78) dX3_findFault_73 (by decide) ?_
      exact mb_lvs [2, 3, 5, 1, 0] rfl (T_X3_findFault_78 hst hg hK9 hr)
  · refine mb_iload_n (pn := 47) 3 dX3_findFault_46 rfl rfl rfl ?_
    cases hr
    exact mb_iret dX3_findFault_47
def B_X3_findFault_9  : Nat → Int32 → Int32 → mb_AH → Option mb_RS
  | 0, _, _, _ => none
  | n + 1, v1, v2, h => (if 14 ≤ (h.1 5 0 0 3) then (some (.inl (some (.inl (v2 - 1))), h)) else (mb_cI (F_X3_isAt v2 (45 : Int32) h) fun y103 h102 => (if y103 = 0 then (B_X3_findFault_33 (B_X3_findFault_9  n) v1 v2 v2 h102) else (mb_lI (v2 + 1) fun y114 => (B_X3_findFault_33 (B_X3_findFault_9  n) v1 y114 v2 h102)))))
set_option maxRecDepth 100000 in
set_option maxHeartbeats 4000000 in
theorem T_X3_findFault_9 {l : Launch} {G : mb_G} {res : mb_RS} (hst : l.stackTraces = false) (hg : mb_gok G)   : ∀ (n : Nat) (v1 : Int32) (v2 : Int32) (h : mb_AH), B_X3_findFault_9  n v1 v2 h = some res → mb_Ev l G RX3 cX3_findFault 6 (some .int) 1 9 [(0, mb_F 5 0 0), (1, .inl v1), (2, .inl v2)] [] h res := by
  intro n
  induction n with
  | zero => intro v1 v2 h hr; cases hr
  | succ n ih =>
    intro v1 v2 h hr
    rw [B_X3_findFault_9] at hr
    refine mb_aload_n (pn := 10) 0 dX3_findFault_9 rfl rfl rfl ?_
    refine gf_X3_23 (pn := 13) dX3_findFault_10 rfl ?_
    refine mb_bipush (v := 14) (pn := 15) dX3_findFault_13 (by decide) rfl ?_
    refine mb_ic_ge (tgt := 147) (pn := 18) dX3_findFault_15 (by decide) rfl hr (fun hr => ?_) (fun hr => ?_)
    · refine mb_iload_n (pn := 148) 2 dX3_findFault_147 rfl rfl rfl ?_
      refine mb_iconst (v := 1) (pn := 149) dX3_findFault_148 (by decide) rfl ?_
      refine mb_isub (pn := 150) dX3_findFault_149 rfl ?_
      cases hr
      exact mb_iret dX3_findFault_150
    · refine mb_iload_n (pn := 19) 2 dX3_findFault_18 rfl rfl rfl ?_
      refine mb_istore_n (pn := 20) (lv2 := [(3, .inl v2), (0, mb_F 5 0 0), (1, .inl v1), (2, .inl v2)]) dX3_findFault_19 rfl (by decide) rfl rfl ?_
      refine mb_aload_n (pn := 21) 1 dX3_findFault_20 rfl rfl rfl ?_
      refine mb_iload_n (pn := 22) 3 dX3_findFault_21 rfl rfl rfl ?_
      refine mb_bipush (v := 45) (pn := 24) dX3_findFault_22 (by decide) rfl ?_
      refine cl_X3_26 (pn := 27) hst hg (Nat.le_of_ble_eq_true rfl) (Nat.le_of_ble_eq_true rfl) dX3_findFault_24 rfl hr (fun y103 h102 hr => ?_)
      refine mb_if_eq (tgt := 33) (pn := 30) dX3_findFault_27 (by decide) rfl hr (fun hr => ?_) (fun hr => ?_)
      · exact mb_lvs [1, 2, 3, 0] rfl (T_X3_findFault_33 hst hg ih hr)
      · refine mb_nmx hr (fun y114 qy114 hr => ?_)
        refine mb_iinc (v := y114) (pn := 33) (lv2 := [(2, .inl y114), (3, .inl v2), (0, mb_F 5 0 0), (1, .inl v1)]) 3 dX3_findFault_30 rfl (by rw [qy114]; rfl) (by decide) rfl rfl ?_
        exact mb_lvs [2, 3, 0, 1] rfl (T_X3_findFault_33 hst hg ih hr)
def F_X3_findFault  (h : mb_AH) : Option mb_RS := (mb_up (mb_sI h 5 0 0 3 0) fun h101 => (B_X3_findFault_9  mb_fu (-1) 0 h101))
set_option maxRecDepth 100000 in
set_option maxHeartbeats 4000000 in
theorem C_X3_findFault {l : Launch} {G : mb_G} (hst : l.stackTraces = false) (hg : mb_gok G)  {h : mb_AH} {res : mb_RS} (hr : F_X3_findFault  h = some res) : mb_Mt l G yX3_findFault cX3_findFault 6 (some .int) 1 [mb_F 5 0 0] h res := by
  refine mb_entry (own := RX3) (lv := [(0, mb_F 5 0 0)]) (by decide +kernel) rfl (Nat.le_of_ble_eq_true rfl) rfl rfl (fun _ => ?_) hst hg
  unfold F_X3_findFault at hr
  refine mb_iconst (v := (-1)) (pn := 1) dX3_findFault_0 (by decide) rfl ?_
  refine mb_istore_n (pn := 2) (lv2 := [(1, .inl (-1)), (0, mb_F 5 0 0)]) dX3_findFault_1 rfl (by decide) rfl rfl ?_
  refine mb_iconst (v := 0) (pn := 3) dX3_findFault_2 (by decide) rfl ?_
  refine mb_istore_n (pn := 4) (lv2 := [(2, .inl 0), (1, .inl (-1)), (0, mb_F 5 0 0)]) dX3_findFault_3 rfl (by decide) rfl rfl ?_
  refine mb_aload_n (pn := 5) 2 dX3_findFault_4 rfl rfl rfl ?_
  refine mb_iconst (v := 0) (pn := 6) dX3_findFault_5 (by decide) rfl ?_
  refine pf_X3_23 (pn := 9) dX3_findFault_6 rfl hr (fun h101 hr => ?_)
  exact mb_lvs [2, 1, 0] rfl (T_X3_findFault_9 hst hg  mb_fu _ _ _ hr)
end
