-- ===== PART A: goes FIRST, ahead of the names: the tables' words, and 'selects' of the private methods out of them =====
/-- a private method of a class that the tables say can be made, by its rows of tables_1 -/
def lw_okq (q : MethodName × Nat) : Prop := (q.1.cls ≠ "java/lang/invoke/MethodHandle" ∧ q.1.cls ≠ "java/lang/invoke/VarHandle") ∧ Cond.instantiable q.1.cls q.2 ∈ tables_1 ∧ Cond.privateMethod q.1 ∈ tables_1 ∧ Cond.instanceMethod q.1 ∈ tables_1
theorem lw_p0 : lw_okq (⟨"SmokeControl$Text", "lengthenToken", "(I)V"⟩, 8) := ⟨⟨by decide +kernel, by decide +kernel⟩, List.mem_of_getElem? (i := 187) (by decide +kernel), List.mem_of_getElem? (i := 503) (by decide +kernel), List.mem_of_getElem? (i := 504) (by decide +kernel)⟩
theorem lw_p1 : lw_okq (⟨"SmokeControl$Text", "startToken", "(II)V"⟩, 8) := ⟨⟨by decide +kernel, by decide +kernel⟩, List.mem_of_getElem? (i := 187) (by decide +kernel), List.mem_of_getElem? (i := 507) (by decide +kernel), List.mem_of_getElem? (i := 508) (by decide +kernel)⟩
theorem lw_p2 : lw_okq (⟨"SmokeControl$Reader", "takeWord", "(Ljava/lang/String;)Z"⟩, 6) := ⟨⟨by decide +kernel, by decide +kernel⟩, List.mem_of_getElem? (i := 181) (by decide +kernel), List.mem_of_getElem? (i := 520) (by decide +kernel), List.mem_of_getElem? (i := 521) (by decide +kernel)⟩
theorem lw_p3 : lw_okq (⟨"SmokeControl$Reader", "needNumber", "(II)I"⟩, 6) := ⟨⟨by decide +kernel, by decide +kernel⟩, List.mem_of_getElem? (i := 181) (by decide +kernel), List.mem_of_getElem? (i := 580) (by decide +kernel), List.mem_of_getElem? (i := 581) (by decide +kernel)⟩
theorem lw_p4 : lw_okq (⟨"SmokeControl$Reader", "fail", "(I)V"⟩, 6) := ⟨⟨by decide +kernel, by decide +kernel⟩, List.mem_of_getElem? (i := 181) (by decide +kernel), List.mem_of_getElem? (i := 584) (by decide +kernel), List.mem_of_getElem? (i := 585) (by decide +kernel)⟩
theorem lw_p5 : lw_okq (⟨"SmokeControl$Reader", "takeItem", "(Ljava/lang/String;II)Z"⟩, 6) := ⟨⟨by decide +kernel, by decide +kernel⟩, List.mem_of_getElem? (i := 181) (by decide +kernel), List.mem_of_getElem? (i := 593) (by decide +kernel), List.mem_of_getElem? (i := 594) (by decide +kernel)⟩
theorem lw_p6 : lw_okq (⟨"SmokeControl$Reader", "damperItem", "()V"⟩, 6) := ⟨⟨by decide +kernel, by decide +kernel⟩, List.mem_of_getElem? (i := 181) (by decide +kernel), List.mem_of_getElem? (i := 597) (by decide +kernel), List.mem_of_getElem? (i := 598) (by decide +kernel)⟩
theorem lw_p7 : lw_okq (⟨"SmokeControl$Reader", "airKind", "()I"⟩, 6) := ⟨⟨by decide +kernel, by decide +kernel⟩, List.mem_of_getElem? (i := 181) (by decide +kernel), List.mem_of_getElem? (i := 601) (by decide +kernel), List.mem_of_getElem? (i := 602) (by decide +kernel)⟩
theorem lw_p8 : lw_okq (⟨"SmokeControl$Reader", "fanItem", "()V"⟩, 6) := ⟨⟨by decide +kernel, by decide +kernel⟩, List.mem_of_getElem? (i := 181) (by decide +kernel), List.mem_of_getElem? (i := 616) (by decide +kernel), List.mem_of_getElem? (i := 617) (by decide +kernel)⟩
theorem lw_p9 : lw_okq (⟨"SmokeControl$Reader", "listedDamper", "(II)I"⟩, 6) := ⟨⟨by decide +kernel, by decide +kernel⟩, List.mem_of_getElem? (i := 181) (by decide +kernel), List.mem_of_getElem? (i := 621) (by decide +kernel), List.mem_of_getElem? (i := 622) (by decide +kernel)⟩
theorem lw_p10 : lw_okq (⟨"SmokeControl$Reader", "doorItem", "()V"⟩, 6) := ⟨⟨by decide +kernel, by decide +kernel⟩, List.mem_of_getElem? (i := 181) (by decide +kernel), List.mem_of_getElem? (i := 631) (by decide +kernel), List.mem_of_getElem? (i := 632) (by decide +kernel)⟩
theorem lw_p11 : lw_okq (⟨"SmokeControl$Reader", "ruleItem", "()V"⟩, 6) := ⟨⟨by decide +kernel, by decide +kernel⟩, List.mem_of_getElem? (i := 181) (by decide +kernel), List.mem_of_getElem? (i := 642) (by decide +kernel), List.mem_of_getElem? (i := 643) (by decide +kernel)⟩
theorem lw_p12 : lw_okq (⟨"SmokeControl$Reader", "condition", "(I)V"⟩, 6) := ⟨⟨by decide +kernel, by decide +kernel⟩, List.mem_of_getElem? (i := 181) (by decide +kernel), List.mem_of_getElem? (i := 646) (by decide +kernel), List.mem_of_getElem? (i := 647) (by decide +kernel)⟩
theorem lw_p13 : lw_okq (⟨"SmokeControl$Reader", "test", "(I)V"⟩, 6) := ⟨⟨by decide +kernel, by decide +kernel⟩, List.mem_of_getElem? (i := 181) (by decide +kernel), List.mem_of_getElem? (i := 650) (by decide +kernel), List.mem_of_getElem? (i := 651) (by decide +kernel)⟩
theorem lw_p14 : lw_okq (⟨"SmokeControl$Reader", "testHere", "()I"⟩, 6) := ⟨⟨by decide +kernel, by decide +kernel⟩, List.mem_of_getElem? (i := 181) (by decide +kernel), List.mem_of_getElem? (i := 659) (by decide +kernel), List.mem_of_getElem? (i := 660) (by decide +kernel)⟩
theorem lw_p15 : lw_okq (⟨"SmokeControl$Reader", "takeSign", "(C)Z"⟩, 6) := ⟨⟨by decide +kernel, by decide +kernel⟩, List.mem_of_getElem? (i := 181) (by decide +kernel), List.mem_of_getElem? (i := 673) (by decide +kernel), List.mem_of_getElem? (i := 674) (by decide +kernel)⟩
def lw_privs_1 : List (MethodName × Nat) := [(⟨"SmokeControl$Text", "lengthenToken", "(I)V"⟩, 8), (⟨"SmokeControl$Text", "startToken", "(II)V"⟩, 8), (⟨"SmokeControl$Reader", "takeWord", "(Ljava/lang/String;)Z"⟩, 6), (⟨"SmokeControl$Reader", "needNumber", "(II)I"⟩, 6), (⟨"SmokeControl$Reader", "fail", "(I)V"⟩, 6), (⟨"SmokeControl$Reader", "takeItem", "(Ljava/lang/String;II)Z"⟩, 6), (⟨"SmokeControl$Reader", "damperItem", "()V"⟩, 6), (⟨"SmokeControl$Reader", "airKind", "()I"⟩, 6), (⟨"SmokeControl$Reader", "fanItem", "()V"⟩, 6), (⟨"SmokeControl$Reader", "listedDamper", "(II)I"⟩, 6), (⟨"SmokeControl$Reader", "doorItem", "()V"⟩, 6), (⟨"SmokeControl$Reader", "ruleItem", "()V"⟩, 6), (⟨"SmokeControl$Reader", "condition", "(I)V"⟩, 6), (⟨"SmokeControl$Reader", "test", "(I)V"⟩, 6), (⟨"SmokeControl$Reader", "testHere", "()I"⟩, 6), (⟨"SmokeControl$Reader", "takeSign", "(C)Z"⟩, 6)]
theorem lw_r1 : ∀ q ∈ lw_privs_1, lw_okq q := List.forall_mem_cons.mpr ⟨lw_p0, List.forall_mem_cons.mpr ⟨lw_p1, List.forall_mem_cons.mpr ⟨lw_p2, List.forall_mem_cons.mpr ⟨lw_p3, List.forall_mem_cons.mpr ⟨lw_p4, List.forall_mem_cons.mpr ⟨lw_p5, List.forall_mem_cons.mpr ⟨lw_p6, List.forall_mem_cons.mpr ⟨lw_p7, List.forall_mem_cons.mpr ⟨lw_p8, List.forall_mem_cons.mpr ⟨lw_p9, List.forall_mem_cons.mpr ⟨lw_p10, List.forall_mem_cons.mpr ⟨lw_p11, List.forall_mem_cons.mpr ⟨lw_p12, List.forall_mem_cons.mpr ⟨lw_p13, List.forall_mem_cons.mpr ⟨lw_p14, List.forall_mem_cons.mpr ⟨lw_p15, fun _ h => absurd h List.not_mem_nil⟩⟩⟩⟩⟩⟩⟩⟩⟩⟩⟩⟩⟩⟩⟩⟩
theorem lw_p16 : lw_okq (⟨"SmokeControl$Reader", "needSign", "(C)V"⟩, 6) := ⟨⟨by decide +kernel, by decide +kernel⟩, List.mem_of_getElem? (i := 181) (by decide +kernel), List.mem_of_getElem? (i := 677) (by decide +kernel), List.mem_of_getElem? (i := 678) (by decide +kernel)⟩
theorem lw_p17 : lw_okq (⟨"SmokeControl$Reader", "lastFor", "(I)I"⟩, 6) := ⟨⟨by decide +kernel, by decide +kernel⟩, List.mem_of_getElem? (i := 181) (by decide +kernel), List.mem_of_getElem? (i := 681) (by decide +kernel), List.mem_of_getElem? (i := 682) (by decide +kernel)⟩
theorem lw_p18 : lw_okq (⟨"SmokeControl$Reader", "action", "(I)V"⟩, 6) := ⟨⟨by decide +kernel, by decide +kernel⟩, List.mem_of_getElem? (i := 181) (by decide +kernel), List.mem_of_getElem? (i := 688) (by decide +kernel), List.mem_of_getElem? (i := 689) (by decide +kernel)⟩
theorem lw_p19 : lw_okq (⟨"SmokeControl$Reader", "verbHere", "()I"⟩, 6) := ⟨⟨by decide +kernel, by decide +kernel⟩, List.mem_of_getElem? (i := 181) (by decide +kernel), List.mem_of_getElem? (i := 692) (by decide +kernel), List.mem_of_getElem? (i := 693) (by decide +kernel)⟩
theorem lw_p20 : lw_okq (⟨"SmokeControl$Reader", "objectsOf", "(I)I"⟩, 6) := ⟨⟨by decide +kernel, by decide +kernel⟩, List.mem_of_getElem? (i := 181) (by decide +kernel), List.mem_of_getElem? (i := 703) (by decide +kernel), List.mem_of_getElem? (i := 704) (by decide +kernel)⟩
theorem lw_p21 : lw_okq (⟨"SmokeControl", "lacksZone", "(I)Z"⟩, 6) := ⟨⟨by decide +kernel, by decide +kernel⟩, List.mem_of_getElem? (i := 21) (by decide +kernel), List.mem_of_getElem? (i := 732) (by decide +kernel), List.mem_of_getElem? (i := 733) (by decide +kernel)⟩
theorem lw_p22 : lw_okq (⟨"SmokeControl", "lacksDamper", "(I)Z"⟩, 6) := ⟨⟨by decide +kernel, by decide +kernel⟩, List.mem_of_getElem? (i := 21) (by decide +kernel), List.mem_of_getElem? (i := 752) (by decide +kernel), List.mem_of_getElem? (i := 753) (by decide +kernel)⟩
theorem lw_p23 : lw_okq (⟨"SmokeControl", "setFaulty", "(IZ)I"⟩, 6) := ⟨⟨by decide +kernel, by decide +kernel⟩, List.mem_of_getElem? (i := 21) (by decide +kernel), List.mem_of_getElem? (i := 756) (by decide +kernel), List.mem_of_getElem? (i := 757) (by decide +kernel)⟩
theorem lw_p24 : lw_okq (⟨"SmokeControl", "lacksFan", "(I)Z"⟩, 6) := ⟨⟨by decide +kernel, by decide +kernel⟩, List.mem_of_getElem? (i := 21) (by decide +kernel), List.mem_of_getElem? (i := 764) (by decide +kernel), List.mem_of_getElem? (i := 765) (by decide +kernel)⟩
theorem lw_p25 : lw_okq (⟨"SmokeControl$Commands", "followRules", "(LSmokeControl$State;)V"⟩, 3) := ⟨⟨by decide +kernel, by decide +kernel⟩, List.mem_of_getElem? (i := 422) (by decide +kernel), List.mem_of_getElem? (i := 810) (by decide +kernel), List.mem_of_getElem? (i := 811) (by decide +kernel)⟩
theorem lw_p26 : lw_okq (⟨"SmokeControl$Commands", "act", "(LSmokeControl$Plant;II)V"⟩, 3) := ⟨⟨by decide +kernel, by decide +kernel⟩, List.mem_of_getElem? (i := 422) (by decide +kernel), List.mem_of_getElem? (i := 832) (by decide +kernel), List.mem_of_getElem? (i := 833) (by decide +kernel)⟩
theorem lw_p27 : lw_okq (⟨"SmokeControl$Commands", "rule", "(II)V"⟩, 3) := ⟨⟨by decide +kernel, by decide +kernel⟩, List.mem_of_getElem? (i := 422) (by decide +kernel), List.mem_of_getElem? (i := 836) (by decide +kernel), List.mem_of_getElem? (i := 837) (by decide +kernel)⟩
theorem lw_p28 : lw_okq (⟨"SmokeControl$Commands", "ruleZone", "(LSmokeControl$Plant;III)V"⟩, 3) := ⟨⟨by decide +kernel, by decide +kernel⟩, List.mem_of_getElem? (i := 422) (by decide +kernel), List.mem_of_getElem? (i := 840) (by decide +kernel), List.mem_of_getElem? (i := 841) (by decide +kernel)⟩
theorem lw_p29 : lw_okq (⟨"SmokeControl$Commands", "settle", "(LSmokeControl$State;II)V"⟩, 3) := ⟨⟨by decide +kernel, by decide +kernel⟩, List.mem_of_getElem? (i := 422) (by decide +kernel), List.mem_of_getElem? (i := 844) (by decide +kernel), List.mem_of_getElem? (i := 845) (by decide +kernel)⟩
theorem lw_p30 : lw_okq (⟨"SmokeControl$Commands", "give", "(III)V"⟩, 3) := ⟨⟨by decide +kernel, by decide +kernel⟩, List.mem_of_getElem? (i := 422) (by decide +kernel), List.mem_of_getElem? (i := 848) (by decide +kernel), List.mem_of_getElem? (i := 849) (by decide +kernel)⟩
theorem lw_p31 : lw_okq (⟨"SmokeControl$Engine", "moveDampers", "(LSmokeControl$State;)V"⟩, 4) := ⟨⟨by decide +kernel, by decide +kernel⟩, List.mem_of_getElem? (i := 416) (by decide +kernel), List.mem_of_getElem? (i := 852) (by decide +kernel), List.mem_of_getElem? (i := 853) (by decide +kernel)⟩
def lw_privs_2 : List (MethodName × Nat) := [(⟨"SmokeControl$Reader", "needSign", "(C)V"⟩, 6), (⟨"SmokeControl$Reader", "lastFor", "(I)I"⟩, 6), (⟨"SmokeControl$Reader", "action", "(I)V"⟩, 6), (⟨"SmokeControl$Reader", "verbHere", "()I"⟩, 6), (⟨"SmokeControl$Reader", "objectsOf", "(I)I"⟩, 6), (⟨"SmokeControl", "lacksZone", "(I)Z"⟩, 6), (⟨"SmokeControl", "lacksDamper", "(I)Z"⟩, 6), (⟨"SmokeControl", "setFaulty", "(IZ)I"⟩, 6), (⟨"SmokeControl", "lacksFan", "(I)Z"⟩, 6), (⟨"SmokeControl$Commands", "followRules", "(LSmokeControl$State;)V"⟩, 3), (⟨"SmokeControl$Commands", "act", "(LSmokeControl$Plant;II)V"⟩, 3), (⟨"SmokeControl$Commands", "rule", "(II)V"⟩, 3), (⟨"SmokeControl$Commands", "ruleZone", "(LSmokeControl$Plant;III)V"⟩, 3), (⟨"SmokeControl$Commands", "settle", "(LSmokeControl$State;II)V"⟩, 3), (⟨"SmokeControl$Commands", "give", "(III)V"⟩, 3), (⟨"SmokeControl$Engine", "moveDampers", "(LSmokeControl$State;)V"⟩, 4)]
theorem lw_r2 : ∀ q ∈ lw_privs_2, lw_okq q := List.forall_mem_cons.mpr ⟨lw_p16, List.forall_mem_cons.mpr ⟨lw_p17, List.forall_mem_cons.mpr ⟨lw_p18, List.forall_mem_cons.mpr ⟨lw_p19, List.forall_mem_cons.mpr ⟨lw_p20, List.forall_mem_cons.mpr ⟨lw_p21, List.forall_mem_cons.mpr ⟨lw_p22, List.forall_mem_cons.mpr ⟨lw_p23, List.forall_mem_cons.mpr ⟨lw_p24, List.forall_mem_cons.mpr ⟨lw_p25, List.forall_mem_cons.mpr ⟨lw_p26, List.forall_mem_cons.mpr ⟨lw_p27, List.forall_mem_cons.mpr ⟨lw_p28, List.forall_mem_cons.mpr ⟨lw_p29, List.forall_mem_cons.mpr ⟨lw_p30, List.forall_mem_cons.mpr ⟨lw_p31, fun _ h => absurd h List.not_mem_nil⟩⟩⟩⟩⟩⟩⟩⟩⟩⟩⟩⟩⟩⟩⟩⟩
theorem lw_p32 : lw_okq (⟨"SmokeControl$Engine", "runFans", "(LSmokeControl$State;)V"⟩, 4) := ⟨⟨by decide +kernel, by decide +kernel⟩, List.mem_of_getElem? (i := 416) (by decide +kernel), List.mem_of_getElem? (i := 863) (by decide +kernel), List.mem_of_getElem? (i := 864) (by decide +kernel)⟩
theorem lw_p33 : lw_okq (⟨"SmokeControl$Engine", "controlPressure", "(LSmokeControl$State;I)V"⟩, 4) := ⟨⟨by decide +kernel, by decide +kernel⟩, List.mem_of_getElem? (i := 416) (by decide +kernel), List.mem_of_getElem? (i := 891) (by decide +kernel), List.mem_of_getElem? (i := 892) (by decide +kernel)⟩
theorem lw_p34 : lw_okq (⟨"SmokeControl$Engine", "isStairFanStarted", "(LSmokeControl$Plant;)Z"⟩, 4) := ⟨⟨by decide +kernel, by decide +kernel⟩, List.mem_of_getElem? (i := 416) (by decide +kernel), List.mem_of_getElem? (i := 911) (by decide +kernel), List.mem_of_getElem? (i := 912) (by decide +kernel)⟩
theorem lw_p35 : lw_okq (⟨"SmokeControl$Engine", "moveSmoke", "(LSmokeControl$State;I)V"⟩, 4) := ⟨⟨by decide +kernel, by decide +kernel⟩, List.mem_of_getElem? (i := 416) (by decide +kernel), List.mem_of_getElem? (i := 928) (by decide +kernel), List.mem_of_getElem? (i := 929) (by decide +kernel)⟩
theorem lw_p36 : lw_okq (⟨"SmokeControl$Engine", "flowBetween", "(LSmokeControl$State;II)I"⟩, 4) := ⟨⟨by decide +kernel, by decide +kernel⟩, List.mem_of_getElem? (i := 416) (by decide +kernel), List.mem_of_getElem? (i := 935) (by decide +kernel), List.mem_of_getElem? (i := 936) (by decide +kernel)⟩
theorem lw_p37 : lw_okq (⟨"SmokeControl$Alarms", "lowest", "(I)I"⟩, 4) := ⟨⟨by decide +kernel, by decide +kernel⟩, List.mem_of_getElem? (i := 255) (by decide +kernel), List.mem_of_getElem? (i := 955) (by decide +kernel), List.mem_of_getElem? (i := 956) (by decide +kernel)⟩
theorem lw_p38 : lw_okq (⟨"SmokeControl", "unitAnswer", "(II)I"⟩, 6) := ⟨⟨by decide +kernel, by decide +kernel⟩, List.mem_of_getElem? (i := 21) (by decide +kernel), List.mem_of_getElem? (i := 996) (by decide +kernel), List.mem_of_getElem? (i := 997) (by decide +kernel)⟩
theorem lw_p39 : lw_okq (⟨"SmokeControl", "presentCommands", "()LSmokeControl$Commands;"⟩, 6) := ⟨⟨by decide +kernel, by decide +kernel⟩, List.mem_of_getElem? (i := 21) (by decide +kernel), List.mem_of_getElem? (i := 1000) (by decide +kernel), List.mem_of_getElem? (i := 1001) (by decide +kernel)⟩
theorem lw_p40 : lw_okq (⟨"SmokeControl", "waitsForDamper", "(I)Z"⟩, 6) := ⟨⟨by decide +kernel, by decide +kernel⟩, List.mem_of_getElem? (i := 21) (by decide +kernel), List.mem_of_getElem? (i := 1010) (by decide +kernel), List.mem_of_getElem? (i := 1011) (by decide +kernel)⟩
theorem lw_p41 : lw_okq (⟨"SmokeControl", "tryTicks", "(I)V"⟩, 6) := ⟨⟨by decide +kernel, by decide +kernel⟩, List.mem_of_getElem? (i := 21) (by decide +kernel), List.mem_of_getElem? (i := 1049) (by decide +kernel), List.mem_of_getElem? (i := 1050) (by decide +kernel)⟩
theorem lw_p42 : lw_okq (⟨"SmokeControl", "smokeWithSwitch", "(III)I"⟩, 6) := ⟨⟨by decide +kernel, by decide +kernel⟩, List.mem_of_getElem? (i := 21) (by decide +kernel), List.mem_of_getElem? (i := 1098) (by decide +kernel), List.mem_of_getElem? (i := 1099) (by decide +kernel)⟩
theorem lw_p43 : lw_okq (⟨"SmokeControl", "switchZoneOn", "(I)V"⟩, 6) := ⟨⟨by decide +kernel, by decide +kernel⟩, List.mem_of_getElem? (i := 21) (by decide +kernel), List.mem_of_getElem? (i := 1106) (by decide +kernel), List.mem_of_getElem? (i := 1107) (by decide +kernel)⟩
theorem lw_p44 : lw_okq (⟨"SmokeControlModel", "begin", "()V"⟩, 35) := ⟨⟨by decide +kernel, by decide +kernel⟩, List.mem_of_getElem? (i := 1140) (by decide +kernel), List.mem_of_getElem? (i := 1149) (by decide +kernel), List.mem_of_getElem? (i := 1150) (by decide +kernel)⟩
theorem lw_p45 : lw_okq (⟨"SmokeControlModel", "damperOf", "(II)I"⟩, 35) := ⟨⟨by decide +kernel, by decide +kernel⟩, List.mem_of_getElem? (i := 1140) (by decide +kernel), List.mem_of_getElem? (i := 1153) (by decide +kernel), List.mem_of_getElem? (i := 1154) (by decide +kernel)⟩
theorem lw_p46 : lw_okq (⟨"SmokeControlModel", "put", "(III)V"⟩, 35) := ⟨⟨by decide +kernel, by decide +kernel⟩, List.mem_of_getElem? (i := 1140) (by decide +kernel), List.mem_of_getElem? (i := 1157) (by decide +kernel), List.mem_of_getElem? (i := 1158) (by decide +kernel)⟩
theorem lw_p47 : lw_okq (⟨"SmokeControlModel", "append", "(I)V"⟩, 35) := ⟨⟨by decide +kernel, by decide +kernel⟩, List.mem_of_getElem? (i := 1140) (by decide +kernel), List.mem_of_getElem? (i := 1272) (by decide +kernel), List.mem_of_getElem? (i := 1273) (by decide +kernel)⟩
def lw_privs_3 : List (MethodName × Nat) := [(⟨"SmokeControl$Engine", "runFans", "(LSmokeControl$State;)V"⟩, 4), (⟨"SmokeControl$Engine", "controlPressure", "(LSmokeControl$State;I)V"⟩, 4), (⟨"SmokeControl$Engine", "isStairFanStarted", "(LSmokeControl$Plant;)Z"⟩, 4), (⟨"SmokeControl$Engine", "moveSmoke", "(LSmokeControl$State;I)V"⟩, 4), (⟨"SmokeControl$Engine", "flowBetween", "(LSmokeControl$State;II)I"⟩, 4), (⟨"SmokeControl$Alarms", "lowest", "(I)I"⟩, 4), (⟨"SmokeControl", "unitAnswer", "(II)I"⟩, 6), (⟨"SmokeControl", "presentCommands", "()LSmokeControl$Commands;"⟩, 6), (⟨"SmokeControl", "waitsForDamper", "(I)Z"⟩, 6), (⟨"SmokeControl", "tryTicks", "(I)V"⟩, 6), (⟨"SmokeControl", "smokeWithSwitch", "(III)I"⟩, 6), (⟨"SmokeControl", "switchZoneOn", "(I)V"⟩, 6), (⟨"SmokeControlModel", "begin", "()V"⟩, 35), (⟨"SmokeControlModel", "damperOf", "(II)I"⟩, 35), (⟨"SmokeControlModel", "put", "(III)V"⟩, 35), (⟨"SmokeControlModel", "append", "(I)V"⟩, 35)]
theorem lw_r3 : ∀ q ∈ lw_privs_3, lw_okq q := List.forall_mem_cons.mpr ⟨lw_p32, List.forall_mem_cons.mpr ⟨lw_p33, List.forall_mem_cons.mpr ⟨lw_p34, List.forall_mem_cons.mpr ⟨lw_p35, List.forall_mem_cons.mpr ⟨lw_p36, List.forall_mem_cons.mpr ⟨lw_p37, List.forall_mem_cons.mpr ⟨lw_p38, List.forall_mem_cons.mpr ⟨lw_p39, List.forall_mem_cons.mpr ⟨lw_p40, List.forall_mem_cons.mpr ⟨lw_p41, List.forall_mem_cons.mpr ⟨lw_p42, List.forall_mem_cons.mpr ⟨lw_p43, List.forall_mem_cons.mpr ⟨lw_p44, List.forall_mem_cons.mpr ⟨lw_p45, List.forall_mem_cons.mpr ⟨lw_p46, List.forall_mem_cons.mpr ⟨lw_p47, fun _ h => absurd h List.not_mem_nil⟩⟩⟩⟩⟩⟩⟩⟩⟩⟩⟩⟩⟩⟩⟩⟩
theorem lw_p48 : lw_okq (⟨"SmokeControlModel", "readPlant", "()Z"⟩, 35) := ⟨⟨by decide +kernel, by decide +kernel⟩, List.mem_of_getElem? (i := 1140) (by decide +kernel), List.mem_of_getElem? (i := 1291) (by decide +kernel), List.mem_of_getElem? (i := 1292) (by decide +kernel)⟩
theorem lw_p49 : lw_okq (⟨"SmokeControlModel", "peek", "()I"⟩, 35) := ⟨⟨by decide +kernel, by decide +kernel⟩, List.mem_of_getElem? (i := 1140) (by decide +kernel), List.mem_of_getElem? (i := 1295) (by decide +kernel), List.mem_of_getElem? (i := 1296) (by decide +kernel)⟩
theorem lw_p50 : lw_okq (⟨"SmokeControlModel", "byteAt", "(I)I"⟩, 35) := ⟨⟨by decide +kernel, by decide +kernel⟩, List.mem_of_getElem? (i := 1140) (by decide +kernel), List.mem_of_getElem? (i := 1299) (by decide +kernel), List.mem_of_getElem? (i := 1300) (by decide +kernel)⟩
theorem lw_p51 : lw_okq (⟨"SmokeControlModel", "readItem", "()Z"⟩, 35) := ⟨⟨by decide +kernel, by decide +kernel⟩, List.mem_of_getElem? (i := 1140) (by decide +kernel), List.mem_of_getElem? (i := 1303) (by decide +kernel), List.mem_of_getElem? (i := 1304) (by decide +kernel)⟩
theorem lw_p52 : lw_okq (⟨"SmokeControlModel", "readWord", "()Z"⟩, 35) := ⟨⟨by decide +kernel, by decide +kernel⟩, List.mem_of_getElem? (i := 1140) (by decide +kernel), List.mem_of_getElem? (i := 1307) (by decide +kernel), List.mem_of_getElem? (i := 1308) (by decide +kernel)⟩
theorem lw_p53 : lw_okq (⟨"SmokeControlModel", "seesWord", "()Z"⟩, 35) := ⟨⟨by decide +kernel, by decide +kernel⟩, List.mem_of_getElem? (i := 1140) (by decide +kernel), List.mem_of_getElem? (i := 1311) (by decide +kernel), List.mem_of_getElem? (i := 1312) (by decide +kernel)⟩
theorem lw_p54 : lw_okq (⟨"SmokeControlModel", "fails", "(II)Z"⟩, 35) := ⟨⟨by decide +kernel, by decide +kernel⟩, List.mem_of_getElem? (i := 1140) (by decide +kernel), List.mem_of_getElem? (i := 1318) (by decide +kernel), List.mem_of_getElem? (i := 1319) (by decide +kernel)⟩
theorem lw_p55 : lw_okq (⟨"SmokeControlModel", "passWord", "()V"⟩, 35) := ⟨⟨by decide +kernel, by decide +kernel⟩, List.mem_of_getElem? (i := 1140) (by decide +kernel), List.mem_of_getElem? (i := 1324) (by decide +kernel), List.mem_of_getElem? (i := 1325) (by decide +kernel)⟩
theorem lw_p56 : lw_okq (⟨"SmokeControlModel", "readSetting", "(III)Z"⟩, 35) := ⟨⟨by decide +kernel, by decide +kernel⟩, List.mem_of_getElem? (i := 1140) (by decide +kernel), List.mem_of_getElem? (i := 1329) (by decide +kernel), List.mem_of_getElem? (i := 1330) (by decide +kernel)⟩
theorem lw_p57 : lw_okq (⟨"SmokeControlModel", "readNumber", "(II)Z"⟩, 35) := ⟨⟨by decide +kernel, by decide +kernel⟩, List.mem_of_getElem? (i := 1140) (by decide +kernel), List.mem_of_getElem? (i := 1333) (by decide +kernel), List.mem_of_getElem? (i := 1334) (by decide +kernel)⟩
theorem lw_p58 : lw_okq (⟨"SmokeControlModel", "readDamper", "()Z"⟩, 35) := ⟨⟨by decide +kernel, by decide +kernel⟩, List.mem_of_getElem? (i := 1140) (by decide +kernel), List.mem_of_getElem? (i := 1343) (by decide +kernel), List.mem_of_getElem? (i := 1344) (by decide +kernel)⟩
theorem lw_p59 : lw_okq (⟨"SmokeControlModel", "readKind", "(I)Z"⟩, 35) := ⟨⟨by decide +kernel, by decide +kernel⟩, List.mem_of_getElem? (i := 1140) (by decide +kernel), List.mem_of_getElem? (i := 1347) (by decide +kernel), List.mem_of_getElem? (i := 1348) (by decide +kernel)⟩
theorem lw_p60 : lw_okq (⟨"SmokeControlModel", "readKeyword", "(J)Z"⟩, 35) := ⟨⟨by decide +kernel, by decide +kernel⟩, List.mem_of_getElem? (i := 1140) (by decide +kernel), List.mem_of_getElem? (i := 1355) (by decide +kernel), List.mem_of_getElem? (i := 1356) (by decide +kernel)⟩
theorem lw_p61 : lw_okq (⟨"SmokeControlModel", "readFan", "()Z"⟩, 35) := ⟨⟨by decide +kernel, by decide +kernel⟩, List.mem_of_getElem? (i := 1140) (by decide +kernel), List.mem_of_getElem? (i := 1360) (by decide +kernel), List.mem_of_getElem? (i := 1361) (by decide +kernel)⟩
theorem lw_p62 : lw_okq (⟨"SmokeControlModel", "readDoor", "()Z"⟩, 35) := ⟨⟨by decide +kernel, by decide +kernel⟩, List.mem_of_getElem? (i := 1140) (by decide +kernel), List.mem_of_getElem? (i := 1368) (by decide +kernel), List.mem_of_getElem? (i := 1369) (by decide +kernel)⟩
theorem lw_p63 : lw_okq (⟨"SmokeControlModel", "readRule", "()Z"⟩, 35) := ⟨⟨by decide +kernel, by decide +kernel⟩, List.mem_of_getElem? (i := 1140) (by decide +kernel), List.mem_of_getElem? (i := 1373) (by decide +kernel), List.mem_of_getElem? (i := 1374) (by decide +kernel)⟩
def lw_privs_4 : List (MethodName × Nat) := [(⟨"SmokeControlModel", "readPlant", "()Z"⟩, 35), (⟨"SmokeControlModel", "peek", "()I"⟩, 35), (⟨"SmokeControlModel", "byteAt", "(I)I"⟩, 35), (⟨"SmokeControlModel", "readItem", "()Z"⟩, 35), (⟨"SmokeControlModel", "readWord", "()Z"⟩, 35), (⟨"SmokeControlModel", "seesWord", "()Z"⟩, 35), (⟨"SmokeControlModel", "fails", "(II)Z"⟩, 35), (⟨"SmokeControlModel", "passWord", "()V"⟩, 35), (⟨"SmokeControlModel", "readSetting", "(III)Z"⟩, 35), (⟨"SmokeControlModel", "readNumber", "(II)Z"⟩, 35), (⟨"SmokeControlModel", "readDamper", "()Z"⟩, 35), (⟨"SmokeControlModel", "readKind", "(I)Z"⟩, 35), (⟨"SmokeControlModel", "readKeyword", "(J)Z"⟩, 35), (⟨"SmokeControlModel", "readFan", "()Z"⟩, 35), (⟨"SmokeControlModel", "readDoor", "()Z"⟩, 35), (⟨"SmokeControlModel", "readRule", "()Z"⟩, 35)]
theorem lw_r4 : ∀ q ∈ lw_privs_4, lw_okq q := List.forall_mem_cons.mpr ⟨lw_p48, List.forall_mem_cons.mpr ⟨lw_p49, List.forall_mem_cons.mpr ⟨lw_p50, List.forall_mem_cons.mpr ⟨lw_p51, List.forall_mem_cons.mpr ⟨lw_p52, List.forall_mem_cons.mpr ⟨lw_p53, List.forall_mem_cons.mpr ⟨lw_p54, List.forall_mem_cons.mpr ⟨lw_p55, List.forall_mem_cons.mpr ⟨lw_p56, List.forall_mem_cons.mpr ⟨lw_p57, List.forall_mem_cons.mpr ⟨lw_p58, List.forall_mem_cons.mpr ⟨lw_p59, List.forall_mem_cons.mpr ⟨lw_p60, List.forall_mem_cons.mpr ⟨lw_p61, List.forall_mem_cons.mpr ⟨lw_p62, List.forall_mem_cons.mpr ⟨lw_p63, fun _ h => absurd h List.not_mem_nil⟩⟩⟩⟩⟩⟩⟩⟩⟩⟩⟩⟩⟩⟩⟩⟩
theorem lw_p64 : lw_okq (⟨"SmokeControlModel", "readCondition", "()Z"⟩, 35) := ⟨⟨by decide +kernel, by decide +kernel⟩, List.mem_of_getElem? (i := 1140) (by decide +kernel), List.mem_of_getElem? (i := 1377) (by decide +kernel), List.mem_of_getElem? (i := 1378) (by decide +kernel)⟩
theorem lw_p65 : lw_okq (⟨"SmokeControlModel", "readOpenings", "()Z"⟩, 35) := ⟨⟨by decide +kernel, by decide +kernel⟩, List.mem_of_getElem? (i := 1140) (by decide +kernel), List.mem_of_getElem? (i := 1381) (by decide +kernel), List.mem_of_getElem? (i := 1382) (by decide +kernel)⟩
theorem lw_p66 : lw_okq (⟨"SmokeControlModel", "opens", "(I)Z"⟩, 35) := ⟨⟨by decide +kernel, by decide +kernel⟩, List.mem_of_getElem? (i := 1140) (by decide +kernel), List.mem_of_getElem? (i := 1385) (by decide +kernel), List.mem_of_getElem? (i := 1386) (by decide +kernel)⟩
theorem lw_p67 : lw_okq (⟨"SmokeControlModel", "push", "(I)V"⟩, 35) := ⟨⟨by decide +kernel, by decide +kernel⟩, List.mem_of_getElem? (i := 1140) (by decide +kernel), List.mem_of_getElem? (i := 1389) (by decide +kernel), List.mem_of_getElem? (i := 1390) (by decide +kernel)⟩
theorem lw_p68 : lw_okq (⟨"SmokeControlModel", "passSign", "()V"⟩, 35) := ⟨⟨by decide +kernel, by decide +kernel⟩, List.mem_of_getElem? (i := 1140) (by decide +kernel), List.mem_of_getElem? (i := 1393) (by decide +kernel), List.mem_of_getElem? (i := 1394) (by decide +kernel)⟩
theorem lw_p69 : lw_okq (⟨"SmokeControlModel", "readTest", "()Z"⟩, 35) := ⟨⟨by decide +kernel, by decide +kernel⟩, List.mem_of_getElem? (i := 1140) (by decide +kernel), List.mem_of_getElem? (i := 1398) (by decide +kernel), List.mem_of_getElem? (i := 1399) (by decide +kernel)⟩
theorem lw_p70 : lw_okq (⟨"SmokeControlModel", "readTestOf", "(II)Z"⟩, 35) := ⟨⟨by decide +kernel, by decide +kernel⟩, List.mem_of_getElem? (i := 1140) (by decide +kernel), List.mem_of_getElem? (i := 1403) (by decide +kernel), List.mem_of_getElem? (i := 1404) (by decide +kernel)⟩
theorem lw_p71 : lw_okq (⟨"SmokeControlModel", "emit", "(II)V"⟩, 35) := ⟨⟨by decide +kernel, by decide +kernel⟩, List.mem_of_getElem? (i := 1140) (by decide +kernel), List.mem_of_getElem? (i := 1407) (by decide +kernel), List.mem_of_getElem? (i := 1408) (by decide +kernel)⟩
theorem lw_p72 : lw_okq (⟨"SmokeControlModel", "passClosings", "()V"⟩, 35) := ⟨⟨by decide +kernel, by decide +kernel⟩, List.mem_of_getElem? (i := 1140) (by decide +kernel), List.mem_of_getElem? (i := 1416) (by decide +kernel), List.mem_of_getElem? (i := 1417) (by decide +kernel)⟩
theorem lw_p73 : lw_okq (⟨"SmokeControlModel", "settle", "(I)V"⟩, 35) := ⟨⟨by decide +kernel, by decide +kernel⟩, List.mem_of_getElem? (i := 1140) (by decide +kernel), List.mem_of_getElem? (i := 1420) (by decide +kernel), List.mem_of_getElem? (i := 1421) (by decide +kernel)⟩
theorem lw_p74 : lw_okq (⟨"SmokeControlModel", "isInside", "()Z"⟩, 35) := ⟨⟨by decide +kernel, by decide +kernel⟩, List.mem_of_getElem? (i := 1140) (by decide +kernel), List.mem_of_getElem? (i := 1427) (by decide +kernel), List.mem_of_getElem? (i := 1428) (by decide +kernel)⟩
theorem lw_p75 : lw_okq (⟨"SmokeControlModel", "readAction", "(I)Z"⟩, 35) := ⟨⟨by decide +kernel, by decide +kernel⟩, List.mem_of_getElem? (i := 1140) (by decide +kernel), List.mem_of_getElem? (i := 1434) (by decide +kernel), List.mem_of_getElem? (i := 1435) (by decide +kernel)⟩
theorem lw_p76 : lw_okq (⟨"SmokeControlModel", "actionHere", "()I"⟩, 35) := ⟨⟨by decide +kernel, by decide +kernel⟩, List.mem_of_getElem? (i := 1140) (by decide +kernel), List.mem_of_getElem? (i := 1438) (by decide +kernel), List.mem_of_getElem? (i := 1439) (by decide +kernel)⟩
theorem lw_p77 : lw_okq (⟨"SmokeControlModel", "readSign", "(I)Z"⟩, 35) := ⟨⟨by decide +kernel, by decide +kernel⟩, List.mem_of_getElem? (i := 1140) (by decide +kernel), List.mem_of_getElem? (i := 1449) (by decide +kernel), List.mem_of_getElem? (i := 1450) (by decide +kernel)⟩
theorem lw_p78 : lw_okq (⟨"SmokeControlModel", "passTicks", "(I)I"⟩, 35) := ⟨⟨by decide +kernel, by decide +kernel⟩, List.mem_of_getElem? (i := 1140) (by decide +kernel), List.mem_of_getElem? (i := 1461) (by decide +kernel), List.mem_of_getElem? (i := 1462) (by decide +kernel)⟩
theorem lw_p79 : lw_okq (⟨"SmokeControlModel", "pass", "()V"⟩, 35) := ⟨⟨by decide +kernel, by decide +kernel⟩, List.mem_of_getElem? (i := 1140) (by decide +kernel), List.mem_of_getElem? (i := 1465) (by decide +kernel), List.mem_of_getElem? (i := 1466) (by decide +kernel)⟩
def lw_privs_5 : List (MethodName × Nat) := [(⟨"SmokeControlModel", "readCondition", "()Z"⟩, 35), (⟨"SmokeControlModel", "readOpenings", "()Z"⟩, 35), (⟨"SmokeControlModel", "opens", "(I)Z"⟩, 35), (⟨"SmokeControlModel", "push", "(I)V"⟩, 35), (⟨"SmokeControlModel", "passSign", "()V"⟩, 35), (⟨"SmokeControlModel", "readTest", "()Z"⟩, 35), (⟨"SmokeControlModel", "readTestOf", "(II)Z"⟩, 35), (⟨"SmokeControlModel", "emit", "(II)V"⟩, 35), (⟨"SmokeControlModel", "passClosings", "()V"⟩, 35), (⟨"SmokeControlModel", "settle", "(I)V"⟩, 35), (⟨"SmokeControlModel", "isInside", "()Z"⟩, 35), (⟨"SmokeControlModel", "readAction", "(I)Z"⟩, 35), (⟨"SmokeControlModel", "actionHere", "()I"⟩, 35), (⟨"SmokeControlModel", "readSign", "(I)Z"⟩, 35), (⟨"SmokeControlModel", "passTicks", "(I)I"⟩, 35), (⟨"SmokeControlModel", "pass", "()V"⟩, 35)]
theorem lw_r5 : ∀ q ∈ lw_privs_5, lw_okq q := List.forall_mem_cons.mpr ⟨lw_p64, List.forall_mem_cons.mpr ⟨lw_p65, List.forall_mem_cons.mpr ⟨lw_p66, List.forall_mem_cons.mpr ⟨lw_p67, List.forall_mem_cons.mpr ⟨lw_p68, List.forall_mem_cons.mpr ⟨lw_p69, List.forall_mem_cons.mpr ⟨lw_p70, List.forall_mem_cons.mpr ⟨lw_p71, List.forall_mem_cons.mpr ⟨lw_p72, List.forall_mem_cons.mpr ⟨lw_p73, List.forall_mem_cons.mpr ⟨lw_p74, List.forall_mem_cons.mpr ⟨lw_p75, List.forall_mem_cons.mpr ⟨lw_p76, List.forall_mem_cons.mpr ⟨lw_p77, List.forall_mem_cons.mpr ⟨lw_p78, List.forall_mem_cons.mpr ⟨lw_p79, fun _ h => absurd h List.not_mem_nil⟩⟩⟩⟩⟩⟩⟩⟩⟩⟩⟩⟩⟩⟩⟩⟩
theorem lw_p80 : lw_okq (⟨"SmokeControlModel", "decide", "()V"⟩, 35) := ⟨⟨by decide +kernel, by decide +kernel⟩, List.mem_of_getElem? (i := 1140) (by decide +kernel), List.mem_of_getElem? (i := 1469) (by decide +kernel), List.mem_of_getElem? (i := 1470) (by decide +kernel)⟩
theorem lw_p81 : lw_okq (⟨"SmokeControlModel", "rule", "()V"⟩, 35) := ⟨⟨by decide +kernel, by decide +kernel⟩, List.mem_of_getElem? (i := 1140) (by decide +kernel), List.mem_of_getElem? (i := 1473) (by decide +kernel), List.mem_of_getElem? (i := 1474) (by decide +kernel)⟩
theorem lw_p82 : lw_okq (⟨"SmokeControlModel", "isAlarm", "()Z"⟩, 35) := ⟨⟨by decide +kernel, by decide +kernel⟩, List.mem_of_getElem? (i := 1140) (by decide +kernel), List.mem_of_getElem? (i := 1477) (by decide +kernel), List.mem_of_getElem? (i := 1478) (by decide +kernel)⟩
theorem lw_p83 : lw_okq (⟨"SmokeControlModel", "isHolding", "(I)Z"⟩, 35) := ⟨⟨by decide +kernel, by decide +kernel⟩, List.mem_of_getElem? (i := 1140) (by decide +kernel), List.mem_of_getElem? (i := 1481) (by decide +kernel), List.mem_of_getElem? (i := 1482) (by decide +kernel)⟩
theorem lw_p84 : lw_okq (⟨"SmokeControlModel", "holds", "(II)Z"⟩, 35) := ⟨⟨by decide +kernel, by decide +kernel⟩, List.mem_of_getElem? (i := 1140) (by decide +kernel), List.mem_of_getElem? (i := 1485) (by decide +kernel), List.mem_of_getElem? (i := 1486) (by decide +kernel)⟩
theorem lw_p85 : lw_okq (⟨"SmokeControlModel", "zoneIs", "(II)I"⟩, 35) := ⟨⟨by decide +kernel, by decide +kernel⟩, List.mem_of_getElem? (i := 1140) (by decide +kernel), List.mem_of_getElem? (i := 1489) (by decide +kernel), List.mem_of_getElem? (i := 1490) (by decide +kernel)⟩
theorem lw_p86 : lw_okq (⟨"SmokeControlModel", "fanIs", "(II)I"⟩, 35) := ⟨⟨by decide +kernel, by decide +kernel⟩, List.mem_of_getElem? (i := 1140) (by decide +kernel), List.mem_of_getElem? (i := 1493) (by decide +kernel), List.mem_of_getElem? (i := 1494) (by decide +kernel)⟩
theorem lw_p87 : lw_okq (⟨"SmokeControlModel", "fanOf", "(II)I"⟩, 35) := ⟨⟨by decide +kernel, by decide +kernel⟩, List.mem_of_getElem? (i := 1140) (by decide +kernel), List.mem_of_getElem? (i := 1497) (by decide +kernel), List.mem_of_getElem? (i := 1498) (by decide +kernel)⟩
theorem lw_p88 : lw_okq (⟨"SmokeControlModel", "isTrouble", "()Z"⟩, 35) := ⟨⟨by decide +kernel, by decide +kernel⟩, List.mem_of_getElem? (i := 1140) (by decide +kernel), List.mem_of_getElem? (i := 1501) (by decide +kernel), List.mem_of_getElem? (i := 1502) (by decide +kernel)⟩
theorem lw_p89 : lw_okq (⟨"SmokeControlModel", "damperIs", "(II)I"⟩, 35) := ⟨⟨by decide +kernel, by decide +kernel⟩, List.mem_of_getElem? (i := 1140) (by decide +kernel), List.mem_of_getElem? (i := 1505) (by decide +kernel), List.mem_of_getElem? (i := 1506) (by decide +kernel)⟩
theorem lw_p90 : lw_okq (⟨"SmokeControlModel", "order", "(II)V"⟩, 35) := ⟨⟨by decide +kernel, by decide +kernel⟩, List.mem_of_getElem? (i := 1140) (by decide +kernel), List.mem_of_getElem? (i := 1509) (by decide +kernel), List.mem_of_getElem? (i := 1510) (by decide +kernel)⟩
theorem lw_p91 : lw_okq (⟨"SmokeControlModel", "orderDampers", "(III)V"⟩, 35) := ⟨⟨by decide +kernel, by decide +kernel⟩, List.mem_of_getElem? (i := 1140) (by decide +kernel), List.mem_of_getElem? (i := 1513) (by decide +kernel), List.mem_of_getElem? (i := 1514) (by decide +kernel)⟩
theorem lw_p92 : lw_okq (⟨"SmokeControlModel", "moveDamper", "(I)V"⟩, 35) := ⟨⟨by decide +kernel, by decide +kernel⟩, List.mem_of_getElem? (i := 1140) (by decide +kernel), List.mem_of_getElem? (i := 1523) (by decide +kernel), List.mem_of_getElem? (i := 1524) (by decide +kernel)⟩
theorem lw_p93 : lw_okq (⟨"SmokeControlModel", "record", "(II)V"⟩, 35) := ⟨⟨by decide +kernel, by decide +kernel⟩, List.mem_of_getElem? (i := 1140) (by decide +kernel), List.mem_of_getElem? (i := 1527) (by decide +kernel), List.mem_of_getElem? (i := 1528) (by decide +kernel)⟩
theorem lw_p94 : lw_okq (⟨"SmokeControlModel", "moveFan", "(I)V"⟩, 35) := ⟨⟨by decide +kernel, by decide +kernel⟩, List.mem_of_getElem? (i := 1140) (by decide +kernel), List.mem_of_getElem? (i := 1531) (by decide +kernel), List.mem_of_getElem? (i := 1532) (by decide +kernel)⟩
theorem lw_p95 : lw_okq (⟨"SmokeControlModel", "isClear", "(I)Z"⟩, 35) := ⟨⟨by decide +kernel, by decide +kernel⟩, List.mem_of_getElem? (i := 1140) (by decide +kernel), List.mem_of_getElem? (i := 1535) (by decide +kernel), List.mem_of_getElem? (i := 1536) (by decide +kernel)⟩
def lw_privs_6 : List (MethodName × Nat) := [(⟨"SmokeControlModel", "decide", "()V"⟩, 35), (⟨"SmokeControlModel", "rule", "()V"⟩, 35), (⟨"SmokeControlModel", "isAlarm", "()Z"⟩, 35), (⟨"SmokeControlModel", "isHolding", "(I)Z"⟩, 35), (⟨"SmokeControlModel", "holds", "(II)Z"⟩, 35), (⟨"SmokeControlModel", "zoneIs", "(II)I"⟩, 35), (⟨"SmokeControlModel", "fanIs", "(II)I"⟩, 35), (⟨"SmokeControlModel", "fanOf", "(II)I"⟩, 35), (⟨"SmokeControlModel", "isTrouble", "()Z"⟩, 35), (⟨"SmokeControlModel", "damperIs", "(II)I"⟩, 35), (⟨"SmokeControlModel", "order", "(II)V"⟩, 35), (⟨"SmokeControlModel", "orderDampers", "(III)V"⟩, 35), (⟨"SmokeControlModel", "moveDamper", "(I)V"⟩, 35), (⟨"SmokeControlModel", "record", "(II)V"⟩, 35), (⟨"SmokeControlModel", "moveFan", "(I)V"⟩, 35), (⟨"SmokeControlModel", "isClear", "(I)Z"⟩, 35)]
theorem lw_r6 : ∀ q ∈ lw_privs_6, lw_okq q := List.forall_mem_cons.mpr ⟨lw_p80, List.forall_mem_cons.mpr ⟨lw_p81, List.forall_mem_cons.mpr ⟨lw_p82, List.forall_mem_cons.mpr ⟨lw_p83, List.forall_mem_cons.mpr ⟨lw_p84, List.forall_mem_cons.mpr ⟨lw_p85, List.forall_mem_cons.mpr ⟨lw_p86, List.forall_mem_cons.mpr ⟨lw_p87, List.forall_mem_cons.mpr ⟨lw_p88, List.forall_mem_cons.mpr ⟨lw_p89, List.forall_mem_cons.mpr ⟨lw_p90, List.forall_mem_cons.mpr ⟨lw_p91, List.forall_mem_cons.mpr ⟨lw_p92, List.forall_mem_cons.mpr ⟨lw_p93, List.forall_mem_cons.mpr ⟨lw_p94, List.forall_mem_cons.mpr ⟨lw_p95, fun _ h => absurd h List.not_mem_nil⟩⟩⟩⟩⟩⟩⟩⟩⟩⟩⟩⟩⟩⟩⟩⟩
theorem lw_p96 : lw_okq (⟨"SmokeControlModel", "openOf", "(I)I"⟩, 35) := ⟨⟨by decide +kernel, by decide +kernel⟩, List.mem_of_getElem? (i := 1140) (by decide +kernel), List.mem_of_getElem? (i := 1539) (by decide +kernel), List.mem_of_getElem? (i := 1540) (by decide +kernel)⟩
theorem lw_p97 : lw_okq (⟨"SmokeControlModel", "isOpen", "(I)Z"⟩, 35) := ⟨⟨by decide +kernel, by decide +kernel⟩, List.mem_of_getElem? (i := 1140) (by decide +kernel), List.mem_of_getElem? (i := 1543) (by decide +kernel), List.mem_of_getElem? (i := 1544) (by decide +kernel)⟩
theorem lw_p98 : lw_okq (⟨"SmokeControlModel", "putFan", "(III)V"⟩, 35) := ⟨⟨by decide +kernel, by decide +kernel⟩, List.mem_of_getElem? (i := 1140) (by decide +kernel), List.mem_of_getElem? (i := 1553) (by decide +kernel), List.mem_of_getElem? (i := 1554) (by decide +kernel)⟩
theorem lw_p99 : lw_okq (⟨"SmokeControlModel", "pressStair", "()V"⟩, 35) := ⟨⟨by decide +kernel, by decide +kernel⟩, List.mem_of_getElem? (i := 1140) (by decide +kernel), List.mem_of_getElem? (i := 1557) (by decide +kernel), List.mem_of_getElem? (i := 1558) (by decide +kernel)⟩
theorem lw_p100 : lw_okq (⟨"SmokeControlModel", "stairAir", "()I"⟩, 35) := ⟨⟨by decide +kernel, by decide +kernel⟩, List.mem_of_getElem? (i := 1140) (by decide +kernel), List.mem_of_getElem? (i := 1561) (by decide +kernel), List.mem_of_getElem? (i := 1562) (by decide +kernel)⟩
theorem lw_p101 : lw_okq (⟨"SmokeControlModel", "airOf", "(I)I"⟩, 35) := ⟨⟨by decide +kernel, by decide +kernel⟩, List.mem_of_getElem? (i := 1140) (by decide +kernel), List.mem_of_getElem? (i := 1565) (by decide +kernel), List.mem_of_getElem? (i := 1566) (by decide +kernel)⟩
theorem lw_p102 : lw_okq (⟨"SmokeControlModel", "openDoors", "()I"⟩, 35) := ⟨⟨by decide +kernel, by decide +kernel⟩, List.mem_of_getElem? (i := 1140) (by decide +kernel), List.mem_of_getElem? (i := 1569) (by decide +kernel), List.mem_of_getElem? (i := 1570) (by decide +kernel)⟩
theorem lw_p103 : lw_okq (⟨"SmokeControlModel", "areaOf", "(I)I"⟩, 35) := ⟨⟨by decide +kernel, by decide +kernel⟩, List.mem_of_getElem? (i := 1140) (by decide +kernel), List.mem_of_getElem? (i := 1573) (by decide +kernel), List.mem_of_getElem? (i := 1574) (by decide +kernel)⟩
theorem lw_p104 : lw_okq (⟨"SmokeControlModel", "doorOf", "(II)I"⟩, 35) := ⟨⟨by decide +kernel, by decide +kernel⟩, List.mem_of_getElem? (i := 1140) (by decide +kernel), List.mem_of_getElem? (i := 1577) (by decide +kernel), List.mem_of_getElem? (i := 1578) (by decide +kernel)⟩
theorem lw_p105 : lw_okq (⟨"SmokeControlModel", "isStairWanted", "()Z"⟩, 35) := ⟨⟨by decide +kernel, by decide +kernel⟩, List.mem_of_getElem? (i := 1140) (by decide +kernel), List.mem_of_getElem? (i := 1584) (by decide +kernel), List.mem_of_getElem? (i := 1585) (by decide +kernel)⟩
theorem lw_p106 : lw_okq (⟨"SmokeControlModel", "spreadSmoke", "()V"⟩, 35) := ⟨⟨by decide +kernel, by decide +kernel⟩, List.mem_of_getElem? (i := 1140) (by decide +kernel), List.mem_of_getElem? (i := 1588) (by decide +kernel), List.mem_of_getElem? (i := 1589) (by decide +kernel)⟩
theorem lw_p107 : lw_okq (⟨"SmokeControlModel", "airTo", "(II)I"⟩, 35) := ⟨⟨by decide +kernel, by decide +kernel⟩, List.mem_of_getElem? (i := 1140) (by decide +kernel), List.mem_of_getElem? (i := 1592) (by decide +kernel), List.mem_of_getElem? (i := 1593) (by decide +kernel)⟩
theorem lw_p108 : lw_okq (⟨"SmokeControlModel", "drain", "(II)V"⟩, 35) := ⟨⟨by decide +kernel, by decide +kernel⟩, List.mem_of_getElem? (i := 1140) (by decide +kernel), List.mem_of_getElem? (i := 1596) (by decide +kernel), List.mem_of_getElem? (i := 1597) (by decide +kernel)⟩
theorem lw_p109 : lw_okq (⟨"SmokeControlModel", "putZone", "(III)V"⟩, 35) := ⟨⟨by decide +kernel, by decide +kernel⟩, List.mem_of_getElem? (i := 1140) (by decide +kernel), List.mem_of_getElem? (i := 1600) (by decide +kernel), List.mem_of_getElem? (i := 1601) (by decide +kernel)⟩
theorem lw_p110 : lw_okq (⟨"SmokeControlModel", "leakSmoke", "()V"⟩, 35) := ⟨⟨by decide +kernel, by decide +kernel⟩, List.mem_of_getElem? (i := 1140) (by decide +kernel), List.mem_of_getElem? (i := 1604) (by decide +kernel), List.mem_of_getElem? (i := 1605) (by decide +kernel)⟩
theorem lw_p111 : lw_okq (⟨"SmokeControlModel", "raiseAlarms", "()V"⟩, 35) := ⟨⟨by decide +kernel, by decide +kernel⟩, List.mem_of_getElem? (i := 1140) (by decide +kernel), List.mem_of_getElem? (i := 1608) (by decide +kernel), List.mem_of_getElem? (i := 1609) (by decide +kernel)⟩
def lw_privs_7 : List (MethodName × Nat) := [(⟨"SmokeControlModel", "openOf", "(I)I"⟩, 35), (⟨"SmokeControlModel", "isOpen", "(I)Z"⟩, 35), (⟨"SmokeControlModel", "putFan", "(III)V"⟩, 35), (⟨"SmokeControlModel", "pressStair", "()V"⟩, 35), (⟨"SmokeControlModel", "stairAir", "()I"⟩, 35), (⟨"SmokeControlModel", "airOf", "(I)I"⟩, 35), (⟨"SmokeControlModel", "openDoors", "()I"⟩, 35), (⟨"SmokeControlModel", "areaOf", "(I)I"⟩, 35), (⟨"SmokeControlModel", "doorOf", "(II)I"⟩, 35), (⟨"SmokeControlModel", "isStairWanted", "()Z"⟩, 35), (⟨"SmokeControlModel", "spreadSmoke", "()V"⟩, 35), (⟨"SmokeControlModel", "airTo", "(II)I"⟩, 35), (⟨"SmokeControlModel", "drain", "(II)V"⟩, 35), (⟨"SmokeControlModel", "putZone", "(III)V"⟩, 35), (⟨"SmokeControlModel", "leakSmoke", "()V"⟩, 35), (⟨"SmokeControlModel", "raiseAlarms", "()V"⟩, 35)]
theorem lw_r7 : ∀ q ∈ lw_privs_7, lw_okq q := List.forall_mem_cons.mpr ⟨lw_p96, List.forall_mem_cons.mpr ⟨lw_p97, List.forall_mem_cons.mpr ⟨lw_p98, List.forall_mem_cons.mpr ⟨lw_p99, List.forall_mem_cons.mpr ⟨lw_p100, List.forall_mem_cons.mpr ⟨lw_p101, List.forall_mem_cons.mpr ⟨lw_p102, List.forall_mem_cons.mpr ⟨lw_p103, List.forall_mem_cons.mpr ⟨lw_p104, List.forall_mem_cons.mpr ⟨lw_p105, List.forall_mem_cons.mpr ⟨lw_p106, List.forall_mem_cons.mpr ⟨lw_p107, List.forall_mem_cons.mpr ⟨lw_p108, List.forall_mem_cons.mpr ⟨lw_p109, List.forall_mem_cons.mpr ⟨lw_p110, List.forall_mem_cons.mpr ⟨lw_p111, fun _ h => absurd h List.not_mem_nil⟩⟩⟩⟩⟩⟩⟩⟩⟩⟩⟩⟩⟩⟩⟩⟩
theorem lw_p112 : lw_okq (⟨"SmokeControlModel", "isZone", "(I)Z"⟩, 35) := ⟨⟨by decide +kernel, by decide +kernel⟩, List.mem_of_getElem? (i := 1140) (by decide +kernel), List.mem_of_getElem? (i := 1616) (by decide +kernel), List.mem_of_getElem? (i := 1617) (by decide +kernel)⟩
theorem lw_p113 : lw_okq (⟨"SmokeControlModel", "flip", "(IZ)I"⟩, 35) := ⟨⟨by decide +kernel, by decide +kernel⟩, List.mem_of_getElem? (i := 1140) (by decide +kernel), List.mem_of_getElem? (i := 1624) (by decide +kernel), List.mem_of_getElem? (i := 1625) (by decide +kernel)⟩
theorem lw_p114 : lw_okq (⟨"SmokeControlModel", "isDoor", "(I)Z"⟩, 35) := ⟨⟨by decide +kernel, by decide +kernel⟩, List.mem_of_getElem? (i := 1140) (by decide +kernel), List.mem_of_getElem? (i := 1632) (by decide +kernel), List.mem_of_getElem? (i := 1633) (by decide +kernel)⟩
theorem lw_p115 : lw_okq (⟨"SmokeControlModel", "isDamper", "(I)Z"⟩, 35) := ⟨⟨by decide +kernel, by decide +kernel⟩, List.mem_of_getElem? (i := 1140) (by decide +kernel), List.mem_of_getElem? (i := 1640) (by decide +kernel), List.mem_of_getElem? (i := 1641) (by decide +kernel)⟩
theorem lw_p116 : lw_okq (⟨"SmokeControlModel", "isFan", "(I)Z"⟩, 35) := ⟨⟨by decide +kernel, by decide +kernel⟩, List.mem_of_getElem? (i := 1140) (by decide +kernel), List.mem_of_getElem? (i := 1648) (by decide +kernel), List.mem_of_getElem? (i := 1649) (by decide +kernel)⟩
theorem lw_p117 : lw_okq (⟨"SmokeControlModel", "set", "(ZII)I"⟩, 35) := ⟨⟨by decide +kernel, by decide +kernel⟩, List.mem_of_getElem? (i := 1140) (by decide +kernel), List.mem_of_getElem? (i := 1660) (by decide +kernel), List.mem_of_getElem? (i := 1661) (by decide +kernel)⟩
theorem lw_p118 : lw_okq (⟨"SmokeControlModel", "putAside", "()V"⟩, 35) := ⟨⟨by decide +kernel, by decide +kernel⟩, List.mem_of_getElem? (i := 1140) (by decide +kernel), List.mem_of_getElem? (i := 1736) (by decide +kernel), List.mem_of_getElem? (i := 1737) (by decide +kernel)⟩
theorem lw_p119 : lw_okq (⟨"SmokeControlModel", "putBack", "()V"⟩, 35) := ⟨⟨by decide +kernel, by decide +kernel⟩, List.mem_of_getElem? (i := 1140) (by decide +kernel), List.mem_of_getElem? (i := 1740) (by decide +kernel), List.mem_of_getElem? (i := 1741) (by decide +kernel)⟩
theorem lw_p120 : lw_okq (⟨"SmokeControlModel", "allSmoke", "()I"⟩, 35) := ⟨⟨by decide +kernel, by decide +kernel⟩, List.mem_of_getElem? (i := 1140) (by decide +kernel), List.mem_of_getElem? (i := 1748) (by decide +kernel), List.mem_of_getElem? (i := 1749) (by decide +kernel)⟩
theorem lw_p121 : lw_okq (⟨"SmokeControlModel", "ticksUntil", "(III)I"⟩, 35) := ⟨⟨by decide +kernel, by decide +kernel⟩, List.mem_of_getElem? (i := 1140) (by decide +kernel), List.mem_of_getElem? (i := 1760) (by decide +kernel), List.mem_of_getElem? (i := 1761) (by decide +kernel)⟩
theorem lw_p122 : lw_okq (⟨"SmokeControlModel", "isBelow", "(III)Z"⟩, 35) := ⟨⟨by decide +kernel, by decide +kernel⟩, List.mem_of_getElem? (i := 1140) (by decide +kernel), List.mem_of_getElem? (i := 1764) (by decide +kernel), List.mem_of_getElem? (i := 1765) (by decide +kernel)⟩
theorem lw_p123 : lw_okq (⟨"SmokeControlModel", "smokeWith", "(III)I"⟩, 35) := ⟨⟨by decide +kernel, by decide +kernel⟩, List.mem_of_getElem? (i := 1140) (by decide +kernel), List.mem_of_getElem? (i := 1772) (by decide +kernel), List.mem_of_getElem? (i := 1773) (by decide +kernel)⟩
theorem lw_p124 : lw_okq (⟨"SmokeControlModel", "openAll", "(I)V"⟩, 35) := ⟨⟨by decide +kernel, by decide +kernel⟩, List.mem_of_getElem? (i := 1140) (by decide +kernel), List.mem_of_getElem? (i := 1780) (by decide +kernel), List.mem_of_getElem? (i := 1781) (by decide +kernel)⟩
theorem lw_p125 : lw_okq (⟨"SmokeControlModel", "pressureOf", "(I)I"⟩, 35) := ⟨⟨by decide +kernel, by decide +kernel⟩, List.mem_of_getElem? (i := 1140) (by decide +kernel), List.mem_of_getElem? (i := 1788) (by decide +kernel), List.mem_of_getElem? (i := 1789) (by decide +kernel)⟩
theorem lw_p126 : lw_okq (⟨"SmokeControlModel", "fullFlow", "()I"⟩, 35) := ⟨⟨by decide +kernel, by decide +kernel⟩, List.mem_of_getElem? (i := 1140) (by decide +kernel), List.mem_of_getElem? (i := 1792) (by decide +kernel), List.mem_of_getElem? (i := 1793) (by decide +kernel)⟩
def lw_privs_8 : List (MethodName × Nat) := [(⟨"SmokeControlModel", "isZone", "(I)Z"⟩, 35), (⟨"SmokeControlModel", "flip", "(IZ)I"⟩, 35), (⟨"SmokeControlModel", "isDoor", "(I)Z"⟩, 35), (⟨"SmokeControlModel", "isDamper", "(I)Z"⟩, 35), (⟨"SmokeControlModel", "isFan", "(I)Z"⟩, 35), (⟨"SmokeControlModel", "set", "(ZII)I"⟩, 35), (⟨"SmokeControlModel", "putAside", "()V"⟩, 35), (⟨"SmokeControlModel", "putBack", "()V"⟩, 35), (⟨"SmokeControlModel", "allSmoke", "()I"⟩, 35), (⟨"SmokeControlModel", "ticksUntil", "(III)I"⟩, 35), (⟨"SmokeControlModel", "isBelow", "(III)Z"⟩, 35), (⟨"SmokeControlModel", "smokeWith", "(III)I"⟩, 35), (⟨"SmokeControlModel", "openAll", "(I)V"⟩, 35), (⟨"SmokeControlModel", "pressureOf", "(I)I"⟩, 35), (⟨"SmokeControlModel", "fullFlow", "()I"⟩, 35)]
theorem lw_r8 : ∀ q ∈ lw_privs_8, lw_okq q := List.forall_mem_cons.mpr ⟨lw_p112, List.forall_mem_cons.mpr ⟨lw_p113, List.forall_mem_cons.mpr ⟨lw_p114, List.forall_mem_cons.mpr ⟨lw_p115, List.forall_mem_cons.mpr ⟨lw_p116, List.forall_mem_cons.mpr ⟨lw_p117, List.forall_mem_cons.mpr ⟨lw_p118, List.forall_mem_cons.mpr ⟨lw_p119, List.forall_mem_cons.mpr ⟨lw_p120, List.forall_mem_cons.mpr ⟨lw_p121, List.forall_mem_cons.mpr ⟨lw_p122, List.forall_mem_cons.mpr ⟨lw_p123, List.forall_mem_cons.mpr ⟨lw_p124, List.forall_mem_cons.mpr ⟨lw_p125, List.forall_mem_cons.mpr ⟨lw_p126, fun _ h => absurd h List.not_mem_nil⟩⟩⟩⟩⟩⟩⟩⟩⟩⟩⟩⟩⟩⟩⟩
def lw_privs : List (MethodName × Nat) := lw_privs_1 ++ (lw_privs_2 ++ (lw_privs_3 ++ (lw_privs_4 ++ (lw_privs_5 ++ (lw_privs_6 ++ (lw_privs_7 ++ (lw_privs_8)))))))
def lw_tbl : List Cond := k2_sels lw_privs ++ tables_1
theorem lw_privs_ok : ∀ q ∈ lw_privs, lw_okq q := by
  show ∀ q ∈ lw_privs_1 ++ (lw_privs_2 ++ (lw_privs_3 ++ (lw_privs_4 ++ (lw_privs_5 ++ (lw_privs_6 ++ (lw_privs_7 ++ (lw_privs_8))))))), lw_okq q
  exact List.forall_mem_append.mpr ⟨lw_r1, List.forall_mem_append.mpr ⟨lw_r2, List.forall_mem_append.mpr ⟨lw_r3, List.forall_mem_append.mpr ⟨lw_r4, List.forall_mem_append.mpr ⟨lw_r5, List.forall_mem_append.mpr ⟨lw_r6, List.forall_mem_append.mpr ⟨lw_r7, lw_r8⟩⟩⟩⟩⟩⟩⟩
def sm_R0 : String := "SmokeControl$Alarms"
def sm_F0 : u_T := fun k => match k with
  | 0 => ("SmokeControl$Alarms", "on", "I", false)
  | 1 => ("SmokeControl$Alarms", "disabled", "I", false)
  | 2 => ("SmokeControl$Alarms", "first", "I", false)
  | _ => ("SmokeControl$Alarms", "since", "I", false)
def sm_t0 : Nat → FieldType := fun k => match k with
  | 0 => .int
  | 1 => .int
  | 2 => .int
  | _ => .int
theorem sm_n0 : ∀ a, a < 4 → ∀ b, b < 4 → a ≠ b → (sm_F0 a).2.1 ≠ (sm_F0 b).2.1 := by decide +kernel
theorem sm_t0_ok : ∀ k, k < 4 → parseFieldDescriptor (sm_F0 k).2.2.1 = some (sm_t0 k) := by decide +kernel
def sm_R1 : String := "SmokeControl$Commands"
def sm_F1 : u_T := fun k => match k with
  | 0 => ("SmokeControl$Commands", "ruled", "[I", true)
  | 1 => ("SmokeControl$Commands", "command", "[I", true)
  | _ => ("SmokeControl$Commands", "source", "[I", true)
def sm_t1 : Nat → FieldType := fun k => match k with
  | 0 => .array .int
  | 1 => .array .int
  | _ => .array .int
theorem sm_n1 : ∀ a, a < 3 → ∀ b, b < 3 → a ≠ b → (sm_F1 a).2.1 ≠ (sm_F1 b).2.1 := by decide +kernel
theorem sm_t1_ok : ∀ k, k < 3 → parseFieldDescriptor (sm_F1 k).2.2.1 = some (sm_t1 k) := by decide +kernel
def sm_R2 : String := "SmokeControl$Engine"
def sm_F2 : u_T := fun k => match k with
  | 0 => ("SmokeControl$Engine", "commands", "LSmokeControl$Commands;", true)
  | 1 => ("SmokeControl$Engine", "supplies", "[I", true)
  | 2 => ("SmokeControl$Engine", "exhausts", "[I", true)
  | _ => ("SmokeControl$Engine", "gains", "[I", true)
def sm_t2 : Nat → FieldType := fun k => match k with
  | 0 => .object "SmokeControl$Commands"
  | 1 => .array .int
  | 2 => .array .int
  | _ => .array .int
theorem sm_n2 : ∀ a, a < 4 → ∀ b, b < 4 → a ≠ b → (sm_F2 a).2.1 ≠ (sm_F2 b).2.1 := by decide +kernel
theorem sm_t2_ok : ∀ k, k < 4 → parseFieldDescriptor (sm_F2 k).2.2.1 = some (sm_t2 k) := by decide +kernel
def sm_R3 : String := "SmokeControl$Log"
def sm_F3 : u_T := fun k => match k with
  | 0 => ("SmokeControl$Log", "total", "I", false)
  | 1 => ("SmokeControl$Log", "time", "[I", true)
  | 2 => ("SmokeControl$Log", "code", "[I", true)
  | _ => ("SmokeControl$Log", "number", "[I", true)
def sm_t3 : Nat → FieldType := fun k => match k with
  | 0 => .int
  | 1 => .array .int
  | 2 => .array .int
  | _ => .array .int
theorem sm_n3 : ∀ a, a < 4 → ∀ b, b < 4 → a ≠ b → (sm_F3 a).2.1 ≠ (sm_F3 b).2.1 := by decide +kernel
theorem sm_t3_ok : ∀ k, k < 4 → parseFieldDescriptor (sm_F3 k).2.2.1 = some (sm_t3 k) := by decide +kernel
def sm_R4 : String := "SmokeControl$Plant"
def sm_F4 : u_T := fun k => match k with
  | 0 => ("SmokeControl$Plant", "zones", "I", false)
  | 1 => ("SmokeControl$Plant", "dampers", "I", false)
  | 2 => ("SmokeControl$Plant", "fans", "I", false)
  | 3 => ("SmokeControl$Plant", "doors", "I", false)
  | 4 => ("SmokeControl$Plant", "target", "I", false)
  | 5 => ("SmokeControl$Plant", "proof", "I", false)
  | 6 => ("SmokeControl$Plant", "normallyOpen", "I", false)
  | 7 => ("SmokeControl$Plant", "kind", "[I", true)
  | 8 => ("SmokeControl$Plant", "span", "[I", true)
  | 9 => ("SmokeControl$Plant", "damperZone", "[I", true)
  | 10 => ("SmokeControl$Plant", "flow", "[I", true)
  | 11 => ("SmokeControl$Plant", "list", "[I", true)
  | 12 => ("SmokeControl$Plant", "doorZone", "[I", true)
  | 13 => ("SmokeControl$Plant", "shutArea", "[I", true)
  | 14 => ("SmokeControl$Plant", "openArea", "[I", true)
  | _ => ("SmokeControl$Plant", "rules", "LSmokeControl$RuleBook;", true)
def sm_t4 : Nat → FieldType := fun k => match k with
  | 0 => .int
  | 1 => .int
  | 2 => .int
  | 3 => .int
  | 4 => .int
  | 5 => .int
  | 6 => .int
  | 7 => .array .int
  | 8 => .array .int
  | 9 => .array .int
  | 10 => .array .int
  | 11 => .array .int
  | 12 => .array .int
  | 13 => .array .int
  | 14 => .array .int
  | _ => .object "SmokeControl$RuleBook"
theorem sm_n4 : ∀ a, a < 16 → ∀ b, b < 16 → a ≠ b → (sm_F4 a).2.1 ≠ (sm_F4 b).2.1 := by decide +kernel
theorem sm_t4_ok : ∀ k, k < 16 → parseFieldDescriptor (sm_F4 k).2.2.1 = some (sm_t4 k) := by decide +kernel
def sm_R5 : String := "SmokeControl$Reader"
def sm_F5 : u_T := fun k => match k with
  | 0 => ("SmokeControl$Reader", "text", "LSmokeControl$Text;", true)
  | 1 => ("SmokeControl$Reader", "plant", "LSmokeControl$Plant;", false)
  | 2 => ("SmokeControl$Reader", "errorFound", "I", false)
  | 3 => ("SmokeControl$Reader", "errorPlace", "I", false)
  | 4 => ("SmokeControl$Reader", "targetSeen", "Z", false)
  | _ => ("SmokeControl$Reader", "proofSeen", "Z", false)
def sm_t5 : Nat → FieldType := fun k => match k with
  | 0 => .object "SmokeControl$Text"
  | 1 => .object "SmokeControl$Plant"
  | 2 => .int
  | 3 => .int
  | 4 => .boolean
  | _ => .boolean
theorem sm_n5 : ∀ a, a < 6 → ∀ b, b < 6 → a ≠ b → (sm_F5 a).2.1 ≠ (sm_F5 b).2.1 := by decide +kernel
theorem sm_t5_ok : ∀ k, k < 6 → parseFieldDescriptor (sm_F5 k).2.2.1 = some (sm_t5 k) := by decide +kernel
def sm_R6 : String := "SmokeControl$RuleBook"
def sm_F6 : u_T := fun k => match k with
  | 0 => ("SmokeControl$RuleBook", "rules", "I", false)
  | 1 => ("SmokeControl$RuleBook", "codes", "I", false)
  | 2 => ("SmokeControl$RuleBook", "actions", "I", false)
  | 3 => ("SmokeControl$RuleBook", "code", "[I", true)
  | 4 => ("SmokeControl$RuleBook", "codeNumber", "[I", true)
  | 5 => ("SmokeControl$RuleBook", "codeEnd", "[I", true)
  | 6 => ("SmokeControl$RuleBook", "action", "[I", true)
  | 7 => ("SmokeControl$RuleBook", "actionNumber", "[I", true)
  | _ => ("SmokeControl$RuleBook", "actionEnd", "[I", true)
def sm_t6 : Nat → FieldType := fun k => match k with
  | 0 => .int
  | 1 => .int
  | 2 => .int
  | 3 => .array .int
  | 4 => .array .int
  | 5 => .array .int
  | 6 => .array .int
  | 7 => .array .int
  | _ => .array .int
theorem sm_n6 : ∀ a, a < 9 → ∀ b, b < 9 → a ≠ b → (sm_F6 a).2.1 ≠ (sm_F6 b).2.1 := by decide +kernel
theorem sm_t6_ok : ∀ k, k < 9 → parseFieldDescriptor (sm_F6 k).2.2.1 = some (sm_t6 k) := by decide +kernel
def sm_R7 : String := "SmokeControl$State"
def sm_F7 : u_T := fun k => match k with
  | 0 => ("SmokeControl$State", "plant", "LSmokeControl$Plant;", false)
  | 1 => ("SmokeControl$State", "time", "I", false)
  | 2 => ("SmokeControl$State", "key", "Z", false)
  | 3 => ("SmokeControl$State", "pressure", "I", false)
  | 4 => ("SmokeControl$State", "throttle", "I", false)
  | 5 => ("SmokeControl$State", "stairSmoke", "I", false)
  | 6 => ("SmokeControl$State", "openDoors", "I", false)
  | 7 => ("SmokeControl$State", "faulty", "I", false)
  | 8 => ("SmokeControl$State", "trouble", "I", false)
  | 9 => ("SmokeControl$State", "smoke", "[I", true)
  | 10 => ("SmokeControl$State", "sources", "[I", true)
  | 11 => ("SmokeControl$State", "position", "[I", true)
  | 12 => ("SmokeControl$State", "switches", "[I", true)
  | 13 => ("SmokeControl$State", "operator", "[I", true)
  | 14 => ("SmokeControl$State", "previous", "[I", true)
  | 15 => ("SmokeControl$State", "timer", "[I", true)
  | 16 => ("SmokeControl$State", "alarms", "LSmokeControl$Alarms;", true)
  | _ => ("SmokeControl$State", "log", "LSmokeControl$Log;", true)
def sm_t7 : Nat → FieldType := fun k => match k with
  | 0 => .object "SmokeControl$Plant"
  | 1 => .int
  | 2 => .boolean
  | 3 => .int
  | 4 => .int
  | 5 => .int
  | 6 => .int
  | 7 => .int
  | 8 => .int
  | 9 => .array .int
  | 10 => .array .int
  | 11 => .array .int
  | 12 => .array .int
  | 13 => .array .int
  | 14 => .array .int
  | 15 => .array .int
  | 16 => .object "SmokeControl$Alarms"
  | _ => .object "SmokeControl$Log"
theorem sm_n7 : ∀ a, a < 18 → ∀ b, b < 18 → a ≠ b → (sm_F7 a).2.1 ≠ (sm_F7 b).2.1 := by decide +kernel
theorem sm_t7_ok : ∀ k, k < 18 → parseFieldDescriptor (sm_F7 k).2.2.1 = some (sm_t7 k) := by decide +kernel
def sm_R8 : String := "SmokeControl$Text"
def sm_F8 : u_T := fun k => match k with
  | 0 => ("SmokeControl$Text", "bytes", "[B", true)
  | 1 => ("SmokeControl$Text", "fed", "I", false)
  | 2 => ("SmokeControl$Text", "kind", "[I", true)
  | 3 => ("SmokeControl$Text", "start", "[I", true)
  | 4 => ("SmokeControl$Text", "size", "[I", true)
  | 5 => ("SmokeControl$Text", "value", "[I", true)
  | 6 => ("SmokeControl$Text", "tokens", "I", false)
  | _ => ("SmokeControl$Text", "at", "I", false)
def sm_t8 : Nat → FieldType := fun k => match k with
  | 0 => .array .byte
  | 1 => .int
  | 2 => .array .int
  | 3 => .array .int
  | 4 => .array .int
  | 5 => .array .int
  | 6 => .int
  | _ => .int
theorem sm_n8 : ∀ a, a < 8 → ∀ b, b < 8 → a ≠ b → (sm_F8 a).2.1 ≠ (sm_F8 b).2.1 := by decide +kernel
theorem sm_t8_ok : ∀ k, k < 8 → parseFieldDescriptor (sm_F8 k).2.2.1 = some (sm_t8 k) := by decide +kernel
def sm_R9 : String := "SmokeControl"
def sm_F9 : u_T := fun k => match k with
  | 0 => ("SmokeControl", "reader", "LSmokeControl$Reader;", true)
  | 1 => ("SmokeControl", "now", "LSmokeControl$State;", true)
  | 2 => ("SmokeControl", "trial", "LSmokeControl$State;", true)
  | 3 => ("SmokeControl", "slots", "[LSmokeControl$State;", true)
  | 4 => ("SmokeControl", "filledSlots", "I", false)
  | _ => ("SmokeControl", "engine", "LSmokeControl$Engine;", true)
def sm_t9 : Nat → FieldType := fun k => match k with
  | 0 => .object "SmokeControl$Reader"
  | 1 => .object "SmokeControl$State"
  | 2 => .object "SmokeControl$State"
  | 3 => .array (.object "SmokeControl$State")
  | 4 => .int
  | _ => .object "SmokeControl$Engine"
theorem sm_n9 : ∀ a, a < 6 → ∀ b, b < 6 → a ≠ b → (sm_F9 a).2.1 ≠ (sm_F9 b).2.1 := by decide +kernel
theorem sm_t9_ok : ∀ k, k < 6 → parseFieldDescriptor (sm_F9 k).2.2.1 = some (sm_t9 k) := by decide +kernel
def sm_R10 : String := "SmokeControlModel"
def sm_F10 : u_T := fun k => match k with
  | 0 => ("SmokeControlModel", "plan", "[I", true)
  | 1 => ("SmokeControlModel", "fresh", "[I", true)
  | 2 => ("SmokeControlModel", "now", "[I", true)
  | 3 => ("SmokeControlModel", "aside", "[I", true)
  | 4 => ("SmokeControlModel", "slots", "[I", true)
  | 5 => ("SmokeControlModel", "filled0", "Z", false)
  | 6 => ("SmokeControlModel", "filled1", "Z", false)
  | 7 => ("SmokeControlModel", "filled2", "Z", false)
  | 8 => ("SmokeControlModel", "buffer", "[I", true)
  | 9 => ("SmokeControlModel", "buffered", "I", false)
  | 10 => ("SmokeControlModel", "position", "I", false)
  | 11 => ("SmokeControlModel", "end", "I", false)
  | 12 => ("SmokeControlModel", "lastEnd", "I", false)
  | 13 => ("SmokeControlModel", "tokenAt", "I", false)
  | 14 => ("SmokeControlModel", "value", "I", false)
  | 15 => ("SmokeControlModel", "code", "I", false)
  | 16 => ("SmokeControlModel", "codeAt", "I", false)
  | 17 => ("SmokeControlModel", "word", "J", false)
  | 18 => ("SmokeControlModel", "waits", "[I", true)
  | 19 => ("SmokeControlModel", "waiting", "I", false)
  | 20 => ("SmokeControlModel", "open", "I", false)
  | 21 => ("SmokeControlModel", "hasTarget", "Z", false)
  | 22 => ("SmokeControlModel", "hasProof", "Z", false)
  | 23 => ("SmokeControlModel", "items", "I", false)
  | 24 => ("SmokeControlModel", "stack", "[Z", true)
  | 25 => ("SmokeControlModel", "ruled", "[I", true)
  | 26 => ("SmokeControlModel", "ruledFan", "[I", true)
  | 27 => ("SmokeControlModel", "command", "[I", true)
  | 28 => ("SmokeControlModel", "source", "[I", true)
  | 29 => ("SmokeControlModel", "fanCommand", "[I", true)
  | 30 => ("SmokeControlModel", "fanSource", "[I", true)
  | 31 => ("SmokeControlModel", "stairFlow", "I", false)
  | 32 => ("SmokeControlModel", "smokeBy", "[I", true)
  | 33 => ("SmokeControlModel", "smokeThen", "[I", true)
  | _ => ("SmokeControlModel", "net", "[I", true)
def sm_t10 : Nat → FieldType := fun k => match k with
  | 0 => .array .int
  | 1 => .array .int
  | 2 => .array .int
  | 3 => .array .int
  | 4 => .array .int
  | 5 => .boolean
  | 6 => .boolean
  | 7 => .boolean
  | 8 => .array .int
  | 9 => .int
  | 10 => .int
  | 11 => .int
  | 12 => .int
  | 13 => .int
  | 14 => .int
  | 15 => .int
  | 16 => .int
  | 17 => .long
  | 18 => .array .int
  | 19 => .int
  | 20 => .int
  | 21 => .boolean
  | 22 => .boolean
  | 23 => .int
  | 24 => .array .boolean
  | 25 => .array .int
  | 26 => .array .int
  | 27 => .array .int
  | 28 => .array .int
  | 29 => .array .int
  | 30 => .array .int
  | 31 => .int
  | 32 => .array .int
  | 33 => .array .int
  | _ => .array .int
theorem sm_n10 : ∀ a, a < 35 → ∀ b, b < 35 → a ≠ b → (sm_F10 a).2.1 ≠ (sm_F10 b).2.1 := by decide +kernel
theorem sm_t10_ok : ∀ k, k < 35 → parseFieldDescriptor (sm_F10 k).2.2.1 = some (sm_t10 k) := by decide +kernel
def sm_cl : List vw_C := [(sm_R0, sm_F0, 4), (sm_R1, sm_F1, 3), (sm_R2, sm_F2, 4), (sm_R3, sm_F3, 4), (sm_R4, sm_F4, 16), (sm_R5, sm_F5, 6), (sm_R6, sm_F6, 9), (sm_R7, sm_F7, 18), (sm_R8, sm_F8, 8), (sm_R9, sm_F9, 6), (sm_R10, sm_F10, 35)]
def sm_LT : List Cond := lw_tbl.filter goodWord
abbrev sm_M : Type := MethodName × ByteArray × Nat × Option FieldType
def q_sc_init : sm_M := (⟨"SmokeControl", "<init>", "()V"⟩, prog_1_method_1_code, 2, none)
def q_jo_init : sm_M := (⟨"java/lang/Object", "<init>", "()V"⟩, object_method_1_code, 1, none)
def q_pl_init : sm_M := (⟨"SmokeControl$Plant", "<init>", "()V"⟩, prog_6_method_1_code, 1, none)
def q_ru_init : sm_M := (⟨"SmokeControl$RuleBook", "<init>", "()V"⟩, prog_8_method_1_code, 1, none)
def q_pl_begin : sm_M := (⟨"SmokeControl$Plant", "begin", "()V"⟩, prog_6_method_2_code, 1, none)
def q_ru_begin : sm_M := (⟨"SmokeControl$RuleBook", "begin", "()V"⟩, prog_8_method_2_code, 1, none)
def q_re_init : sm_M := (⟨"SmokeControl$Reader", "<init>", "()V"⟩, prog_7_method_1_code, 1, none)
def q_te_init : sm_M := (⟨"SmokeControl$Text", "<init>", "()V"⟩, prog_10_method_1_code, 1, none)
def q_st_init : sm_M := (⟨"SmokeControl$State", "<init>", "(LSmokeControl$Plant;)V"⟩, prog_9_method_1_code, 2, none)
def q_al_init : sm_M := (⟨"SmokeControl$Alarms", "<init>", "()V"⟩, prog_2_method_1_code, 1, none)
def q_lo_init : sm_M := (⟨"SmokeControl$Log", "<init>", "()V"⟩, prog_5_method_1_code, 1, none)
def q_st_begin : sm_M := (⟨"SmokeControl$State", "begin", "(LSmokeControl$Plant;)V"⟩, prog_9_method_2_code, 3, none)
def q_ja_fill : sm_M := (⟨"java/util/Arrays", "fill", "([II)V"⟩, prog_19_method_103_code, 4, none)
def q_al_begin : sm_M := (⟨"SmokeControl$Alarms", "begin", "()V"⟩, prog_2_method_2_code, 1, none)
def q_sc_has : sm_M := (⟨"SmokeControl", "has", "(II)Z"⟩, prog_1_method_56_code, 2, some (.boolean))
def q_en_init : sm_M := (⟨"SmokeControl$Engine", "<init>", "()V"⟩, prog_4_method_1_code, 1, none)
def q_co_init : sm_M := (⟨"SmokeControl$Commands", "<init>", "()V"⟩, prog_3_method_1_code, 1, none)
def q_sc_feed : sm_M := (⟨"SmokeControl", "feed", "(IIIII)I"⟩, prog_1_method_2_code, 7, some (.int))
def q_te_append : sm_M := (⟨"SmokeControl$Text", "append", "(I)V"⟩, prog_10_method_2_code, 3, none)
def q_sc_load : sm_M := (⟨"SmokeControl", "load", "(I)I"⟩, prog_1_method_3_code, 4, some (.int))
def q_re_begin : sm_M := (⟨"SmokeControl$Reader", "begin", "(I)V"⟩, prog_7_method_2_code, 2, none)
def q_te_cut : sm_M := (⟨"SmokeControl$Text", "cut", "(I)V"⟩, prog_10_method_3_code, 5, none)
def q_te_kindOf : sm_M := (⟨"SmokeControl$Text", "kindOf", "(I)I"⟩, prog_10_method_7_code, 1, some (.int))
def q_te_isRun : sm_M := (⟨"SmokeControl$Text", "isRun", "(I)Z"⟩, prog_10_method_6_code, 1, some (.boolean))
def q_te_lengthenToken : sm_M := (⟨"SmokeControl$Text", "lengthenToken", "(I)V"⟩, prog_10_method_5_code, 3, none)
def q_te_startToken : sm_M := (⟨"SmokeControl$Text", "startToken", "(II)V"⟩, prog_10_method_4_code, 3, none)
def q_re_expectsItem : sm_M := (⟨"SmokeControl$Reader", "expectsItem", "()Z"⟩, prog_7_method_3_code, 1, some (.boolean))
def q_re_item : sm_M := (⟨"SmokeControl$Reader", "item", "(Z)V"⟩, prog_7_method_10_code, 2, none)
def q_re_takeWord : sm_M := (⟨"SmokeControl$Reader", "takeWord", "(Ljava/lang/String;)Z"⟩, prog_7_method_5_code, 3, some (.boolean))
def q_te_isWord : sm_M := (⟨"SmokeControl$Text", "isWord", "(Ljava/lang/String;)Z"⟩, prog_10_method_8_code, 4, some (.boolean))
def q_js_length : sm_M := (⟨"java/lang/String", "length", "()I"⟩, prog_15_method_54_code, 1, some (.int))
def q_js_coder : sm_M := (⟨"java/lang/String", "coder", "()B"⟩, prog_15_method_152_code, 1, some (.byte))
def q_js_charAt : sm_M := (⟨"java/lang/String", "charAt", "(I)C"⟩, prog_15_method_56_code, 2, some (.char))
def q_js_isLatin1 : sm_M := (⟨"java/lang/String", "isLatin1", "()Z"⟩, prog_15_method_154_code, 1, some (.boolean))
def q_jl_charAt : sm_M := (⟨"java/lang/StringLatin1", "charAt", "([BI)C"⟩, prog_16_method_2_code, 2, some (.char))
def q_js_checkIndex : sm_M := (⟨"java/lang/String", "checkIndex", "(II)V"⟩, prog_15_method_155_code, 2, none)
def q_jp_checkIndex : sm_M := (⟨"jdk/internal/util/Preconditions", "checkIndex", "(IILjava/util/function/BiFunction;)I"⟩, prog_20_method_11_code, 3, some (.int))
def q_ju_charAt : sm_M := (⟨"java/lang/StringUTF16", "charAt", "([BI)C"⟩, prog_17_method_83_code, 2, some (.char))
def q_ju_checkIndex : sm_M := (⟨"java/lang/StringUTF16", "checkIndex", "(I[B)V"⟩, prog_17_method_91_code, 2, none)
def q_ju_length : sm_M := (⟨"java/lang/StringUTF16", "length", "([B)I"⟩, prog_17_method_6_code, 1, some (.int))
def q_ju_getChar : sm_M := (⟨"java/lang/StringUTF16", "getChar", "([BI)C"⟩, prog_17_method_5_code, 2, some (.char))
def q_te_advance : sm_M := (⟨"SmokeControl$Text", "advance", "()V"⟩, prog_10_method_10_code, 1, none)
def q_re_needNumber : sm_M := (⟨"SmokeControl$Reader", "needNumber", "(II)I"⟩, prog_7_method_8_code, 4, some (.int))
def q_re_fail : sm_M := (⟨"SmokeControl$Reader", "fail", "(I)V"⟩, prog_7_method_4_code, 2, none)
def q_te_stop : sm_M := (⟨"SmokeControl$Text", "stop", "()V"⟩, prog_10_method_11_code, 1, none)
def q_re_takeItem : sm_M := (⟨"SmokeControl$Reader", "takeItem", "(Ljava/lang/String;II)Z"⟩, prog_7_method_9_code, 5, some (.boolean))
def q_re_damperItem : sm_M := (⟨"SmokeControl$Reader", "damperItem", "()V"⟩, prog_7_method_12_code, 5, none)
def q_re_airKind : sm_M := (⟨"SmokeControl$Reader", "airKind", "()I"⟩, prog_7_method_11_code, 1, some (.int))
def q_pl_addDamper : sm_M := (⟨"SmokeControl$Plant", "addDamper", "(IIIZ)V"⟩, prog_6_method_3_code, 5, none)
def q_sc_with : sm_M := (⟨"SmokeControl", "with", "(IIZ)I"⟩, prog_1_method_57_code, 3, some (.int))
def q_re_fanItem : sm_M := (⟨"SmokeControl$Reader", "fanItem", "()V"⟩, prog_7_method_13_code, 6, none)
def q_re_listedDamper : sm_M := (⟨"SmokeControl$Reader", "listedDamper", "(II)I"⟩, prog_7_method_14_code, 4, some (.int))
def q_pl_addFan : sm_M := (⟨"SmokeControl$Plant", "addFan", "(IIII)V"⟩, prog_6_method_4_code, 5, none)
def q_re_doorItem : sm_M := (⟨"SmokeControl$Reader", "doorItem", "()V"⟩, prog_7_method_15_code, 4, none)
def q_pl_addDoor : sm_M := (⟨"SmokeControl$Plant", "addDoor", "(III)V"⟩, prog_6_method_5_code, 4, none)
def q_re_ruleItem : sm_M := (⟨"SmokeControl$Reader", "ruleItem", "()V"⟩, prog_7_method_16_code, 2, none)
def q_re_condition : sm_M := (⟨"SmokeControl$Reader", "condition", "(I)V"⟩, prog_7_method_17_code, 5, none)
def q_re_test : sm_M := (⟨"SmokeControl$Reader", "test", "(I)V"⟩, prog_7_method_18_code, 4, none)
def q_te_isSign : sm_M := (⟨"SmokeControl$Text", "isSign", "(C)Z"⟩, prog_10_method_9_code, 2, some (.boolean))
def q_re_testHere : sm_M := (⟨"SmokeControl$Reader", "testHere", "()I"⟩, prog_7_method_19_code, 1, some (.int))
def q_ru_addCode : sm_M := (⟨"SmokeControl$RuleBook", "addCode", "(II)V"⟩, prog_8_method_3_code, 3, none)
def q_re_takeSign : sm_M := (⟨"SmokeControl$Reader", "takeSign", "(C)Z"⟩, prog_7_method_6_code, 3, some (.boolean))
def q_re_needSign : sm_M := (⟨"SmokeControl$Reader", "needSign", "(C)V"⟩, prog_7_method_7_code, 2, none)
def q_re_lastFor : sm_M := (⟨"SmokeControl$Reader", "lastFor", "(I)I"⟩, prog_7_method_20_code, 2, some (.int))
def q_re_action : sm_M := (⟨"SmokeControl$Reader", "action", "(I)V"⟩, prog_7_method_21_code, 4, none)
def q_re_verbHere : sm_M := (⟨"SmokeControl$Reader", "verbHere", "()I"⟩, prog_7_method_22_code, 1, some (.int))
def q_re_objectsOf : sm_M := (⟨"SmokeControl$Reader", "objectsOf", "(I)I"⟩, prog_7_method_23_code, 2, some (.int))
def q_ru_addAction : sm_M := (⟨"SmokeControl$RuleBook", "addAction", "(II)V"⟩, prog_8_method_4_code, 3, none)
def q_ru_endRule : sm_M := (⟨"SmokeControl$RuleBook", "endRule", "()V"⟩, prog_8_method_5_code, 1, none)
def q_sc_errorCode : sm_M := (⟨"SmokeControl", "errorCode", "()I"⟩, prog_1_method_4_code, 1, some (.int))
def q_sc_errorPosition : sm_M := (⟨"SmokeControl", "errorPosition", "()I"⟩, prog_1_method_5_code, 1, some (.int))
def q_sc_count : sm_M := (⟨"SmokeControl", "count", "(I)I"⟩, prog_1_method_6_code, 3, some (.int))
def q_sc_setSource : sm_M := (⟨"SmokeControl", "setSource", "(II)I"⟩, prog_1_method_7_code, 3, some (.int))
def q_sc_lacksZone : sm_M := (⟨"SmokeControl", "lacksZone", "(I)Z"⟩, prog_1_method_52_code, 2, some (.boolean))
def q_sc_exchange : sm_M := (⟨"SmokeControl", "exchange", "([III)I"⟩, prog_1_method_55_code, 4, some (.int))
def q_sc_setDetector : sm_M := (⟨"SmokeControl", "setDetector", "(IZ)I"⟩, prog_1_method_8_code, 4, some (.int))
def q_sc_setDoor : sm_M := (⟨"SmokeControl", "setDoor", "(IZ)I"⟩, prog_1_method_9_code, 4, some (.int))
def q_sc_jam : sm_M := (⟨"SmokeControl", "jam", "(IZ)I"⟩, prog_1_method_10_code, 3, some (.int))
def q_sc_lacksDamper : sm_M := (⟨"SmokeControl", "lacksDamper", "(I)Z"⟩, prog_1_method_53_code, 2, some (.boolean))
def q_sc_setFaulty : sm_M := (⟨"SmokeControl", "setFaulty", "(IZ)I"⟩, prog_1_method_12_code, 4, some (.int))
def q_sc_breakFan : sm_M := (⟨"SmokeControl", "breakFan", "(IZ)I"⟩, prog_1_method_11_code, 3, some (.int))
def q_sc_lacksFan : sm_M := (⟨"SmokeControl", "lacksFan", "(I)Z"⟩, prog_1_method_54_code, 2, some (.boolean))
def q_sc_turnKey : sm_M := (⟨"SmokeControl", "turnKey", "(Z)I"⟩, prog_1_method_13_code, 2, some (.int))
def q_lo_add : sm_M := (⟨"SmokeControl$Log", "add", "(III)V"⟩, prog_5_method_2_code, 5, none)
def q_jm_floorMod : sm_M := (⟨"java/lang/Math", "floorMod", "(II)I"⟩, prog_14_method_50_code, 3, some (.int))
def q_sc_switchDamper : sm_M := (⟨"SmokeControl", "switchDamper", "(II)I"⟩, prog_1_method_14_code, 3, some (.int))
def q_sc_setCommand : sm_M := (⟨"SmokeControl", "setCommand", "([III)I"⟩, prog_1_method_18_code, 3, some (.int))
def q_sc_switchFan : sm_M := (⟨"SmokeControl", "switchFan", "(II)I"⟩, prog_1_method_15_code, 3, some (.int))
def q_sc_operateDamper : sm_M := (⟨"SmokeControl", "operateDamper", "(II)I"⟩, prog_1_method_16_code, 3, some (.int))
def q_sc_operateFan : sm_M := (⟨"SmokeControl", "operateFan", "(II)I"⟩, prog_1_method_17_code, 3, some (.int))
def q_sc_tick : sm_M := (⟨"SmokeControl", "tick", "(I)I"⟩, prog_1_method_19_code, 2, some (.int))
def q_en_pass : sm_M := (⟨"SmokeControl$Engine", "pass", "(LSmokeControl$State;I)I"⟩, prog_4_method_2_code, 5, some (.int))
def q_co_determine : sm_M := (⟨"SmokeControl$Commands", "determine", "(LSmokeControl$State;)V"⟩, prog_3_method_2_code, 4, none)
def q_co_followRules : sm_M := (⟨"SmokeControl$Commands", "followRules", "(LSmokeControl$State;)V"⟩, prog_3_method_5_code, 5, none)
def q_co_holds : sm_M := (⟨"SmokeControl$Commands", "holds", "(LSmokeControl$State;I)Z"⟩, prog_3_method_9_code, 7, some (.boolean))
def q_ru_codeStart : sm_M := (⟨"SmokeControl$RuleBook", "codeStart", "(I)I"⟩, prog_8_method_6_code, 2, some (.int))
def q_co_testHolds : sm_M := (⟨"SmokeControl$Commands", "testHolds", "(LSmokeControl$State;II)Z"⟩, prog_3_method_10_code, 4, some (.boolean))
def q_ru_actionStart : sm_M := (⟨"SmokeControl$RuleBook", "actionStart", "(I)I"⟩, prog_8_method_7_code, 2, some (.int))
def q_co_act : sm_M := (⟨"SmokeControl$Commands", "act", "(LSmokeControl$Plant;II)V"⟩, prog_3_method_6_code, 4, none)
def q_co_rule : sm_M := (⟨"SmokeControl$Commands", "rule", "(II)V"⟩, prog_3_method_8_code, 3, none)
def q_co_ruleZone : sm_M := (⟨"SmokeControl$Commands", "ruleZone", "(LSmokeControl$Plant;III)V"⟩, prog_3_method_7_code, 6, none)
def q_co_settle : sm_M := (⟨"SmokeControl$Commands", "settle", "(LSmokeControl$State;II)V"⟩, prog_3_method_3_code, 4, none)
def q_co_give : sm_M := (⟨"SmokeControl$Commands", "give", "(III)V"⟩, prog_3_method_4_code, 4, none)
def q_en_moveDampers : sm_M := (⟨"SmokeControl$Engine", "moveDampers", "(LSmokeControl$State;)V"⟩, prog_4_method_3_code, 7, none)
def q_st_supervise : sm_M := (⟨"SmokeControl$State", "supervise", "(IZIII)V"⟩, prog_9_method_10_code, 6, none)
def q_en_runFans : sm_M := (⟨"SmokeControl$Engine", "runFans", "(LSmokeControl$State;)V"⟩, prog_4_method_4_code, 8, none)
def q_st_provenOpen : sm_M := (⟨"SmokeControl$State", "provenOpen", "()I"⟩, prog_9_method_6_code, 3, some (.int))
def q_st_hasWay : sm_M := (⟨"SmokeControl$State", "hasWay", "(II)Z"⟩, prog_9_method_7_code, 3, some (.boolean))
def q_pl_isStairFan : sm_M := (⟨"SmokeControl$Plant", "isStairFan", "(I)Z"⟩, prog_6_method_6_code, 2, some (.boolean))
def q_en_changeLevel : sm_M := (⟨"SmokeControl$Engine", "changeLevel", "(LSmokeControl$State;IZ)V"⟩, prog_4_method_5_code, 5, none)
def q_st_stairAir : sm_M := (⟨"SmokeControl$State", "stairAir", "()I"⟩, prog_9_method_9_code, 3, some (.int))
def q_st_fanAir : sm_M := (⟨"SmokeControl$State", "fanAir", "(I)I"⟩, prog_9_method_8_code, 3, some (.int))
def q_en_controlPressure : sm_M := (⟨"SmokeControl$Engine", "controlPressure", "(LSmokeControl$State;I)V"⟩, prog_4_method_6_code, 5, none)
def q_pl_pressureOf : sm_M := (⟨"SmokeControl$Plant", "pressureOf", "(II)I"⟩, prog_6_method_8_code, 4, some (.int))
def q_pl_area : sm_M := (⟨"SmokeControl$Plant", "area", "(I)I"⟩, prog_6_method_7_code, 4, some (.int))
def q_jm_min : sm_M := (⟨"java/lang/Math", "min", "(II)I"⟩, prog_14_method_69_code, 2, some (.int))
def q_jm_max : sm_M := (⟨"java/lang/Math", "max", "(II)I"⟩, prog_14_method_65_code, 2, some (.int))
def q_en_isStairFanStarted : sm_M := (⟨"SmokeControl$Engine", "isStairFanStarted", "(LSmokeControl$Plant;)Z"⟩, prog_4_method_7_code, 3, some (.boolean))
def q_en_divideAir : sm_M := (⟨"SmokeControl$Engine", "divideAir", "(LSmokeControl$State;)V"⟩, prog_4_method_8_code, 10, none)
def q_ji_bitCount : sm_M := (⟨"java/lang/Integer", "bitCount", "(I)I"⟩, prog_13_method_49_code, 1, some (.int))
def q_en_moveSmoke : sm_M := (⟨"SmokeControl$Engine", "moveSmoke", "(LSmokeControl$State;I)V"⟩, prog_4_method_9_code, 7, none)
def q_en_fillStair : sm_M := (⟨"SmokeControl$Engine", "fillStair", "(LSmokeControl$State;I)V"⟩, prog_4_method_11_code, 7, none)
def q_en_flowBetween : sm_M := (⟨"SmokeControl$Engine", "flowBetween", "(LSmokeControl$State;II)I"⟩, prog_4_method_10_code, 7, some (.int))
def q_al_raise : sm_M := (⟨"SmokeControl$Alarms", "raise", "(LSmokeControl$State;)V"⟩, prog_2_method_4_code, 3, none)
def q_sc_reset : sm_M := (⟨"SmokeControl", "reset", "()I"⟩, prog_1_method_20_code, 1, some (.int))
def q_al_silence : sm_M := (⟨"SmokeControl$Alarms", "silence", "(LSmokeControl$State;)V"⟩, prog_2_method_5_code, 3, none)
def q_al_lowest : sm_M := (⟨"SmokeControl$Alarms", "lowest", "(I)I"⟩, prog_2_method_6_code, 3, some (.int))
def q_sc_time : sm_M := (⟨"SmokeControl", "time", "()I"⟩, prog_1_method_21_code, 1, some (.int))
def q_sc_smoke : sm_M := (⟨"SmokeControl", "smoke", "(I)I"⟩, prog_1_method_22_code, 2, some (.int))
def q_sc_stair : sm_M := (⟨"SmokeControl", "stair", "(I)I"⟩, prog_1_method_23_code, 2, some (.int))
def q_sc_alarm : sm_M := (⟨"SmokeControl", "alarm", "(I)I"⟩, prog_1_method_24_code, 2, some (.int))
def q_sc_firstAlarm : sm_M := (⟨"SmokeControl", "firstAlarm", "()I"⟩, prog_1_method_25_code, 1, some (.int))
def q_sc_supply : sm_M := (⟨"SmokeControl", "supply", "(I)I"⟩, prog_1_method_26_code, 2, some (.int))
def q_sc_exhaust : sm_M := (⟨"SmokeControl", "exhaust", "(I)I"⟩, prog_1_method_27_code, 2, some (.int))
def q_sc_damper : sm_M := (⟨"SmokeControl", "damper", "(II)I"⟩, prog_1_method_28_code, 3, some (.int))
def q_sc_unitAnswer : sm_M := (⟨"SmokeControl", "unitAnswer", "(II)I"⟩, prog_1_method_30_code, 3, some (.int))
def q_sc_presentCommands : sm_M := (⟨"SmokeControl", "presentCommands", "()LSmokeControl$Commands;"⟩, prog_1_method_32_code, 1, some (.object "SmokeControl$Commands"))
def q_sc_fan : sm_M := (⟨"SmokeControl", "fan", "(II)I"⟩, prog_1_method_29_code, 3, some (.int))
def q_sc_waitsForDamper : sm_M := (⟨"SmokeControl", "waitsForDamper", "(I)Z"⟩, prog_1_method_31_code, 2, some (.boolean))
def q_sc_ruleHolds : sm_M := (⟨"SmokeControl", "ruleHolds", "(I)I"⟩, prog_1_method_33_code, 2, some (.int))
def q_sc_commandsBy : sm_M := (⟨"SmokeControl", "commandsBy", "(I)I"⟩, prog_1_method_34_code, 5, some (.int))
def q_sc_events : sm_M := (⟨"SmokeControl", "events", "()I"⟩, prog_1_method_35_code, 1, some (.int))
def q_lo_kept : sm_M := (⟨"SmokeControl$Log", "kept", "()I"⟩, prog_5_method_3_code, 1, some (.int))
def q_sc_event : sm_M := (⟨"SmokeControl", "event", "(II)I"⟩, prog_1_method_36_code, 4, some (.int))
def q_lo_place : sm_M := (⟨"SmokeControl$Log", "place", "(I)I"⟩, prog_5_method_4_code, 2, some (.int))
def q_sc_smokeAfter : sm_M := (⟨"SmokeControl", "smokeAfter", "(II)I"⟩, prog_1_method_37_code, 3, some (.int))
def q_sc_isNoTrial : sm_M := (⟨"SmokeControl", "isNoTrial", "(I)Z"⟩, prog_1_method_40_code, 1, some (.boolean))
def q_sc_tryTicks : sm_M := (⟨"SmokeControl", "tryTicks", "(I)V"⟩, prog_1_method_41_code, 2, none)
def q_st_copyFrom : sm_M := (⟨"SmokeControl$State", "copyFrom", "(LSmokeControl$State;)V"⟩, prog_9_method_3_code, 2, none)
def q_sc_copyRow : sm_M := (⟨"SmokeControl", "copyRow", "([I[I)V"⟩, prog_1_method_58_code, 2, none)
def q_al_copyFrom : sm_M := (⟨"SmokeControl$Alarms", "copyFrom", "(LSmokeControl$Alarms;)V"⟩, prog_2_method_3_code, 2, none)
def q_lo_copyFrom : sm_M := (⟨"SmokeControl$Log", "copyFrom", "(LSmokeControl$Log;)V"⟩, prog_5_method_5_code, 2, none)
def q_sc_allSmokeAfter : sm_M := (⟨"SmokeControl", "allSmokeAfter", "(I)I"⟩, prog_1_method_38_code, 2, some (.int))
def q_st_smokeSum : sm_M := (⟨"SmokeControl$State", "smokeSum", "()I"⟩, prog_9_method_4_code, 3, some (.int))
def q_sc_pressureAfter : sm_M := (⟨"SmokeControl", "pressureAfter", "(I)I"⟩, prog_1_method_39_code, 2, some (.int))
def q_sc_clearAfter : sm_M := (⟨"SmokeControl", "clearAfter", "(I)I"⟩, prog_1_method_42_code, 3, some (.int))
def q_st_thickestSmoke : sm_M := (⟨"SmokeControl$State", "thickestSmoke", "()I"⟩, prog_9_method_5_code, 3, some (.int))
def q_sc_bestSwitch : sm_M := (⟨"SmokeControl", "bestSwitch", "(I)I"⟩, prog_1_method_43_code, 9, some (.int))
def q_sc_smokeWithSwitch : sm_M := (⟨"SmokeControl", "smokeWithSwitch", "(III)I"⟩, prog_1_method_44_code, 4, some (.int))
def q_sc_purgeTime : sm_M := (⟨"SmokeControl", "purgeTime", "(I)I"⟩, prog_1_method_45_code, 3, some (.int))
def q_sc_switchZoneOn : sm_M := (⟨"SmokeControl", "switchZoneOn", "(I)V"⟩, prog_1_method_46_code, 5, none)
def q_sc_pressureWith : sm_M := (⟨"SmokeControl", "pressureWith", "(I)I"⟩, prog_1_method_47_code, 2, some (.int))
def q_pl_fullPressure : sm_M := (⟨"SmokeControl$Plant", "fullPressure", "(I)I"⟩, prog_6_method_9_code, 4, some (.int))
def q_sc_mostOpenDoors : sm_M := (⟨"SmokeControl", "mostOpenDoors", "()I"⟩, prog_1_method_48_code, 5, some (.int))
def q_pl_narrowestDoor : sm_M := (⟨"SmokeControl$Plant", "narrowestDoor", "(I)I"⟩, prog_6_method_10_code, 6, some (.int))
def q_sc_worstDoor : sm_M := (⟨"SmokeControl", "worstDoor", "()I"⟩, prog_1_method_49_code, 5, some (.int))
def q_sc_keep : sm_M := (⟨"SmokeControl", "keep", "(I)I"⟩, prog_1_method_50_code, 2, some (.int))
def q_sc_restore : sm_M := (⟨"SmokeControl", "restore", "(I)I"⟩, prog_1_method_51_code, 2, some (.int))
def q_mo_init : sm_M := (⟨"SmokeControlModel", "<init>", "()V"⟩, prog_12_method_1_code, 1, none)
def q_mo_clearPlan : sm_M := (⟨"SmokeControlModel", "clearPlan", "([I)V"⟩, prog_12_method_2_code, 2, none)
def q_mo_begin : sm_M := (⟨"SmokeControlModel", "begin", "()V"⟩, prog_12_method_3_code, 2, none)
def q_mo_damperOf : sm_M := (⟨"SmokeControlModel", "damperOf", "(II)I"⟩, prog_12_method_8_code, 3, some (.int))
def q_mo_put : sm_M := (⟨"SmokeControlModel", "put", "(III)V"⟩, prog_12_method_13_code, 4, none)
def q_mo_feed : sm_M := (⟨"SmokeControlModel", "feed", "(IIIII)I"⟩, prog_12_method_20_code, 6, some (.int))
def q_mo_append : sm_M := (⟨"SmokeControlModel", "append", "(I)V"⟩, prog_12_method_21_code, 3, none)
def q_mo_errorCode : sm_M := (⟨"SmokeControlModel", "errorCode", "()I"⟩, prog_12_method_22_code, 1, some (.int))
def q_mo_errorPosition : sm_M := (⟨"SmokeControlModel", "errorPosition", "()I"⟩, prog_12_method_23_code, 1, some (.int))
def q_mo_load : sm_M := (⟨"SmokeControlModel", "load", "(I)I"⟩, prog_12_method_57_code, 4, some (.int))
def q_mo_in : sm_M := (⟨"SmokeControlModel", "in", "(III)Z"⟩, prog_12_method_4_code, 3, some (.boolean))
def q_mo_readPlant : sm_M := (⟨"SmokeControlModel", "readPlant", "()Z"⟩, prog_12_method_56_code, 1, some (.boolean))
def q_mo_peek : sm_M := (⟨"SmokeControlModel", "peek", "()I"⟩, prog_12_method_27_code, 1, some (.int))
def q_mo_byteAt : sm_M := (⟨"SmokeControlModel", "byteAt", "(I)I"⟩, prog_12_method_24_code, 2, some (.int))
def q_mo_readItem : sm_M := (⟨"SmokeControlModel", "readItem", "()Z"⟩, prog_12_method_55_code, 3, some (.boolean))
def q_mo_readWord : sm_M := (⟨"SmokeControlModel", "readWord", "()Z"⟩, prog_12_method_31_code, 1, some (.boolean))
def q_mo_seesWord : sm_M := (⟨"SmokeControlModel", "seesWord", "()Z"⟩, prog_12_method_29_code, 2, some (.boolean))
def q_mo_isLetter : sm_M := (⟨"SmokeControlModel", "isLetter", "(I)Z"⟩, prog_12_method_25_code, 1, some (.boolean))
def q_mo_fails : sm_M := (⟨"SmokeControlModel", "fails", "(II)Z"⟩, prog_12_method_28_code, 3, some (.boolean))
def q_mo_passWord : sm_M := (⟨"SmokeControlModel", "passWord", "()V"⟩, prog_12_method_30_code, 1, none)
def q_mo_readSetting : sm_M := (⟨"SmokeControlModel", "readSetting", "(III)Z"⟩, prog_12_method_54_code, 4, some (.boolean))
def q_mo_readNumber : sm_M := (⟨"SmokeControlModel", "readNumber", "(II)Z"⟩, prog_12_method_33_code, 4, some (.boolean))
def q_mo_isDigit : sm_M := (⟨"SmokeControlModel", "isDigit", "(I)Z"⟩, prog_12_method_26_code, 1, some (.boolean))
def q_mo_readDamper : sm_M := (⟨"SmokeControlModel", "readDamper", "()Z"⟩, prog_12_method_51_code, 2, some (.boolean))
def q_mo_readKind : sm_M := (⟨"SmokeControlModel", "readKind", "(I)Z"⟩, prog_12_method_50_code, 2, some (.boolean))
def q_mo_readKeyword : sm_M := (⟨"SmokeControlModel", "readKeyword", "(J)Z"⟩, prog_12_method_32_code, 3, some (.boolean))
def q_mo_readFan : sm_M := (⟨"SmokeControlModel", "readFan", "()Z"⟩, prog_12_method_52_code, 3, some (.boolean))
def q_mo_hasBit : sm_M := (⟨"SmokeControlModel", "hasBit", "(II)Z"⟩, prog_12_method_7_code, 2, some (.boolean))
def q_mo_readDoor : sm_M := (⟨"SmokeControlModel", "readDoor", "()Z"⟩, prog_12_method_53_code, 2, some (.boolean))
def q_mo_readRule : sm_M := (⟨"SmokeControlModel", "readRule", "()Z"⟩, prog_12_method_49_code, 4, some (.boolean))
def q_mo_readCondition : sm_M := (⟨"SmokeControlModel", "readCondition", "()Z"⟩, prog_12_method_46_code, 3, some (.boolean))
def q_mo_readOpenings : sm_M := (⟨"SmokeControlModel", "readOpenings", "()Z"⟩, prog_12_method_42_code, 1, some (.boolean))
def q_mo_opens : sm_M := (⟨"SmokeControlModel", "opens", "(I)Z"⟩, prog_12_method_41_code, 2, some (.boolean))
def q_mo_push : sm_M := (⟨"SmokeControlModel", "push", "(I)V"⟩, prog_12_method_40_code, 2, none)
def q_mo_passSign : sm_M := (⟨"SmokeControlModel", "passSign", "()V"⟩, prog_12_method_34_code, 1, none)
def q_mo_readTest : sm_M := (⟨"SmokeControlModel", "readTest", "()Z"⟩, prog_12_method_44_code, 1, some (.boolean))
def q_mo_readTestOf : sm_M := (⟨"SmokeControlModel", "readTestOf", "(II)Z"⟩, prog_12_method_43_code, 3, some (.boolean))
def q_mo_emit : sm_M := (⟨"SmokeControlModel", "emit", "(II)V"⟩, prog_12_method_36_code, 4, none)
def q_mo_passClosings : sm_M := (⟨"SmokeControlModel", "passClosings", "()V"⟩, prog_12_method_45_code, 1, none)
def q_mo_settle : sm_M := (⟨"SmokeControlModel", "settle", "(I)V"⟩, prog_12_method_38_code, 2, none)
def q_mo_strength : sm_M := (⟨"SmokeControlModel", "strength", "(I)I"⟩, prog_12_method_37_code, 1, some (.int))
def q_mo_isInside : sm_M := (⟨"SmokeControlModel", "isInside", "()Z"⟩, prog_12_method_39_code, 2, some (.boolean))
def q_mo_readAction : sm_M := (⟨"SmokeControlModel", "readAction", "(I)Z"⟩, prog_12_method_48_code, 4, some (.boolean))
def q_mo_actionHere : sm_M := (⟨"SmokeControlModel", "actionHere", "()I"⟩, prog_12_method_47_code, 1, some (.int))
def q_mo_readSign : sm_M := (⟨"SmokeControlModel", "readSign", "(I)Z"⟩, prog_12_method_35_code, 2, some (.boolean))
def q_mo_count : sm_M := (⟨"SmokeControlModel", "count", "(I)I"⟩, prog_12_method_58_code, 2, some (.int))
def q_mo_tick : sm_M := (⟨"SmokeControlModel", "tick", "(I)I"⟩, prog_12_method_90_code, 2, some (.int))
def q_mo_passTicks : sm_M := (⟨"SmokeControlModel", "passTicks", "(I)I"⟩, prog_12_method_89_code, 3, some (.int))
def q_mo_pass : sm_M := (⟨"SmokeControlModel", "pass", "()V"⟩, prog_12_method_88_code, 2, none)
def q_mo_decide : sm_M := (⟨"SmokeControlModel", "decide", "()V"⟩, prog_12_method_68_code, 3, none)
def q_mo_rule : sm_M := (⟨"SmokeControlModel", "rule", "()V"⟩, prog_12_method_65_code, 3, none)
def q_mo_isAlarm : sm_M := (⟨"SmokeControlModel", "isAlarm", "()Z"⟩, prog_12_method_59_code, 1, some (.boolean))
def q_mo_isHolding : sm_M := (⟨"SmokeControlModel", "isHolding", "(I)Z"⟩, prog_12_method_62_code, 5, some (.boolean))
def q_mo_holds : sm_M := (⟨"SmokeControlModel", "holds", "(II)Z"⟩, prog_12_method_61_code, 3, some (.boolean))
def q_mo_zoneIs : sm_M := (⟨"SmokeControlModel", "zoneIs", "(II)I"⟩, prog_12_method_10_code, 3, some (.int))
def q_mo_fanIs : sm_M := (⟨"SmokeControlModel", "fanIs", "(II)I"⟩, prog_12_method_12_code, 3, some (.int))
def q_mo_fanOf : sm_M := (⟨"SmokeControlModel", "fanOf", "(II)I"⟩, prog_12_method_9_code, 3, some (.int))
def q_mo_isTrouble : sm_M := (⟨"SmokeControlModel", "isTrouble", "()Z"⟩, prog_12_method_60_code, 3, some (.boolean))
def q_mo_damperIs : sm_M := (⟨"SmokeControlModel", "damperIs", "(II)I"⟩, prog_12_method_11_code, 3, some (.int))
def q_mo_order : sm_M := (⟨"SmokeControlModel", "order", "(II)V"⟩, prog_12_method_64_code, 3, none)
def q_mo_orderDampers : sm_M := (⟨"SmokeControlModel", "orderDampers", "(III)V"⟩, prog_12_method_63_code, 5, none)
def q_mo_sourceOf : sm_M := (⟨"SmokeControlModel", "sourceOf", "(III)I"⟩, prog_12_method_66_code, 3, some (.int))
def q_mo_commandOf : sm_M := (⟨"SmokeControlModel", "commandOf", "(IIIII)I"⟩, prog_12_method_67_code, 6, some (.int))
def q_mo_moveDamper : sm_M := (⟨"SmokeControlModel", "moveDamper", "(I)V"⟩, prog_12_method_80_code, 6, none)
def q_mo_record : sm_M := (⟨"SmokeControlModel", "record", "(II)V"⟩, prog_12_method_79_code, 4, none)
def q_mo_moveFan : sm_M := (⟨"SmokeControlModel", "moveFan", "(I)V"⟩, prog_12_method_81_code, 6, none)
def q_mo_isClear : sm_M := (⟨"SmokeControlModel", "isClear", "(I)Z"⟩, prog_12_method_71_code, 2, some (.boolean))
def q_mo_openOf : sm_M := (⟨"SmokeControlModel", "openOf", "(I)I"⟩, prog_12_method_70_code, 4, some (.int))
def q_mo_isOpen : sm_M := (⟨"SmokeControlModel", "isOpen", "(I)Z"⟩, prog_12_method_69_code, 2, some (.boolean))
def q_mo_lesser : sm_M := (⟨"SmokeControlModel", "lesser", "(II)I"⟩, prog_12_method_5_code, 2, some (.int))
def q_mo_greater : sm_M := (⟨"SmokeControlModel", "greater", "(II)I"⟩, prog_12_method_6_code, 2, some (.int))
def q_mo_putFan : sm_M := (⟨"SmokeControlModel", "putFan", "(III)V"⟩, prog_12_method_14_code, 4, none)
def q_mo_pressStair : sm_M := (⟨"SmokeControlModel", "pressStair", "()V"⟩, prog_12_method_83_code, 2, none)
def q_mo_stairAir : sm_M := (⟨"SmokeControlModel", "stairAir", "()I"⟩, prog_12_method_74_code, 3, some (.int))
def q_mo_airOf : sm_M := (⟨"SmokeControlModel", "airOf", "(I)I"⟩, prog_12_method_72_code, 2, some (.int))
def q_mo_openDoors : sm_M := (⟨"SmokeControlModel", "openDoors", "()I"⟩, prog_12_method_76_code, 3, some (.int))
def q_mo_areaOf : sm_M := (⟨"SmokeControlModel", "areaOf", "(I)I"⟩, prog_12_method_77_code, 4, some (.int))
def q_mo_doorOf : sm_M := (⟨"SmokeControlModel", "doorOf", "(II)I"⟩, prog_12_method_75_code, 3, some (.int))
def q_mo_pressureBy : sm_M := (⟨"SmokeControlModel", "pressureBy", "(II)I"⟩, prog_12_method_78_code, 2, some (.int))
def q_mo_isStairWanted : sm_M := (⟨"SmokeControlModel", "isStairWanted", "()Z"⟩, prog_12_method_82_code, 2, some (.boolean))
def q_mo_spreadSmoke : sm_M := (⟨"SmokeControlModel", "spreadSmoke", "()V"⟩, prog_12_method_85_code, 5, none)
def q_mo_airTo : sm_M := (⟨"SmokeControlModel", "airTo", "(II)I"⟩, prog_12_method_73_code, 7, some (.int))
def q_mo_drain : sm_M := (⟨"SmokeControlModel", "drain", "(II)V"⟩, prog_12_method_84_code, 5, none)
def q_mo_putZone : sm_M := (⟨"SmokeControlModel", "putZone", "(III)V"⟩, prog_12_method_15_code, 4, none)
def q_mo_leakSmoke : sm_M := (⟨"SmokeControlModel", "leakSmoke", "()V"⟩, prog_12_method_86_code, 3, none)
def q_mo_raiseAlarms : sm_M := (⟨"SmokeControlModel", "raiseAlarms", "()V"⟩, prog_12_method_87_code, 3, none)
def q_mo_setSource : sm_M := (⟨"SmokeControlModel", "setSource", "(II)I"⟩, prog_12_method_91_code, 4, some (.int))
def q_mo_isZone : sm_M := (⟨"SmokeControlModel", "isZone", "(I)Z"⟩, prog_12_method_16_code, 2, some (.boolean))
def q_mo_setDetector : sm_M := (⟨"SmokeControlModel", "setDetector", "(IZ)I"⟩, prog_12_method_93_code, 3, some (.int))
def q_mo_flip : sm_M := (⟨"SmokeControlModel", "flip", "(IZ)I"⟩, prog_12_method_92_code, 4, some (.int))
def q_mo_setDoor : sm_M := (⟨"SmokeControlModel", "setDoor", "(IZ)I"⟩, prog_12_method_94_code, 3, some (.int))
def q_mo_isDoor : sm_M := (⟨"SmokeControlModel", "isDoor", "(I)Z"⟩, prog_12_method_19_code, 2, some (.boolean))
def q_mo_jam : sm_M := (⟨"SmokeControlModel", "jam", "(IZ)I"⟩, prog_12_method_95_code, 3, some (.int))
def q_mo_isDamper : sm_M := (⟨"SmokeControlModel", "isDamper", "(I)Z"⟩, prog_12_method_17_code, 2, some (.boolean))
def q_mo_breakFan : sm_M := (⟨"SmokeControlModel", "breakFan", "(IZ)I"⟩, prog_12_method_96_code, 3, some (.int))
def q_mo_isFan : sm_M := (⟨"SmokeControlModel", "isFan", "(I)Z"⟩, prog_12_method_18_code, 2, some (.boolean))
def q_mo_turnKey : sm_M := (⟨"SmokeControlModel", "turnKey", "(Z)I"⟩, prog_12_method_97_code, 3, some (.int))
def q_mo_switchDamper : sm_M := (⟨"SmokeControlModel", "switchDamper", "(II)I"⟩, prog_12_method_99_code, 3, some (.int))
def q_mo_set : sm_M := (⟨"SmokeControlModel", "set", "(ZII)I"⟩, prog_12_method_98_code, 5, some (.int))
def q_mo_switchFan : sm_M := (⟨"SmokeControlModel", "switchFan", "(II)I"⟩, prog_12_method_100_code, 3, some (.int))
def q_mo_operateDamper : sm_M := (⟨"SmokeControlModel", "operateDamper", "(II)I"⟩, prog_12_method_101_code, 3, some (.int))
def q_mo_operateFan : sm_M := (⟨"SmokeControlModel", "operateFan", "(II)I"⟩, prog_12_method_102_code, 3, some (.int))
def q_mo_reset : sm_M := (⟨"SmokeControlModel", "reset", "()I"⟩, prog_12_method_103_code, 4, some (.int))
def q_mo_time : sm_M := (⟨"SmokeControlModel", "time", "()I"⟩, prog_12_method_104_code, 1, some (.int))
def q_mo_smoke : sm_M := (⟨"SmokeControlModel", "smoke", "(I)I"⟩, prog_12_method_105_code, 2, some (.int))
def q_mo_stair : sm_M := (⟨"SmokeControlModel", "stair", "(I)I"⟩, prog_12_method_106_code, 2, some (.int))
def q_mo_alarm : sm_M := (⟨"SmokeControlModel", "alarm", "(I)I"⟩, prog_12_method_107_code, 2, some (.int))
def q_mo_firstAlarm : sm_M := (⟨"SmokeControlModel", "firstAlarm", "()I"⟩, prog_12_method_108_code, 1, some (.int))
def q_mo_supply : sm_M := (⟨"SmokeControlModel", "supply", "(I)I"⟩, prog_12_method_109_code, 2, some (.int))
def q_mo_exhaust : sm_M := (⟨"SmokeControlModel", "exhaust", "(I)I"⟩, prog_12_method_110_code, 2, some (.int))
def q_mo_damper : sm_M := (⟨"SmokeControlModel", "damper", "(II)I"⟩, prog_12_method_111_code, 3, some (.int))
def q_mo_fan : sm_M := (⟨"SmokeControlModel", "fan", "(II)I"⟩, prog_12_method_112_code, 3, some (.int))
def q_mo_ruleHolds : sm_M := (⟨"SmokeControlModel", "ruleHolds", "(I)I"⟩, prog_12_method_113_code, 2, some (.int))
def q_mo_commandsBy : sm_M := (⟨"SmokeControlModel", "commandsBy", "(I)I"⟩, prog_12_method_114_code, 4, some (.int))
def q_mo_events : sm_M := (⟨"SmokeControlModel", "events", "()I"⟩, prog_12_method_115_code, 1, some (.int))
def q_mo_event : sm_M := (⟨"SmokeControlModel", "event", "(II)I"⟩, prog_12_method_116_code, 3, some (.int))
def q_mo_smokeAfter : sm_M := (⟨"SmokeControlModel", "smokeAfter", "(II)I"⟩, prog_12_method_120_code, 4, some (.int))
def q_mo_putAside : sm_M := (⟨"SmokeControlModel", "putAside", "()V"⟩, prog_12_method_117_code, 2, none)
def q_mo_putBack : sm_M := (⟨"SmokeControlModel", "putBack", "()V"⟩, prog_12_method_118_code, 2, none)
def q_mo_allSmokeAfter : sm_M := (⟨"SmokeControlModel", "allSmokeAfter", "(I)I"⟩, prog_12_method_121_code, 3, some (.int))
def q_mo_allSmoke : sm_M := (⟨"SmokeControlModel", "allSmoke", "()I"⟩, prog_12_method_119_code, 3, some (.int))
def q_mo_pressureAfter : sm_M := (⟨"SmokeControlModel", "pressureAfter", "(I)I"⟩, prog_12_method_122_code, 3, some (.int))
def q_mo_clearAfter : sm_M := (⟨"SmokeControlModel", "clearAfter", "(I)I"⟩, prog_12_method_125_code, 3, some (.int))
def q_mo_ticksUntil : sm_M := (⟨"SmokeControlModel", "ticksUntil", "(III)I"⟩, prog_12_method_124_code, 5, some (.int))
def q_mo_isBelow : sm_M := (⟨"SmokeControlModel", "isBelow", "(III)Z"⟩, prog_12_method_123_code, 5, some (.boolean))
def q_mo_bestSwitch : sm_M := (⟨"SmokeControlModel", "bestSwitch", "(I)I"⟩, prog_12_method_127_code, 7, some (.int))
def q_mo_smokeWith : sm_M := (⟨"SmokeControlModel", "smokeWith", "(III)I"⟩, prog_12_method_126_code, 5, some (.int))
def q_mo_purgeTime : sm_M := (⟨"SmokeControlModel", "purgeTime", "(I)I"⟩, prog_12_method_129_code, 3, some (.int))
def q_mo_openAll : sm_M := (⟨"SmokeControlModel", "openAll", "(I)V"⟩, prog_12_method_128_code, 4, none)
def q_mo_pressureWith : sm_M := (⟨"SmokeControlModel", "pressureWith", "(I)I"⟩, prog_12_method_132_code, 2, some (.int))
def q_mo_pressureOf : sm_M := (⟨"SmokeControlModel", "pressureOf", "(I)I"⟩, prog_12_method_131_code, 2, some (.int))
def q_mo_fullFlow : sm_M := (⟨"SmokeControlModel", "fullFlow", "()I"⟩, prog_12_method_130_code, 3, some (.int))
def q_mo_mostOpenDoors : sm_M := (⟨"SmokeControlModel", "mostOpenDoors", "()I"⟩, prog_12_method_134_code, 3, some (.int))
def q_mo_bits : sm_M := (⟨"SmokeControlModel", "bits", "(I)I"⟩, prog_12_method_133_code, 3, some (.int))
def q_mo_worstDoor : sm_M := (⟨"SmokeControlModel", "worstDoor", "()I"⟩, prog_12_method_135_code, 4, some (.int))
def q_mo_keep : sm_M := (⟨"SmokeControlModel", "keep", "(I)I"⟩, prog_12_method_136_code, 3, some (.int))
def q_mo_restore : sm_M := (⟨"SmokeControlModel", "restore", "(I)I"⟩, prog_12_method_137_code, 3, some (.int))
-- the layout: kind of each cell: (0, class, 0), (1, element type, length), (2, first, stride); what each field is: 0 int, 1 reference, 2 long, 3 + offset a final reference
def sm_lyL : List (Nat × Nat × Nat) := [(0, 9, 0), (0, 4, 0), (1, 0, 23), (1, 0, 23), (1, 0, 16), (1, 0, 6), (1, 0, 6), (1, 0, 10), (1, 0, 10), (1, 0, 10), (0, 6, 0), (1, 0, 300), (1, 0, 300), (1, 0, 12), (1, 0, 96), (1, 0, 96), (1, 0, 12), (0, 5, 0), (0, 8, 0), (1, 1, 900), (1, 0, 901), (1, 0, 901), (1, 0, 901), (1, 0, 901), (0, 4, 0), (1, 0, 23), (1, 0, 23), (1, 0, 16), (1, 0, 6), (1, 0, 6), (1, 0, 10), (1, 0, 10), (1, 0, 10), (0, 6, 0), (1, 0, 300), (1, 0, 300), (1, 0, 12), (1, 0, 96), (1, 0, 96), (1, 0, 12), (0, 7, 0), (1, 0, 8), (1, 0, 8), (1, 0, 23), (1, 0, 23), (1, 0, 23), (1, 0, 23), (1, 0, 23), (0, 0, 0), (0, 3, 0), (1, 0, 50), (1, 0, 50), (1, 0, 50), (0, 7, 0), (1, 0, 8), (1, 0, 8), (1, 0, 23), (1, 0, 23), (1, 0, 23), (1, 0, 23), (1, 0, 23), (0, 0, 0), (0, 3, 0), (1, 0, 50), (1, 0, 50), (1, 0, 50), (2, 67, 13), (0, 7, 0), (1, 0, 8), (1, 0, 8), (1, 0, 23), (1, 0, 23), (1, 0, 23), (1, 0, 23), (1, 0, 23), (0, 0, 0), (0, 3, 0), (1, 0, 50), (1, 0, 50), (1, 0, 50), (0, 7, 0), (1, 0, 8), (1, 0, 8), (1, 0, 23), (1, 0, 23), (1, 0, 23), (1, 0, 23), (1, 0, 23), (0, 0, 0), (0, 3, 0), (1, 0, 50), (1, 0, 50), (1, 0, 50), (0, 7, 0), (1, 0, 8), (1, 0, 8), (1, 0, 23), (1, 0, 23), (1, 0, 23), (1, 0, 23), (1, 0, 23), (0, 0, 0), (0, 3, 0), (1, 0, 50), (1, 0, 50), (1, 0, 50), (0, 2, 0), (0, 1, 0), (1, 0, 23), (1, 0, 23), (1, 0, 23), (1, 0, 8), (1, 0, 8), (1, 0, 8), (0, 10, 0), (1, 0, 1268), (1, 0, 1268), (1, 0, 350), (1, 0, 350), (1, 0, 1050), (1, 0, 900), (1, 0, 450), (1, 2, 450), (1, 0, 16), (1, 0, 6), (1, 0, 16), (1, 0, 16), (1, 0, 6), (1, 0, 6), (1, 0, 8), (1, 0, 8), (1, 0, 8)]
def sm_Ly (i : Nat) : Nat × Nat × Nat := sm_lyL.getD i (9, 0, 0)
def sm_fkL : List (List Nat) := [[0, 0, 0, 0], [4, 5, 6], [4, 8, 9, 10], [0, 4, 5, 6], [0, 0, 0, 0, 0, 0, 0, 4, 5, 6, 7, 8, 9, 10, 11, 12], [4, 1, 0, 0, 0, 0], [0, 0, 0, 4, 5, 6, 7, 8, 9], [1, 0, 0, 0, 0, 0, 0, 0, 0, 4, 5, 6, 7, 8, 9, 10, 11, 12], [4, 0, 5, 6, 7, 8, 0, 0], [20, 43, 56, 69, 0, 109], [4, 5, 6, 7, 8, 0, 0, 0, 9, 0, 0, 0, 0, 0, 0, 0, 0, 2, 10, 0, 0, 0, 0, 0, 11, 12, 13, 14, 15, 16, 17, 0, 18, 19, 20]]
def sm_fk (c k : Nat) : Nat := (sm_fkL.getD c []).getD k 0
def sm_tkL : List (List (Nat × Nat × Nat)) := [[(9, 0, 0), (9, 0, 0), (9, 0, 0), (9, 0, 0)], [(1, 0, 23), (1, 0, 23), (1, 0, 23)], [(0, 1, 0), (1, 0, 8), (1, 0, 8), (1, 0, 8)], [(9, 0, 0), (1, 0, 50), (1, 0, 50), (1, 0, 50)], [(9, 0, 0), (9, 0, 0), (9, 0, 0), (9, 0, 0), (9, 0, 0), (9, 0, 0), (9, 0, 0), (1, 0, 23), (1, 0, 23), (1, 0, 16), (1, 0, 6), (1, 0, 6), (1, 0, 10), (1, 0, 10), (1, 0, 10), (0, 6, 0)], [(0, 8, 0), (9, 0, 0), (9, 0, 0), (9, 0, 0), (9, 0, 0), (9, 0, 0)], [(9, 0, 0), (9, 0, 0), (9, 0, 0), (1, 0, 300), (1, 0, 300), (1, 0, 12), (1, 0, 96), (1, 0, 96), (1, 0, 12)], [(9, 0, 0), (9, 0, 0), (9, 0, 0), (9, 0, 0), (9, 0, 0), (9, 0, 0), (9, 0, 0), (9, 0, 0), (9, 0, 0), (1, 0, 8), (1, 0, 8), (1, 0, 23), (1, 0, 23), (1, 0, 23), (1, 0, 23), (1, 0, 23), (0, 0, 0), (0, 3, 0)], [(1, 1, 900), (9, 0, 0), (1, 0, 901), (1, 0, 901), (1, 0, 901), (1, 0, 901), (9, 0, 0), (9, 0, 0)], [(0, 5, 0), (0, 7, 0), (0, 7, 0), (2, 67, 13), (9, 0, 0), (0, 2, 0)], [(1, 0, 1268), (1, 0, 1268), (1, 0, 350), (1, 0, 350), (1, 0, 1050), (9, 0, 0), (9, 0, 0), (9, 0, 0), (1, 0, 900), (9, 0, 0), (9, 0, 0), (9, 0, 0), (9, 0, 0), (9, 0, 0), (9, 0, 0), (9, 0, 0), (9, 0, 0), (9, 0, 0), (1, 0, 450), (9, 0, 0), (9, 0, 0), (9, 0, 0), (9, 0, 0), (9, 0, 0), (1, 2, 450), (1, 0, 16), (1, 0, 6), (1, 0, 16), (1, 0, 16), (1, 0, 6), (1, 0, 6), (9, 0, 0), (1, 0, 8), (1, 0, 8), (1, 0, 8)]]
def sm_tk (c k : Nat) : Nat × Nat × Nat := (sm_tkL.getD c []).getD k (9, 0, 0)
def sm_szL : List Nat := [0, 3, 7, 3, 15, 22, 6, 12, 5, 113, 17]
def sm_sz (K : Nat × Nat × Nat) : Nat := (if K.1 = 0 then sm_szL.getD K.2.1 0 else 0) + 1
def sm_SL : List (Nat × String) := [(82, "zones"), (90, "damper"), (143, "supply"), (145, "exhaust"), (151, "open"), (102, "fan"), (157, "stair"), (110, "door"), (118, "target"), (122, "proof"), (126, "rule"), (197, "not"), (206, "alarm"), (208, "first"), (210, "ajar"), (212, "after"), (214, "running"), (216, "trouble"), (189, "and"), (195, "or"), (178, "do"), (227, "shut"), (229, "start"), (230, "stop"), (231, "extract"), (233, "press"), (235, "close"), (237, "purge")]
def sm_sl : List Nat := [5, 6, 6, 7, 4, 3, 5, 4, 6, 5, 4, 3, 5, 5, 4, 5, 7, 7, 3, 2, 2, 4, 5, 4, 7, 5, 5, 5]
def sm_sb : List (List Int32) := [[122, 111, 110, 101, 115], [100, 97, 109, 112, 101, 114], [115, 117, 112, 112, 108, 121], [101, 120, 104, 97, 117, 115, 116], [111, 112, 101, 110], [102, 97, 110], [115, 116, 97, 105, 114], [100, 111, 111, 114], [116, 97, 114, 103, 101, 116], [112, 114, 111, 111, 102], [114, 117, 108, 101], [110, 111, 116], [97, 108, 97, 114, 109], [102, 105, 114, 115, 116], [97, 106, 97, 114], [97, 102, 116, 101, 114], [114, 117, 110, 110, 105, 110, 103], [116, 114, 111, 117, 98, 108, 101], [97, 110, 100], [111, 114], [100, 111], [115, 104, 117, 116], [115, 116, 97, 114, 116], [115, 116, 111, 112], [101, 120, 116, 114, 97, 99, 116], [112, 114, 101, 115, 115], [99, 108, 111, 115, 101], [112, 117, 114, 103, 101]]
def sm_NL : List Cond := [.methodLinkNest "SmokeControl$Plant" 38 ⟨"SmokeControl$RuleBook", "<init>", "()V"⟩ "SmokeControl", .methodLinkNest "SmokeControl" 14 ⟨"SmokeControl$Reader", "<init>", "()V"⟩ "SmokeControl", .methodLinkNest "SmokeControl$Reader" 11 ⟨"SmokeControl$Text", "<init>", "()V"⟩ "SmokeControl", .methodLinkNest "SmokeControl$State" 35 ⟨"SmokeControl$Alarms", "<init>", "()V"⟩ "SmokeControl", .methodLinkNest "SmokeControl$State" 42 ⟨"SmokeControl$Log", "<init>", "()V"⟩ "SmokeControl", .methodLinkNest "SmokeControl$State" 100 ⟨"SmokeControl", "has", "(II)Z"⟩ "SmokeControl", .methodLinkNest "SmokeControl" 37 ⟨"SmokeControl$Engine", "<init>", "()V"⟩ "SmokeControl", .methodLinkNest "SmokeControl$Engine" 11 ⟨"SmokeControl$Commands", "<init>", "()V"⟩ "SmokeControl", .methodLinkNest "SmokeControl$Plant" 69 ⟨"SmokeControl", "with", "(IIZ)I"⟩ "SmokeControl", .methodLinkNest "SmokeControl$Reader" 167 ⟨"SmokeControl", "has", "(II)Z"⟩ "SmokeControl", .methodLinkNest "SmokeControl$Commands" 40 ⟨"SmokeControl", "has", "(II)Z"⟩ "SmokeControl", .methodLinkNest "SmokeControl$Engine" 88 ⟨"SmokeControl", "has", "(II)Z"⟩ "SmokeControl", .methodLinkNest "SmokeControl$State" 127 ⟨"SmokeControl", "with", "(IIZ)I"⟩ "SmokeControl", .methodLinkNest "SmokeControl$Plant" 73 ⟨"SmokeControl", "has", "(II)Z"⟩ "SmokeControl", .methodLinkNest "SmokeControl$Alarms" 39 ⟨"SmokeControl", "has", "(II)Z"⟩ "SmokeControl", .methodLinkNest "SmokeControl$Alarms" 43 ⟨"SmokeControl", "with", "(IIZ)I"⟩ "SmokeControl", .methodLinkNest "SmokeControl$State" 107 ⟨"SmokeControl", "copyRow", "([I[I)V"⟩ "SmokeControl", .methodLinkNest "SmokeControl$Log" 32 ⟨"SmokeControl", "copyRow", "([I[I)V"⟩ "SmokeControl"]
