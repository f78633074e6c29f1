-- ===== PART A: goes FIRST, ahead of the names: the tables' words, and 'selects' of the private methods out of them =====
/-- a private method of a class that the tables say can be made, by its rows of tables_1 -/
def lw_okq (q : MethodName × Nat) : Prop := (q.1.cls ≠ "java/lang/invoke/MethodHandle" ∧ q.1.cls ≠ "java/lang/invoke/VarHandle") ∧ Cond.instantiable q.1.cls q.2 ∈ tables_1 ∧ Cond.privateMethod q.1 ∈ tables_1 ∧ Cond.instanceMethod q.1 ∈ tables_1
theorem lw_p0 : lw_okq (⟨"SilentHouse$Tokens", "sign", "(I)I"⟩, 5) := ⟨⟨by decide +kernel, by decide +kernel⟩, List.mem_of_getElem? (i := 171) (by decide +kernel), List.mem_of_getElem? (i := 452) (by decide +kernel), List.mem_of_getElem? (i := 453) (by decide +kernel)⟩
theorem lw_p1 : lw_okq (⟨"SilentHouse$Tokens", "behind", "(IZ)I"⟩, 5) := ⟨⟨by decide +kernel, by decide +kernel⟩, List.mem_of_getElem? (i := 171) (by decide +kernel), List.mem_of_getElem? (i := 462) (by decide +kernel), List.mem_of_getElem? (i := 463) (by decide +kernel)⟩
theorem lw_p2 : lw_okq (⟨"SilentHouse$Tokens", "word", "(II)I"⟩, 5) := ⟨⟨by decide +kernel, by decide +kernel⟩, List.mem_of_getElem? (i := 171) (by decide +kernel), List.mem_of_getElem? (i := 469) (by decide +kernel), List.mem_of_getElem? (i := 470) (by decide +kernel)⟩
theorem lw_p3 : lw_okq (⟨"SilentHouse$Tokens", "number", "(II)I"⟩, 5) := ⟨⟨by decide +kernel, by decide +kernel⟩, List.mem_of_getElem? (i := 171) (by decide +kernel), List.mem_of_getElem? (i := 522) (by decide +kernel), List.mem_of_getElem? (i := 523) (by decide +kernel)⟩
theorem lw_p4 : lw_okq (⟨"SilentHouse$Reader", "clause", "()V"⟩, 15) := ⟨⟨by decide +kernel, by decide +kernel⟩, List.mem_of_getElem? (i := 165) (by decide +kernel), List.mem_of_getElem? (i := 532) (by decide +kernel), List.mem_of_getElem? (i := 533) (by decide +kernel)⟩
theorem lw_p5 : lw_okq (⟨"SilentHouse$Reader", "refuse", "(I)V"⟩, 15) := ⟨⟨by decide +kernel, by decide +kernel⟩, List.mem_of_getElem? (i := 165) (by decide +kernel), List.mem_of_getElem? (i := 536) (by decide +kernel), List.mem_of_getElem? (i := 537) (by decide +kernel)⟩
theorem lw_p6 : lw_okq (⟨"SilentHouse$Reader", "advance", "()V"⟩, 15) := ⟨⟨by decide +kernel, by decide +kernel⟩, List.mem_of_getElem? (i := 165) (by decide +kernel), List.mem_of_getElem? (i := 540) (by decide +kernel), List.mem_of_getElem? (i := 541) (by decide +kernel)⟩
theorem lw_p7 : lw_okq (⟨"SilentHouse$Reader", "chain", "(II)V"⟩, 15) := ⟨⟨by decide +kernel, by decide +kernel⟩, List.mem_of_getElem? (i := 165) (by decide +kernel), List.mem_of_getElem? (i := 544) (by decide +kernel), List.mem_of_getElem? (i := 545) (by decide +kernel)⟩
theorem lw_p8 : lw_okq (⟨"SilentHouse$Reader", "operand", "(II)V"⟩, 15) := ⟨⟨by decide +kernel, by decide +kernel⟩, List.mem_of_getElem? (i := 165) (by decide +kernel), List.mem_of_getElem? (i := 548) (by decide +kernel), List.mem_of_getElem? (i := 549) (by decide +kernel)⟩
theorem lw_p9 : lw_okq (⟨"SilentHouse$Reader", "ask", "(I)V"⟩, 15) := ⟨⟨by decide +kernel, by decide +kernel⟩, List.mem_of_getElem? (i := 165) (by decide +kernel), List.mem_of_getElem? (i := 552) (by decide +kernel), List.mem_of_getElem? (i := 553) (by decide +kernel)⟩
theorem lw_p10 : lw_okq (⟨"SilentHouse$Reader", "opens", "(I)Z"⟩, 15) := ⟨⟨by decide +kernel, by decide +kernel⟩, List.mem_of_getElem? (i := 165) (by decide +kernel), List.mem_of_getElem? (i := 556) (by decide +kernel), List.mem_of_getElem? (i := 557) (by decide +kernel)⟩
theorem lw_p11 : lw_okq (⟨"SilentHouse$Reader", "emit", "(I)V"⟩, 15) := ⟨⟨by decide +kernel, by decide +kernel⟩, List.mem_of_getElem? (i := 165) (by decide +kernel), List.mem_of_getElem? (i := 560) (by decide +kernel), List.mem_of_getElem? (i := 561) (by decide +kernel)⟩
theorem lw_p12 : lw_okq (⟨"SilentHouse$Reader", "one", "(I)V"⟩, 15) := ⟨⟨by decide +kernel, by decide +kernel⟩, List.mem_of_getElem? (i := 165) (by decide +kernel), List.mem_of_getElem? (i := 567) (by decide +kernel), List.mem_of_getElem? (i := 568) (by decide +kernel)⟩
theorem lw_p13 : lw_okq (⟨"SilentHouse$Reader", "numberTo", "(I)I"⟩, 15) := ⟨⟨by decide +kernel, by decide +kernel⟩, List.mem_of_getElem? (i := 165) (by decide +kernel), List.mem_of_getElem? (i := 571) (by decide +kernel), List.mem_of_getElem? (i := 572) (by decide +kernel)⟩
theorem lw_p14 : lw_okq (⟨"SilentHouse$Reader", "nameOf", "(I)V"⟩, 15) := ⟨⟨by decide +kernel, by decide +kernel⟩, List.mem_of_getElem? (i := 165) (by decide +kernel), List.mem_of_getElem? (i := 575) (by decide +kernel), List.mem_of_getElem? (i := 576) (by decide +kernel)⟩
theorem lw_p15 : lw_okq (⟨"SilentHouse$Reader", "expect", "(I)V"⟩, 15) := ⟨⟨by decide +kernel, by decide +kernel⟩, List.mem_of_getElem? (i := 165) (by decide +kernel), List.mem_of_getElem? (i := 581) (by decide +kernel), List.mem_of_getElem? (i := 582) (by decide +kernel)⟩
def lw_privs_1 : List (MethodName × Nat) := [(⟨"SilentHouse$Tokens", "sign", "(I)I"⟩, 5), (⟨"SilentHouse$Tokens", "behind", "(IZ)I"⟩, 5), (⟨"SilentHouse$Tokens", "word", "(II)I"⟩, 5), (⟨"SilentHouse$Tokens", "number", "(II)I"⟩, 5), (⟨"SilentHouse$Reader", "clause", "()V"⟩, 15), (⟨"SilentHouse$Reader", "refuse", "(I)V"⟩, 15), (⟨"SilentHouse$Reader", "advance", "()V"⟩, 15), (⟨"SilentHouse$Reader", "chain", "(II)V"⟩, 15), (⟨"SilentHouse$Reader", "operand", "(II)V"⟩, 15), (⟨"SilentHouse$Reader", "ask", "(I)V"⟩, 15), (⟨"SilentHouse$Reader", "opens", "(I)Z"⟩, 15), (⟨"SilentHouse$Reader", "emit", "(I)V"⟩, 15), (⟨"SilentHouse$Reader", "one", "(I)V"⟩, 15), (⟨"SilentHouse$Reader", "numberTo", "(I)I"⟩, 15), (⟨"SilentHouse$Reader", "nameOf", "(I)V"⟩, 15), (⟨"SilentHouse$Reader", "expect", "(I)V"⟩, 15)]
theorem lw_r1 : ∀ q ∈ lw_privs_1, lw_okq q := List.forall_mem_cons.mpr ⟨lw_p0, List.forall_mem_cons.mpr ⟨lw_p1, List.forall_mem_cons.mpr ⟨lw_p2, List.forall_mem_cons.mpr ⟨lw_p3, List.forall_mem_cons.mpr ⟨lw_p4, List.forall_mem_cons.mpr ⟨lw_p5, List.forall_mem_cons.mpr ⟨lw_p6, List.forall_mem_cons.mpr ⟨lw_p7, List.forall_mem_cons.mpr ⟨lw_p8, List.forall_mem_cons.mpr ⟨lw_p9, List.forall_mem_cons.mpr ⟨lw_p10, List.forall_mem_cons.mpr ⟨lw_p11, List.forall_mem_cons.mpr ⟨lw_p12, List.forall_mem_cons.mpr ⟨lw_p13, List.forall_mem_cons.mpr ⟨lw_p14, List.forall_mem_cons.mpr ⟨lw_p15, fun _ h => absurd h List.not_mem_nil⟩⟩⟩⟩⟩⟩⟩⟩⟩⟩⟩⟩⟩⟩⟩⟩
theorem lw_p16 : lw_okq (⟨"SilentHouse$Reader", "deed", "(I)V"⟩, 15) := ⟨⟨by decide +kernel, by decide +kernel⟩, List.mem_of_getElem? (i := 165) (by decide +kernel), List.mem_of_getElem? (i := 588) (by decide +kernel), List.mem_of_getElem? (i := 589) (by decide +kernel)⟩
theorem lw_p17 : lw_okq (⟨"SilentHouse$Ear", "laughs", "(IIIII)Z"⟩, 7) := ⟨⟨by decide +kernel, by decide +kernel⟩, List.mem_of_getElem? (i := 271) (by decide +kernel), List.mem_of_getElem? (i := 713) (by decide +kernel), List.mem_of_getElem? (i := 714) (by decide +kernel)⟩
theorem lw_p18 : lw_okq (⟨"SilentHouse$Judge", "standsFor", "(I)I"⟩, 2) := ⟨⟨by decide +kernel, by decide +kernel⟩, List.mem_of_getElem? (i := 256) (by decide +kernel), List.mem_of_getElem? (i := 731) (by decide +kernel), List.mem_of_getElem? (i := 732) (by decide +kernel)⟩
theorem lw_p19 : lw_okq (⟨"SilentHouse$Evening", "count", "(I)I"⟩, 5) := ⟨⟨by decide +kernel, by decide +kernel⟩, List.mem_of_getElem? (i := 305) (by decide +kernel), List.mem_of_getElem? (i := 742) (by decide +kernel), List.mem_of_getElem? (i := 743) (by decide +kernel)⟩
theorem lw_p20 : lw_okq (⟨"SilentHouse$Evening", "dues", "(III)I"⟩, 5) := ⟨⟨by decide +kernel, by decide +kernel⟩, List.mem_of_getElem? (i := 305) (by decide +kernel), List.mem_of_getElem? (i := 759) (by decide +kernel), List.mem_of_getElem? (i := 760) (by decide +kernel)⟩
theorem lw_p21 : lw_okq (⟨"SilentHouse", "act", "(LSilentHouse$Script;I)Z"⟩, 7) := ⟨⟨by decide +kernel, by decide +kernel⟩, List.mem_of_getElem? (i := 21) (by decide +kernel), List.mem_of_getElem? (i := 771) (by decide +kernel), List.mem_of_getElem? (i := 772) (by decide +kernel)⟩
theorem lw_p22 : lw_okq (⟨"SilentHouse$Reckoner", "startOrder", "()V"⟩, 13) := ⟨⟨by decide +kernel, by decide +kernel⟩, List.mem_of_getElem? (i := 327) (by decide +kernel), List.mem_of_getElem? (i := 842) (by decide +kernel), List.mem_of_getElem? (i := 843) (by decide +kernel)⟩
theorem lw_p23 : lw_okq (⟨"SilentHouse$Reckoner", "keepOrder", "()V"⟩, 13) := ⟨⟨by decide +kernel, by decide +kernel⟩, List.mem_of_getElem? (i := 327) (by decide +kernel), List.mem_of_getElem? (i := 849) (by decide +kernel), List.mem_of_getElem? (i := 850) (by decide +kernel)⟩
theorem lw_p24 : lw_okq (⟨"SilentHouse$Reckoner", "nextOrder", "()V"⟩, 13) := ⟨⟨by decide +kernel, by decide +kernel⟩, List.mem_of_getElem? (i := 327) (by decide +kernel), List.mem_of_getElem? (i := 853) (by decide +kernel), List.mem_of_getElem? (i := 854) (by decide +kernel)⟩
theorem lw_p25 : lw_okq (⟨"SilentHouse$Reckoner", "swap", "(II)V"⟩, 13) := ⟨⟨by decide +kernel, by decide +kernel⟩, List.mem_of_getElem? (i := 327) (by decide +kernel), List.mem_of_getElem? (i := 857) (by decide +kernel), List.mem_of_getElem? (i := 858) (by decide +kernel)⟩
theorem lw_p26 : lw_okq (⟨"SilentHouse$Reckoner", "loudOf", "(I)I"⟩, 13) := ⟨⟨by decide +kernel, by decide +kernel⟩, List.mem_of_getElem? (i := 327) (by decide +kernel), List.mem_of_getElem? (i := 871) (by decide +kernel), List.mem_of_getElem? (i := 872) (by decide +kernel)⟩
theorem lw_p27 : lw_okq (⟨"SilentHouse$Reckoner", "soundsAsSeen", "(I)Z"⟩, 13) := ⟨⟨by decide +kernel, by decide +kernel⟩, List.mem_of_getElem? (i := 327) (by decide +kernel), List.mem_of_getElem? (i := 895) (by decide +kernel), List.mem_of_getElem? (i := 896) (by decide +kernel)⟩
theorem lw_p28 : lw_okq (⟨"SilentHouseModel", "set", "(III)V"⟩, 37) := ⟨⟨by decide +kernel, by decide +kernel⟩, List.mem_of_getElem? (i := 921) (by decide +kernel), List.mem_of_getElem? (i := 1049) (by decide +kernel), List.mem_of_getElem? (i := 1050) (by decide +kernel)⟩
theorem lw_p29 : lw_okq (⟨"SilentHouseModel", "four", "(I)V"⟩, 37) := ⟨⟨by decide +kernel, by decide +kernel⟩, List.mem_of_getElem? (i := 921) (by decide +kernel), List.mem_of_getElem? (i := 1065) (by decide +kernel), List.mem_of_getElem? (i := 1066) (by decide +kernel)⟩
theorem lw_p30 : lw_okq (⟨"SilentHouseModel", "readText", "()I"⟩, 37) := ⟨⟨by decide +kernel, by decide +kernel⟩, List.mem_of_getElem? (i := 921) (by decide +kernel), List.mem_of_getElem? (i := 1077) (by decide +kernel), List.mem_of_getElem? (i := 1078) (by decide +kernel)⟩
theorem lw_p31 : lw_okq (⟨"SilentHouseModel", "nextToken", "()V"⟩, 37) := ⟨⟨by decide +kernel, by decide +kernel⟩, List.mem_of_getElem? (i := 921) (by decide +kernel), List.mem_of_getElem? (i := 1081) (by decide +kernel), List.mem_of_getElem? (i := 1082) (by decide +kernel)⟩
def lw_privs_2 : List (MethodName × Nat) := [(⟨"SilentHouse$Reader", "deed", "(I)V"⟩, 15), (⟨"SilentHouse$Ear", "laughs", "(IIIII)Z"⟩, 7), (⟨"SilentHouse$Judge", "standsFor", "(I)I"⟩, 2), (⟨"SilentHouse$Evening", "count", "(I)I"⟩, 5), (⟨"SilentHouse$Evening", "dues", "(III)I"⟩, 5), (⟨"SilentHouse", "act", "(LSilentHouse$Script;I)Z"⟩, 7), (⟨"SilentHouse$Reckoner", "startOrder", "()V"⟩, 13), (⟨"SilentHouse$Reckoner", "keepOrder", "()V"⟩, 13), (⟨"SilentHouse$Reckoner", "nextOrder", "()V"⟩, 13), (⟨"SilentHouse$Reckoner", "swap", "(II)V"⟩, 13), (⟨"SilentHouse$Reckoner", "loudOf", "(I)I"⟩, 13), (⟨"SilentHouse$Reckoner", "soundsAsSeen", "(I)Z"⟩, 13), (⟨"SilentHouseModel", "set", "(III)V"⟩, 37), (⟨"SilentHouseModel", "four", "(I)V"⟩, 37), (⟨"SilentHouseModel", "readText", "()I"⟩, 37), (⟨"SilentHouseModel", "nextToken", "()V"⟩, 37)]
theorem lw_r2 : ∀ q ∈ lw_privs_2, lw_okq q := List.forall_mem_cons.mpr ⟨lw_p16, List.forall_mem_cons.mpr ⟨lw_p17, List.forall_mem_cons.mpr ⟨lw_p18, List.forall_mem_cons.mpr ⟨lw_p19, List.forall_mem_cons.mpr ⟨lw_p20, List.forall_mem_cons.mpr ⟨lw_p21, List.forall_mem_cons.mpr ⟨lw_p22, List.forall_mem_cons.mpr ⟨lw_p23, List.forall_mem_cons.mpr ⟨lw_p24, List.forall_mem_cons.mpr ⟨lw_p25, List.forall_mem_cons.mpr ⟨lw_p26, List.forall_mem_cons.mpr ⟨lw_p27, List.forall_mem_cons.mpr ⟨lw_p28, List.forall_mem_cons.mpr ⟨lw_p29, List.forall_mem_cons.mpr ⟨lw_p30, List.forall_mem_cons.mpr ⟨lw_p31, fun _ h => absurd h List.not_mem_nil⟩⟩⟩⟩⟩⟩⟩⟩⟩⟩⟩⟩⟩⟩⟩⟩
theorem lw_p32 : lw_okq (⟨"SilentHouseModel", "byteAt", "(I)I"⟩, 37) := ⟨⟨by decide +kernel, by decide +kernel⟩, List.mem_of_getElem? (i := 921) (by decide +kernel), List.mem_of_getElem? (i := 1085) (by decide +kernel), List.mem_of_getElem? (i := 1086) (by decide +kernel)⟩
theorem lw_p33 : lw_okq (⟨"SilentHouseModel", "clause", "()I"⟩, 37) := ⟨⟨by decide +kernel, by decide +kernel⟩, List.mem_of_getElem? (i := 921) (by decide +kernel), List.mem_of_getElem? (i := 1096) (by decide +kernel), List.mem_of_getElem? (i := 1097) (by decide +kernel)⟩
theorem lw_p34 : lw_okq (⟨"SilentHouseModel", "sortOf", "()I"⟩, 37) := ⟨⟨by decide +kernel, by decide +kernel⟩, List.mem_of_getElem? (i := 921) (by decide +kernel), List.mem_of_getElem? (i := 1100) (by decide +kernel), List.mem_of_getElem? (i := 1101) (by decide +kernel)⟩
theorem lw_p35 : lw_okq (⟨"SilentHouseModel", "isWord", "(J)Z"⟩, 37) := ⟨⟨by decide +kernel, by decide +kernel⟩, List.mem_of_getElem? (i := 921) (by decide +kernel), List.mem_of_getElem? (i := 1113) (by decide +kernel), List.mem_of_getElem? (i := 1114) (by decide +kernel)⟩
theorem lw_p36 : lw_okq (⟨"SilentHouseModel", "either", "()I"⟩, 37) := ⟨⟨by decide +kernel, by decide +kernel⟩, List.mem_of_getElem? (i := 921) (by decide +kernel), List.mem_of_getElem? (i := 1120) (by decide +kernel), List.mem_of_getElem? (i := 1121) (by decide +kernel)⟩
theorem lw_p37 : lw_okq (⟨"SilentHouseModel", "asks", "()I"⟩, 37) := ⟨⟨by decide +kernel, by decide +kernel⟩, List.mem_of_getElem? (i := 921) (by decide +kernel), List.mem_of_getElem? (i := 1124) (by decide +kernel), List.mem_of_getElem? (i := 1125) (by decide +kernel)⟩
theorem lw_p38 : lw_okq (⟨"SilentHouseModel", "summed", "()I"⟩, 37) := ⟨⟨by decide +kernel, by decide +kernel⟩, List.mem_of_getElem? (i := 921) (by decide +kernel), List.mem_of_getElem? (i := 1128) (by decide +kernel), List.mem_of_getElem? (i := 1129) (by decide +kernel)⟩
theorem lw_p39 : lw_okq (⟨"SilentHouseModel", "goesOn", "()Z"⟩, 37) := ⟨⟨by decide +kernel, by decide +kernel⟩, List.mem_of_getElem? (i := 921) (by decide +kernel), List.mem_of_getElem? (i := 1132) (by decide +kernel), List.mem_of_getElem? (i := 1133) (by decide +kernel)⟩
theorem lw_p40 : lw_okq (⟨"SilentHouseModel", "hasParen", "()Z"⟩, 37) := ⟨⟨by decide +kernel, by decide +kernel⟩, List.mem_of_getElem? (i := 921) (by decide +kernel), List.mem_of_getElem? (i := 1136) (by decide +kernel), List.mem_of_getElem? (i := 1137) (by decide +kernel)⟩
theorem lw_p41 : lw_okq (⟨"SilentHouseModel", "behindOne", "()I"⟩, 37) := ⟨⟨by decide +kernel, by decide +kernel⟩, List.mem_of_getElem? (i := 921) (by decide +kernel), List.mem_of_getElem? (i := 1140) (by decide +kernel), List.mem_of_getElem? (i := 1141) (by decide +kernel)⟩
theorem lw_p42 : lw_okq (⟨"SilentHouseModel", "settle", "(I)V"⟩, 37) := ⟨⟨by decide +kernel, by decide +kernel⟩, List.mem_of_getElem? (i := 921) (by decide +kernel), List.mem_of_getElem? (i := 1144) (by decide +kernel), List.mem_of_getElem? (i := 1145) (by decide +kernel)⟩
theorem lw_p43 : lw_okq (⟨"SilentHouseModel", "emit", "(II)V"⟩, 37) := ⟨⟨by decide +kernel, by decide +kernel⟩, List.mem_of_getElem? (i := 921) (by decide +kernel), List.mem_of_getElem? (i := 1148) (by decide +kernel), List.mem_of_getElem? (i := 1149) (by decide +kernel)⟩
theorem lw_p44 : lw_okq (⟨"SilentHouseModel", "push", "(I)V"⟩, 37) := ⟨⟨by decide +kernel, by decide +kernel⟩, List.mem_of_getElem? (i := 921) (by decide +kernel), List.mem_of_getElem? (i := 1152) (by decide +kernel), List.mem_of_getElem? (i := 1153) (by decide +kernel)⟩
theorem lw_p45 : lw_okq (⟨"SilentHouseModel", "whole", "()V"⟩, 37) := ⟨⟨by decide +kernel, by decide +kernel⟩, List.mem_of_getElem? (i := 921) (by decide +kernel), List.mem_of_getElem? (i := 1156) (by decide +kernel), List.mem_of_getElem? (i := 1157) (by decide +kernel)⟩
theorem lw_p46 : lw_okq (⟨"SilentHouseModel", "beginOne", "()I"⟩, 37) := ⟨⟨by decide +kernel, by decide +kernel⟩, List.mem_of_getElem? (i := 921) (by decide +kernel), List.mem_of_getElem? (i := 1160) (by decide +kernel), List.mem_of_getElem? (i := 1161) (by decide +kernel)⟩
theorem lw_p47 : lw_okq (⟨"SilentHouseModel", "nameOf", "()I"⟩, 37) := ⟨⟨by decide +kernel, by decide +kernel⟩, List.mem_of_getElem? (i := 921) (by decide +kernel), List.mem_of_getElem? (i := 1164) (by decide +kernel), List.mem_of_getElem? (i := 1165) (by decide +kernel)⟩
def lw_privs_3 : List (MethodName × Nat) := [(⟨"SilentHouseModel", "byteAt", "(I)I"⟩, 37), (⟨"SilentHouseModel", "clause", "()I"⟩, 37), (⟨"SilentHouseModel", "sortOf", "()I"⟩, 37), (⟨"SilentHouseModel", "isWord", "(J)Z"⟩, 37), (⟨"SilentHouseModel", "either", "()I"⟩, 37), (⟨"SilentHouseModel", "asks", "()I"⟩, 37), (⟨"SilentHouseModel", "summed", "()I"⟩, 37), (⟨"SilentHouseModel", "goesOn", "()Z"⟩, 37), (⟨"SilentHouseModel", "hasParen", "()Z"⟩, 37), (⟨"SilentHouseModel", "behindOne", "()I"⟩, 37), (⟨"SilentHouseModel", "settle", "(I)V"⟩, 37), (⟨"SilentHouseModel", "emit", "(II)V"⟩, 37), (⟨"SilentHouseModel", "push", "(I)V"⟩, 37), (⟨"SilentHouseModel", "whole", "()V"⟩, 37), (⟨"SilentHouseModel", "beginOne", "()I"⟩, 37), (⟨"SilentHouseModel", "nameOf", "()I"⟩, 37)]
theorem lw_r3 : ∀ q ∈ lw_privs_3, lw_okq q := List.forall_mem_cons.mpr ⟨lw_p32, List.forall_mem_cons.mpr ⟨lw_p33, List.forall_mem_cons.mpr ⟨lw_p34, List.forall_mem_cons.mpr ⟨lw_p35, List.forall_mem_cons.mpr ⟨lw_p36, List.forall_mem_cons.mpr ⟨lw_p37, List.forall_mem_cons.mpr ⟨lw_p38, List.forall_mem_cons.mpr ⟨lw_p39, List.forall_mem_cons.mpr ⟨lw_p40, List.forall_mem_cons.mpr ⟨lw_p41, List.forall_mem_cons.mpr ⟨lw_p42, List.forall_mem_cons.mpr ⟨lw_p43, List.forall_mem_cons.mpr ⟨lw_p44, List.forall_mem_cons.mpr ⟨lw_p45, List.forall_mem_cons.mpr ⟨lw_p46, List.forall_mem_cons.mpr ⟨lw_p47, fun _ h => absurd h List.not_mem_nil⟩⟩⟩⟩⟩⟩⟩⟩⟩⟩⟩⟩⟩⟩⟩⟩
theorem lw_p48 : lw_okq (⟨"SilentHouseModel", "isLaughing", "()Z"⟩, 37) := ⟨⟨by decide +kernel, by decide +kernel⟩, List.mem_of_getElem? (i := 921) (by decide +kernel), List.mem_of_getElem? (i := 1168) (by decide +kernel), List.mem_of_getElem? (i := 1169) (by decide +kernel)⟩
theorem lw_p49 : lw_okq (⟨"SilentHouseModel", "isBarred", "(I)Z"⟩, 37) := ⟨⟨by decide +kernel, by decide +kernel⟩, List.mem_of_getElem? (i := 921) (by decide +kernel), List.mem_of_getElem? (i := 1172) (by decide +kernel), List.mem_of_getElem? (i := 1173) (by decide +kernel)⟩
theorem lw_p50 : lw_okq (⟨"SilentHouseModel", "compareOf", "()I"⟩, 37) := ⟨⟨by decide +kernel, by decide +kernel⟩, List.mem_of_getElem? (i := 921) (by decide +kernel), List.mem_of_getElem? (i := 1176) (by decide +kernel), List.mem_of_getElem? (i := 1177) (by decide +kernel)⟩
theorem lw_p51 : lw_okq (⟨"SilentHouseModel", "line0", "(II)I"⟩, 37) := ⟨⟨by decide +kernel, by decide +kernel⟩, List.mem_of_getElem? (i := 921) (by decide +kernel), List.mem_of_getElem? (i := 1181) (by decide +kernel), List.mem_of_getElem? (i := 1182) (by decide +kernel)⟩
theorem lw_p52 : lw_okq (⟨"SilentHouseModel", "figure", "(II)I"⟩, 37) := ⟨⟨by decide +kernel, by decide +kernel⟩, List.mem_of_getElem? (i := 921) (by decide +kernel), List.mem_of_getElem? (i := 1185) (by decide +kernel), List.mem_of_getElem? (i := 1186) (by decide +kernel)⟩
theorem lw_p53 : lw_okq (⟨"SilentHouseModel", "isLine", "(I)Z"⟩, 37) := ⟨⟨by decide +kernel, by decide +kernel⟩, List.mem_of_getElem? (i := 921) (by decide +kernel), List.mem_of_getElem? (i := 1202) (by decide +kernel), List.mem_of_getElem? (i := 1203) (by decide +kernel)⟩
theorem lw_p54 : lw_okq (⟨"SilentHouseModel", "seatAll", "()V"⟩, 37) := ⟨⟨by decide +kernel, by decide +kernel⟩, List.mem_of_getElem? (i := 921) (by decide +kernel), List.mem_of_getElem? (i := 1206) (by decide +kernel), List.mem_of_getElem? (i := 1207) (by decide +kernel)⟩
theorem lw_p55 : lw_okq (⟨"SilentHouseModel", "isPerson", "(I)Z"⟩, 37) := ⟨⟨by decide +kernel, by decide +kernel⟩, List.mem_of_getElem? (i := 921) (by decide +kernel), List.mem_of_getElem? (i := 1210) (by decide +kernel), List.mem_of_getElem? (i := 1211) (by decide +kernel)⟩
theorem lw_p56 : lw_okq (⟨"SilentHouseModel", "get", "(II)I"⟩, 37) := ⟨⟨by decide +kernel, by decide +kernel⟩, List.mem_of_getElem? (i := 921) (by decide +kernel), List.mem_of_getElem? (i := 1214) (by decide +kernel), List.mem_of_getElem? (i := 1215) (by decide +kernel)⟩
theorem lw_p57 : lw_okq (⟨"SilentHouseModel", "loudBefore", "(II)I"⟩, 37) := ⟨⟨by decide +kernel, by decide +kernel⟩, List.mem_of_getElem? (i := 921) (by decide +kernel), List.mem_of_getElem? (i := 1218) (by decide +kernel), List.mem_of_getElem? (i := 1219) (by decide +kernel)⟩
theorem lw_p58 : lw_okq (⟨"SilentHouseModel", "hear", "(II)V"⟩, 37) := ⟨⟨by decide +kernel, by decide +kernel⟩, List.mem_of_getElem? (i := 921) (by decide +kernel), List.mem_of_getElem? (i := 1222) (by decide +kernel), List.mem_of_getElem? (i := 1223) (by decide +kernel)⟩
theorem lw_p59 : lw_okq (⟨"SilentHouseModel", "laughs", "(II)Z"⟩, 37) := ⟨⟨by decide +kernel, by decide +kernel⟩, List.mem_of_getElem? (i := 921) (by decide +kernel), List.mem_of_getElem? (i := 1229) (by decide +kernel), List.mem_of_getElem? (i := 1230) (by decide +kernel)⟩
theorem lw_p60 : lw_okq (⟨"SilentHouseModel", "clauseOf", "(I)I"⟩, 37) := ⟨⟨by decide +kernel, by decide +kernel⟩, List.mem_of_getElem? (i := 921) (by decide +kernel), List.mem_of_getElem? (i := 1233) (by decide +kernel), List.mem_of_getElem? (i := 1234) (by decide +kernel)⟩
theorem lw_p61 : lw_okq (⟨"SilentHouseModel", "nearOf", "(I)I"⟩, 37) := ⟨⟨by decide +kernel, by decide +kernel⟩, List.mem_of_getElem? (i := 921) (by decide +kernel), List.mem_of_getElem? (i := 1237) (by decide +kernel), List.mem_of_getElem? (i := 1238) (by decide +kernel)⟩
theorem lw_p62 : lw_okq (⟨"SilentHouseModel", "work", "(I)V"⟩, 37) := ⟨⟨by decide +kernel, by decide +kernel⟩, List.mem_of_getElem? (i := 921) (by decide +kernel), List.mem_of_getElem? (i := 1250) (by decide +kernel), List.mem_of_getElem? (i := 1251) (by decide +kernel)⟩
theorem lw_p63 : lw_okq (⟨"SilentHouseModel", "loudOf", "(II)I"⟩, 37) := ⟨⟨by decide +kernel, by decide +kernel⟩, List.mem_of_getElem? (i := 921) (by decide +kernel), List.mem_of_getElem? (i := 1265) (by decide +kernel), List.mem_of_getElem? (i := 1266) (by decide +kernel)⟩
def lw_privs_4 : List (MethodName × Nat) := [(⟨"SilentHouseModel", "isLaughing", "()Z"⟩, 37), (⟨"SilentHouseModel", "isBarred", "(I)Z"⟩, 37), (⟨"SilentHouseModel", "compareOf", "()I"⟩, 37), (⟨"SilentHouseModel", "line0", "(II)I"⟩, 37), (⟨"SilentHouseModel", "figure", "(II)I"⟩, 37), (⟨"SilentHouseModel", "isLine", "(I)Z"⟩, 37), (⟨"SilentHouseModel", "seatAll", "()V"⟩, 37), (⟨"SilentHouseModel", "isPerson", "(I)Z"⟩, 37), (⟨"SilentHouseModel", "get", "(II)I"⟩, 37), (⟨"SilentHouseModel", "loudBefore", "(II)I"⟩, 37), (⟨"SilentHouseModel", "hear", "(II)V"⟩, 37), (⟨"SilentHouseModel", "laughs", "(II)Z"⟩, 37), (⟨"SilentHouseModel", "clauseOf", "(I)I"⟩, 37), (⟨"SilentHouseModel", "nearOf", "(I)I"⟩, 37), (⟨"SilentHouseModel", "work", "(I)V"⟩, 37), (⟨"SilentHouseModel", "loudOf", "(II)I"⟩, 37)]
theorem lw_r4 : ∀ q ∈ lw_privs_4, lw_okq q := List.forall_mem_cons.mpr ⟨lw_p48, List.forall_mem_cons.mpr ⟨lw_p49, List.forall_mem_cons.mpr ⟨lw_p50, List.forall_mem_cons.mpr ⟨lw_p51, List.forall_mem_cons.mpr ⟨lw_p52, List.forall_mem_cons.mpr ⟨lw_p53, List.forall_mem_cons.mpr ⟨lw_p54, List.forall_mem_cons.mpr ⟨lw_p55, List.forall_mem_cons.mpr ⟨lw_p56, List.forall_mem_cons.mpr ⟨lw_p57, List.forall_mem_cons.mpr ⟨lw_p58, List.forall_mem_cons.mpr ⟨lw_p59, List.forall_mem_cons.mpr ⟨lw_p60, List.forall_mem_cons.mpr ⟨lw_p61, List.forall_mem_cons.mpr ⟨lw_p62, List.forall_mem_cons.mpr ⟨lw_p63, fun _ h => absurd h List.not_mem_nil⟩⟩⟩⟩⟩⟩⟩⟩⟩⟩⟩⟩⟩⟩⟩⟩
theorem lw_p64 : lw_okq (⟨"SilentHouseModel", "whoIsOn", "(I)I"⟩, 37) := ⟨⟨by decide +kernel, by decide +kernel⟩, List.mem_of_getElem? (i := 921) (by decide +kernel), List.mem_of_getElem? (i := 1280) (by decide +kernel), List.mem_of_getElem? (i := 1281) (by decide +kernel)⟩
theorem lw_p65 : lw_okq (⟨"SilentHouseModel", "keep", "()V"⟩, 37) := ⟨⟨by decide +kernel, by decide +kernel⟩, List.mem_of_getElem? (i := 921) (by decide +kernel), List.mem_of_getElem? (i := 1284) (by decide +kernel), List.mem_of_getElem? (i := 1285) (by decide +kernel)⟩
theorem lw_p66 : lw_okq (⟨"SilentHouseModel", "sitting", "()I"⟩, 37) := ⟨⟨by decide +kernel, by decide +kernel⟩, List.mem_of_getElem? (i := 921) (by decide +kernel), List.mem_of_getElem? (i := 1296) (by decide +kernel), List.mem_of_getElem? (i := 1297) (by decide +kernel)⟩
theorem lw_p67 : lw_okq (⟨"SilentHouseModel", "coughAll", "(I)I"⟩, 37) := ⟨⟨by decide +kernel, by decide +kernel⟩, List.mem_of_getElem? (i := 921) (by decide +kernel), List.mem_of_getElem? (i := 1300) (by decide +kernel), List.mem_of_getElem? (i := 1301) (by decide +kernel)⟩
theorem lw_p68 : lw_okq (⟨"SilentHouseModel", "duesOf", "(III)I"⟩, 37) := ⟨⟨by decide +kernel, by decide +kernel⟩, List.mem_of_getElem? (i := 921) (by decide +kernel), List.mem_of_getElem? (i := 1304) (by decide +kernel), List.mem_of_getElem? (i := 1305) (by decide +kernel)⟩
theorem lw_p69 : lw_okq (⟨"SilentHouseModel", "isPlayed", "(I)Z"⟩, 37) := ⟨⟨by decide +kernel, by decide +kernel⟩, List.mem_of_getElem? (i := 921) (by decide +kernel), List.mem_of_getElem? (i := 1312) (by decide +kernel), List.mem_of_getElem? (i := 1313) (by decide +kernel)⟩
theorem lw_p70 : lw_okq (⟨"SilentHouseModel", "allOf", "(I)I"⟩, 37) := ⟨⟨by decide +kernel, by decide +kernel⟩, List.mem_of_getElem? (i := 921) (by decide +kernel), List.mem_of_getElem? (i := 1327) (by decide +kernel), List.mem_of_getElem? (i := 1328) (by decide +kernel)⟩
theorem lw_p71 : lw_okq (⟨"SilentHouseModel", "firstRow", "()V"⟩, 37) := ⟨⟨by decide +kernel, by decide +kernel⟩, List.mem_of_getElem? (i := 921) (by decide +kernel), List.mem_of_getElem? (i := 1350) (by decide +kernel), List.mem_of_getElem? (i := 1351) (by decide +kernel)⟩
theorem lw_p72 : lw_okq (⟨"SilentHouseModel", "nextRow", "()Z"⟩, 37) := ⟨⟨by decide +kernel, by decide +kernel⟩, List.mem_of_getElem? (i := 921) (by decide +kernel), List.mem_of_getElem? (i := 1355) (by decide +kernel), List.mem_of_getElem? (i := 1356) (by decide +kernel)⟩
theorem lw_p73 : lw_okq (⟨"SilentHouseModel", "exchange", "(II)V"⟩, 37) := ⟨⟨by decide +kernel, by decide +kernel⟩, List.mem_of_getElem? (i := 921) (by decide +kernel), List.mem_of_getElem? (i := 1359) (by decide +kernel), List.mem_of_getElem? (i := 1360) (by decide +kernel)⟩
theorem lw_p74 : lw_okq (⟨"SilentHouseModel", "canBe", "(I)Z"⟩, 37) := ⟨⟨by decide +kernel, by decide +kernel⟩, List.mem_of_getElem? (i := 921) (by decide +kernel), List.mem_of_getElem? (i := 1379) (by decide +kernel), List.mem_of_getElem? (i := 1380) (by decide +kernel)⟩
def lw_privs_5 : List (MethodName × Nat) := [(⟨"SilentHouseModel", "whoIsOn", "(I)I"⟩, 37), (⟨"SilentHouseModel", "keep", "()V"⟩, 37), (⟨"SilentHouseModel", "sitting", "()I"⟩, 37), (⟨"SilentHouseModel", "coughAll", "(I)I"⟩, 37), (⟨"SilentHouseModel", "duesOf", "(III)I"⟩, 37), (⟨"SilentHouseModel", "isPlayed", "(I)Z"⟩, 37), (⟨"SilentHouseModel", "allOf", "(I)I"⟩, 37), (⟨"SilentHouseModel", "firstRow", "()V"⟩, 37), (⟨"SilentHouseModel", "nextRow", "()Z"⟩, 37), (⟨"SilentHouseModel", "exchange", "(II)V"⟩, 37), (⟨"SilentHouseModel", "canBe", "(I)Z"⟩, 37)]
theorem lw_r5 : ∀ q ∈ lw_privs_5, lw_okq q := List.forall_mem_cons.mpr ⟨lw_p64, List.forall_mem_cons.mpr ⟨lw_p65, List.forall_mem_cons.mpr ⟨lw_p66, List.forall_mem_cons.mpr ⟨lw_p67, List.forall_mem_cons.mpr ⟨lw_p68, List.forall_mem_cons.mpr ⟨lw_p69, List.forall_mem_cons.mpr ⟨lw_p70, List.forall_mem_cons.mpr ⟨lw_p71, List.forall_mem_cons.mpr ⟨lw_p72, List.forall_mem_cons.mpr ⟨lw_p73, List.forall_mem_cons.mpr ⟨lw_p74, fun _ h => absurd h List.not_mem_nil⟩⟩⟩⟩⟩⟩⟩⟩⟩⟩⟩
def lw_privs : List (MethodName × Nat) := lw_privs_1 ++ (lw_privs_2 ++ (lw_privs_3 ++ (lw_privs_4 ++ (lw_privs_5))))
def lw_tbl : List Cond := k2_sels lw_privs ++ tables_1
theorem lw_privs_ok : ∀ q ∈ lw_privs, lw_okq q := by
  show ∀ q ∈ lw_privs_1 ++ (lw_privs_2 ++ (lw_privs_3 ++ (lw_privs_4 ++ (lw_privs_5)))), lw_okq q
  exact List.forall_mem_append.mpr ⟨lw_r1, List.forall_mem_append.mpr ⟨lw_r2, List.forall_mem_append.mpr ⟨lw_r3, List.forall_mem_append.mpr ⟨lw_r4, lw_r5⟩⟩⟩⟩
def RX0 : String := "SilentHouse$Ear"
def TX0 : u_T := fun k => match k with
  | 0 => ("SilentHouse$Ear", "house", "LSilentHouse$House;", true)
  | 1 => ("SilentHouse$Ear", "judge", "LSilentHouse$Judge;", true)
  | 2 => ("SilentHouse$Ear", "asked", "[I", true)
  | 3 => ("SilentHouse$Ear", "agreed", "[I", true)
  | 4 => ("SilentHouse$Ear", "louds", "[I", true)
  | 5 => ("SilentHouse$Ear", "laughing", "I", false)
  | _ => ("SilentHouse$Ear", "rounds", "I", false)
def tyX0 : Nat → FieldType := fun k => match k with
  | 0 => .object "SilentHouse$House"
  | 1 => .object "SilentHouse$Judge"
  | 2 => .array .int
  | 3 => .array .int
  | 4 => .array .int
  | 5 => .int
  | _ => .int
abbrev wsX00 : List Cond := u_ws RX0 TX0 7
theorem nmX0 : ∀ a, a < 7 → ∀ b, b < 7 → a ≠ b → (TX0 a).2.1 ≠ (TX0 b).2.1 := by decide +kernel
theorem tyX0_ok : ∀ k, k < 7 → parseFieldDescriptor (TX0 k).2.2.1 = some (tyX0 k) := by decide +kernel
abbrev cX0_init : ByteArray := prog_2_method_1_code
def yX0_init : MethodName := ⟨RX0, "<init>", "(LSilentHouse$House;LSilentHouse$Judge;)V"⟩
abbrev cX0_forget : ByteArray := prog_2_method_2_code
def yX0_forget : MethodName := ⟨RX0, "forget", "()V"⟩
abbrev cX0_listen : ByteArray := prog_2_method_3_code
def yX0_listen : MethodName := ⟨RX0, "listen", "(III[I)V"⟩
abbrev cX0_loudness : ByteArray := prog_2_method_4_code
def yX0_loudness : MethodName := ⟨RX0, "loudness", "(II)I"⟩
abbrev cX0_together : ByteArray := prog_2_method_5_code
def yX0_together : MethodName := ⟨RX0, "together", "(II[II)I"⟩
abbrev cX0_laughs : ByteArray := prog_2_method_6_code
def yX0_laughs : MethodName := ⟨RX0, "laughs", "(IIIII)Z"⟩
def RX1 : String := "SilentHouse$Evening"
def TX1 : u_T := fun k => match k with
  | 0 => ("SilentHouse$Evening", "house", "LSilentHouse$House;", true)
  | 1 => ("SilentHouse$Evening", "judge", "LSilentHouse$Judge;", true)
  | 2 => ("SilentHouse$Evening", "ear", "LSilentHouse$Ear;", true)
  | 3 => ("SilentHouse$Evening", "often", "[I", true)
  | _ => ("SilentHouse$Evening", "coughed", "[I", true)
def tyX1 : Nat → FieldType := fun k => match k with
  | 0 => .object "SilentHouse$House"
  | 1 => .object "SilentHouse$Judge"
  | 2 => .object "SilentHouse$Ear"
  | 3 => .array .int
  | _ => .array .int
abbrev wsX10 : List Cond := u_ws RX1 TX1 5
theorem nmX1 : ∀ a, a < 5 → ∀ b, b < 5 → a ≠ b → (TX1 a).2.1 ≠ (TX1 b).2.1 := by decide +kernel
theorem tyX1_ok : ∀ k, k < 5 → parseFieldDescriptor (TX1 k).2.2.1 = some (tyX1 k) := by decide +kernel
abbrev cX1_init : ByteArray := prog_3_method_1_code
def yX1_init : MethodName := ⟨RX1, "<init>", "(LSilentHouse$House;LSilentHouse$Judge;LSilentHouse$Ear;)V"⟩
abbrev cX1_play : ByteArray := prog_3_method_2_code
def yX1_play : MethodName := ⟨RX1, "play", "()I"⟩
abbrev cX1_count : ByteArray := prog_3_method_3_code
def yX1_count : MethodName := ⟨RX1, "count", "(I)I"⟩
abbrev cX1_dues : ByteArray := prog_3_method_4_code
def yX1_dues : MethodName := ⟨RX1, "dues", "(III)I"⟩
def RX2 : String := "SilentHouse$House"
def TX2 : u_T := fun k => match k with
  | 0 => ("SilentHouse$House", "wit", "[I", true)
  | 1 => ("SilentHouse$House", "shame", "[I", true)
  | 2 => ("SilentHouse$House", "cold", "[I", true)
  | 3 => ("SilentHouse$House", "seats", "[I", true)
  | 4 => ("SilentHouse$House", "paid", "[I", true)
  | 5 => ("SilentHouse$House", "sorts", "[I", true)
  | 6 => ("SilentHouse$House", "powers", "[I", true)
  | 7 => ("SilentHouse$House", "seenLouds", "[I", true)
  | 8 => ("SilentHouse$House", "scripts", "[LSilentHouse$Script;", true)
  | 9 => ("SilentHouse$House", "steps", "LSilentHouse$Steps;", true)
  | 10 => ("SilentHouse$House", "people", "I", false)
  | 11 => ("SilentHouse$House", "still", "I", false)
  | 12 => ("SilentHouse$House", "lines", "I", false)
  | 13 => ("SilentHouse$House", "seenLines", "I", false)
  | 14 => ("SilentHouse$House", "texts", "I", false)
  | 15 => ("SilentHouse$House", "ruling", "I", false)
  | 16 => ("SilentHouse$House", "x", "I", false)
  | _ => ("SilentHouse$House", "nights", "I", false)
def tyX2 : Nat → FieldType := fun k => match k with
  | 0 => .array .int
  | 1 => .array .int
  | 2 => .array .int
  | 3 => .array .int
  | 4 => .array .int
  | 5 => .array .int
  | 6 => .array .int
  | 7 => .array .int
  | 8 => .array (.object "SilentHouse$Script")
  | 9 => .object "SilentHouse$Steps"
  | 10 => .int
  | 11 => .int
  | 12 => .int
  | 13 => .int
  | 14 => .int
  | 15 => .int
  | 16 => .int
  | _ => .int
abbrev wsX20 : List Cond := u_ws RX2 TX2 18
theorem nmX2 : ∀ a, a < 18 → ∀ b, b < 18 → a ≠ b → (TX2 a).2.1 ≠ (TX2 b).2.1 := by decide +kernel
theorem tyX2_ok : ∀ k, k < 18 → parseFieldDescriptor (TX2 k).2.2.1 = some (tyX2 k) := by decide +kernel
abbrev cX2_init : ByteArray := prog_4_method_1_code
def yX2_init : MethodName := ⟨RX2, "<init>", "()V"⟩
abbrev cX2_tellPerson : ByteArray := prog_4_method_2_code
def yX2_tellPerson : MethodName := ⟨RX2, "tellPerson", "(III)I"⟩
abbrev cX2_tellLine : ByteArray := prog_4_method_3_code
def yX2_tellLine : MethodName := ⟨RX2, "tellLine", "(II)I"⟩
abbrev cX2_tellScript : ByteArray := prog_4_method_4_code
def yX2_tellScript : MethodName := ⟨RX2, "tellScript", "(LSilentHouse$Script;)I"⟩
abbrev cX2_putOn : ByteArray := prog_4_method_5_code
def yX2_putOn : MethodName := ⟨RX2, "putOn", "(II)Z"⟩
abbrev cX2_keepStill : ByteArray := prog_4_method_6_code
def yX2_keepStill : MethodName := ⟨RX2, "keepStill", "(IZ)Z"⟩
abbrev cX2_isTold : ByteArray := prog_4_method_7_code
def yX2_isTold : MethodName := ⟨RX2, "isTold", "(I)Z"⟩
abbrev cX2_sits : ByteArray := prog_4_method_8_code
def yX2_sits : MethodName := ⟨RX2, "sits", "(I)Z"⟩
abbrev cX2_sitting : ByteArray := prog_4_method_9_code
def yX2_sitting : MethodName := ⟨RX2, "sitting", "()I"⟩
abbrev cX2_whoIsOn : ByteArray := prog_4_method_10_code
def yX2_whoIsOn : MethodName := ⟨RX2, "whoIsOn", "(I)I"⟩
abbrev cX2_ruler : ByteArray := prog_4_method_11_code
def yX2_ruler : MethodName := ⟨RX2, "ruler", "(I)LSilentHouse$Script;"⟩
abbrev cX2_copyFrom : ByteArray := prog_4_method_12_code
def yX2_copyFrom : MethodName := ⟨RX2, "copyFrom", "(LSilentHouse$House;)V"⟩
def RX3 : String := "SilentHouse$Judge"
def TX3 : u_T := fun k => match k with
  | 0 => ("SilentHouse$Judge", "names", "[I", true)
  | _ => ("SilentHouse$Judge", "stack", "[I", true)
def tyX3 : Nat → FieldType := fun k => match k with
  | 0 => .array .int
  | _ => .array .int
abbrev wsX30 : List Cond := u_ws RX3 TX3 2
theorem nmX3 : ∀ a, a < 2 → ∀ b, b < 2 → a ≠ b → (TX3 a).2.1 ≠ (TX3 b).2.1 := by decide +kernel
theorem tyX3_ok : ∀ k, k < 2 → parseFieldDescriptor (TX3 k).2.2.1 = some (tyX3 k) := by decide +kernel
abbrev cX3_init : ByteArray := prog_5_method_1_code
def yX3_init : MethodName := ⟨RX3, "<init>", "()V"⟩
abbrev cX3_value : ByteArray := prog_5_method_2_code
def yX3_value : MethodName := ⟨RX3, "value", "(LSilentHouse$Script;I)I"⟩
abbrev cX3_standsFor : ByteArray := prog_5_method_3_code
def yX3_standsFor : MethodName := ⟨RX3, "standsFor", "(I)I"⟩
abbrev cX3_join : ByteArray := prog_5_method_4_code
def yX3_join : MethodName := ⟨RX3, "join", "(III)I"⟩
def RX4 : String := "SilentHouse$Reader"
def TX4 : u_T := fun k => match k with
  | 0 => ("SilentHouse$Reader", "tokens", "LSilentHouse$Tokens;", true)
  | 1 => ("SilentHouse$Reader", "code", "[I", true)
  | 2 => ("SilentHouse$Reader", "from", "[I", true)
  | 3 => ("SilentHouse$Reader", "to", "[I", true)
  | 4 => ("SilentHouse$Reader", "kinds", "[I", true)
  | 5 => ("SilentHouse$Reader", "persons", "[I", true)
  | 6 => ("SilentHouse$Reader", "seats", "[I", true)
  | 7 => ("SilentHouse$Reader", "present", "I", false)
  | 8 => ("SilentHouse$Reader", "token", "I", false)
  | 9 => ("SilentHouse$Reader", "size", "I", false)
  | 10 => ("SilentHouse$Reader", "clauses", "I", false)
  | 11 => ("SilentHouse$Reader", "law", "I", false)
  | 12 => ("SilentHouse$Reader", "asksPlace", "Z", false)
  | 13 => ("SilentHouse$Reader", "fault", "I", false)
  | _ => ("SilentHouse$Reader", "place", "I", false)
def tyX4 : Nat → FieldType := fun k => match k with
  | 0 => .object "SilentHouse$Tokens"
  | 1 => .array .int
  | 2 => .array .int
  | 3 => .array .int
  | 4 => .array .int
  | 5 => .array .int
  | 6 => .array .int
  | 7 => .int
  | 8 => .int
  | 9 => .int
  | 10 => .int
  | 11 => .int
  | 12 => .boolean
  | 13 => .int
  | _ => .int
abbrev wsX40 : List Cond := u_ws RX4 TX4 15
theorem nmX4 : ∀ a, a < 15 → ∀ b, b < 15 → a ≠ b → (TX4 a).2.1 ≠ (TX4 b).2.1 := by decide +kernel
theorem tyX4_ok : ∀ k, k < 15 → parseFieldDescriptor (TX4 k).2.2.1 = some (tyX4 k) := by decide +kernel
abbrev cX4_init : ByteArray := prog_6_method_1_code
def yX4_init : MethodName := ⟨RX4, "<init>", "()V"⟩
abbrev cX4_read : ByteArray := prog_6_method_2_code
def yX4_read : MethodName := ⟨RX4, "read", "()Z"⟩
abbrev cX4_clause : ByteArray := prog_6_method_3_code
def yX4_clause : MethodName := ⟨RX4, "clause", "()V"⟩
abbrev cX4_deed : ByteArray := prog_6_method_4_code
def yX4_deed : MethodName := ⟨RX4, "deed", "(I)V"⟩
abbrev cX4_numberTo : ByteArray := prog_6_method_5_code
def yX4_numberTo : MethodName := ⟨RX4, "numberTo", "(I)I"⟩
abbrev cX4_chain : ByteArray := prog_6_method_6_code
def yX4_chain : MethodName := ⟨RX4, "chain", "(II)V"⟩
abbrev cX4_operand : ByteArray := prog_6_method_7_code
def yX4_operand : MethodName := ⟨RX4, "operand", "(II)V"⟩
abbrev cX4_ask : ByteArray := prog_6_method_8_code
def yX4_ask : MethodName := ⟨RX4, "ask", "(I)V"⟩
abbrev cX4_one : ByteArray := prog_6_method_9_code
def yX4_one : MethodName := ⟨RX4, "one", "(I)V"⟩
abbrev cX4_nameOf : ByteArray := prog_6_method_10_code
def yX4_nameOf : MethodName := ⟨RX4, "nameOf", "(I)V"⟩
abbrev cX4_opens : ByteArray := prog_6_method_11_code
def yX4_opens : MethodName := ⟨RX4, "opens", "(I)Z"⟩
abbrev cX4_expect : ByteArray := prog_6_method_12_code
def yX4_expect : MethodName := ⟨RX4, "expect", "(I)V"⟩
abbrev cX4_advance : ByteArray := prog_6_method_13_code
def yX4_advance : MethodName := ⟨RX4, "advance", "()V"⟩
abbrev cX4_refuse : ByteArray := prog_6_method_14_code
def yX4_refuse : MethodName := ⟨RX4, "refuse", "(I)V"⟩
abbrev cX4_emit : ByteArray := prog_6_method_15_code
def yX4_emit : MethodName := ⟨RX4, "emit", "(I)V"⟩
abbrev cX4_rankOf : ByteArray := prog_6_method_16_code
def yX4_rankOf : MethodName := ⟨RX4, "rankOf", "(I)I"⟩
abbrev cX4_isRelation : ByteArray := prog_6_method_17_code
def yX4_isRelation : MethodName := ⟨RX4, "isRelation", "(I)Z"⟩
def RX5 : String := "SilentHouse$Reckoner"
def TX5 : u_T := fun k => match k with
  | 0 => ("SilentHouse$Reckoner", "house", "LSilentHouse$House;", true)
  | 1 => ("SilentHouse$Reckoner", "ear", "LSilentHouse$Ear;", true)
  | 2 => ("SilentHouse$Reckoner", "sums", "[I", true)
  | 3 => ("SilentHouse$Reckoner", "louds", "[I", true)
  | 4 => ("SilentHouse$Reckoner", "taken", "[I", true)
  | 5 => ("SilentHouse$Reckoner", "order", "[I", true)
  | 6 => ("SilentHouse$Reckoner", "trial", "[I", true)
  | 7 => ("SilentHouse$Reckoner", "quietestOn", "[I", true)
  | 8 => ("SilentHouse$Reckoner", "ordered", "I", false)
  | 9 => ("SilentHouse$Reckoner", "arranged", "Z", false)
  | 10 => ("SilentHouse$Reckoner", "leastSum", "I", false)
  | 11 => ("SilentHouse$Reckoner", "upper", "I", false)
  | _ => ("SilentHouse$Reckoner", "lower", "I", false)
def tyX5 : Nat → FieldType := fun k => match k with
  | 0 => .object "SilentHouse$House"
  | 1 => .object "SilentHouse$Ear"
  | 2 => .array .int
  | 3 => .array .int
  | 4 => .array .int
  | 5 => .array .int
  | 6 => .array .int
  | 7 => .array .int
  | 8 => .int
  | 9 => .boolean
  | 10 => .int
  | 11 => .int
  | _ => .int
abbrev wsX50 : List Cond := u_ws RX5 TX5 13
theorem nmX5 : ∀ a, a < 13 → ∀ b, b < 13 → a ≠ b → (TX5 a).2.1 ≠ (TX5 b).2.1 := by decide +kernel
theorem tyX5_ok : ∀ k, k < 13 → parseFieldDescriptor (TX5 k).2.2.1 = some (tyX5 k) := by decide +kernel
abbrev cX5_init : ByteArray := prog_7_method_1_code
def yX5_init : MethodName := ⟨RX5, "<init>", "(LSilentHouse$House;LSilentHouse$Ear;)V"⟩
abbrev cX5_forget : ByteArray := prog_7_method_2_code
def yX5_forget : MethodName := ⟨RX5, "forget", "()V"⟩
abbrev cX5_sumOf : ByteArray := prog_7_method_3_code
def yX5_sumOf : MethodName := ⟨RX5, "sumOf", "(I)I"⟩
abbrev cX5_share : ByteArray := prog_7_method_4_code
def yX5_share : MethodName := ⟨RX5, "share", "(I)V"⟩
abbrev cX5_commonDivisor : ByteArray := prog_7_method_5_code
def yX5_commonDivisor : MethodName := ⟨RX5, "commonDivisor", "(II)I"⟩
abbrev cX5_arrange : ByteArray := prog_7_method_6_code
def yX5_arrange : MethodName := ⟨RX5, "arrange", "()V"⟩
abbrev cX5_startOrder : ByteArray := prog_7_method_7_code
def yX5_startOrder : MethodName := ⟨RX5, "startOrder", "()V"⟩
abbrev cX5_keepOrder : ByteArray := prog_7_method_8_code
def yX5_keepOrder : MethodName := ⟨RX5, "keepOrder", "()V"⟩
abbrev cX5_nextOrder : ByteArray := prog_7_method_9_code
def yX5_nextOrder : MethodName := ⟨RX5, "nextOrder", "()V"⟩
abbrev cX5_swap : ByteArray := prog_7_method_10_code
def yX5_swap : MethodName := ⟨RX5, "swap", "(II)V"⟩
abbrev cX5_fewestCut : ByteArray := prog_7_method_11_code
def yX5_fewestCut : MethodName := ⟨RX5, "fewestCut", "(I)I"⟩
abbrev cX5_loudOf : ByteArray := prog_7_method_12_code
def yX5_loudOf : MethodName := ⟨RX5, "loudOf", "(I)I"⟩
abbrev cX5_fewestStilled : ByteArray := prog_7_method_13_code
def yX5_fewestStilled : MethodName := ⟨RX5, "fewestStilled", "(I)I"⟩
abbrev cX5_possible : ByteArray := prog_7_method_14_code
def yX5_possible : MethodName := ⟨RX5, "possible", "(I)I"⟩
abbrev cX5_soundsAsSeen : ByteArray := prog_7_method_15_code
def yX5_soundsAsSeen : MethodName := ⟨RX5, "soundsAsSeen", "(I)Z"⟩
def RX6 : String := "SilentHouse$Script"
def TX6 : u_T := fun k => match k with
  | 0 => ("SilentHouse$Script", "code", "[I", true)
  | 1 => ("SilentHouse$Script", "from", "[I", true)
  | 2 => ("SilentHouse$Script", "to", "[I", true)
  | 3 => ("SilentHouse$Script", "kinds", "[I", true)
  | 4 => ("SilentHouse$Script", "persons", "[I", true)
  | 5 => ("SilentHouse$Script", "seats", "[I", true)
  | _ => ("SilentHouse$Script", "asksPlace", "Z", true)
def tyX6 : Nat → FieldType := fun k => match k with
  | 0 => .array .int
  | 1 => .array .int
  | 2 => .array .int
  | 3 => .array .int
  | 4 => .array .int
  | 5 => .array .int
  | _ => .boolean
abbrev wsX60 : List Cond := u_ws RX6 TX6 7
theorem nmX6 : ∀ a, a < 7 → ∀ b, b < 7 → a ≠ b → (TX6 a).2.1 ≠ (TX6 b).2.1 := by decide +kernel
theorem tyX6_ok : ∀ k, k < 7 → parseFieldDescriptor (TX6 k).2.2.1 = some (tyX6 k) := by decide +kernel
abbrev cX6_init : ByteArray := prog_8_method_1_code
def yX6_init : MethodName := ⟨RX6, "<init>", "(LSilentHouse$Reader;)V"⟩
abbrev cX6_has : ByteArray := prog_8_method_2_code
def yX6_has : MethodName := ⟨RX6, "has", "(I)Z"⟩
def RX7 : String := "SilentHouse$Steps"
def TX7 : u_T := fun k => match k with
  | 0 => ("SilentHouse$Steps", "seats", "[I", true)
  | 1 => ("SilentHouse$Steps", "paid", "[I", true)
  | 2 => ("SilentHouse$Steps", "still", "[I", true)
  | 3 => ("SilentHouse$Steps", "x", "[I", true)
  | 4 => ("SilentHouse$Steps", "nights", "[I", true)
  | 5 => ("SilentHouse$Steps", "oldest", "I", false)
  | _ => ("SilentHouse$Steps", "count", "I", false)
def tyX7 : Nat → FieldType := fun k => match k with
  | 0 => .array .int
  | 1 => .array .int
  | 2 => .array .int
  | 3 => .array .int
  | 4 => .array .int
  | 5 => .int
  | _ => .int
abbrev wsX70 : List Cond := u_ws RX7 TX7 7
theorem nmX7 : ∀ a, a < 7 → ∀ b, b < 7 → a ≠ b → (TX7 a).2.1 ≠ (TX7 b).2.1 := by decide +kernel
theorem tyX7_ok : ∀ k, k < 7 → parseFieldDescriptor (TX7 k).2.2.1 = some (tyX7 k) := by decide +kernel
abbrev cX7_init : ByteArray := prog_9_method_1_code
def yX7_init : MethodName := ⟨RX7, "<init>", "()V"⟩
abbrev cX7_keep : ByteArray := prog_9_method_2_code
def yX7_keep : MethodName := ⟨RX7, "keep", "(LSilentHouse$House;)V"⟩
abbrev cX7_takeBack : ByteArray := prog_9_method_3_code
def yX7_takeBack : MethodName := ⟨RX7, "takeBack", "(LSilentHouse$House;)Z"⟩
abbrev cX7_copyFrom : ByteArray := prog_9_method_4_code
def yX7_copyFrom : MethodName := ⟨RX7, "copyFrom", "(LSilentHouse$Steps;)V"⟩
def RX8 : String := "SilentHouse$Tokens"
def TX8 : u_T := fun k => match k with
  | 0 => ("SilentHouse$Tokens", "tape", "[B", true)
  | 1 => ("SilentHouse$Tokens", "tokens", "[I", true)
  | 2 => ("SilentHouse$Tokens", "begins", "[I", true)
  | 3 => ("SilentHouse$Tokens", "length", "I", false)
  | _ => ("SilentHouse$Tokens", "count", "I", false)
def tyX8 : Nat → FieldType := fun k => match k with
  | 0 => .array .byte
  | 1 => .array .int
  | 2 => .array .int
  | 3 => .int
  | _ => .int
abbrev wsX80 : List Cond := u_ws RX8 TX8 5
theorem nmX8 : ∀ a, a < 5 → ∀ b, b < 5 → a ≠ b → (TX8 a).2.1 ≠ (TX8 b).2.1 := by decide +kernel
theorem tyX8_ok : ∀ k, k < 5 → parseFieldDescriptor (TX8 k).2.2.1 = some (tyX8 k) := by decide +kernel
abbrev cX8_init : ByteArray := prog_10_method_1_code
def yX8_init : MethodName := ⟨RX8, "<init>", "()V"⟩
abbrev cX8_append : ByteArray := prog_10_method_2_code
def yX8_append : MethodName := ⟨RX8, "append", "(I)V"⟩
abbrev cX8_split : ByteArray := prog_10_method_3_code
def yX8_split : MethodName := ⟨RX8, "split", "()V"⟩
abbrev cX8_behind : ByteArray := prog_10_method_4_code
def yX8_behind : MethodName := ⟨RX8, "behind", "(IZ)I"⟩
abbrev cX8_number : ByteArray := prog_10_method_5_code
def yX8_number : MethodName := ⟨RX8, "number", "(II)I"⟩
abbrev cX8_word : ByteArray := prog_10_method_6_code
def yX8_word : MethodName := ⟨RX8, "word", "(II)I"⟩
abbrev cX8_sign : ByteArray := prog_10_method_7_code
def yX8_sign : MethodName := ⟨RX8, "sign", "(I)I"⟩
abbrev cX8_signs : ByteArray := prog_10_method_8_code
def yX8_signs : MethodName := ⟨RX8, "signs", "(II)I"⟩
abbrev cX8_isBlank : ByteArray := prog_10_method_9_code
def yX8_isBlank : MethodName := ⟨RX8, "isBlank", "(I)Z"⟩
abbrev cX8_isLetter : ByteArray := prog_10_method_10_code
def yX8_isLetter : MethodName := ⟨RX8, "isLetter", "(I)Z"⟩
abbrev cX8_isDigit : ByteArray := prog_10_method_11_code
def yX8_isDigit : MethodName := ⟨RX8, "isDigit", "(I)Z"⟩
def RX9 : String := "SilentHouse"
def TX9 : u_T := fun k => match k with
  | 0 => ("SilentHouse", "house", "LSilentHouse$House;", true)
  | 1 => ("SilentHouse", "kept", "LSilentHouse$House;", true)
  | 2 => ("SilentHouse", "reader", "LSilentHouse$Reader;", true)
  | 3 => ("SilentHouse", "judge", "LSilentHouse$Judge;", true)
  | 4 => ("SilentHouse", "ear", "LSilentHouse$Ear;", true)
  | 5 => ("SilentHouse", "evening", "LSilentHouse$Evening;", true)
  | _ => ("SilentHouse", "reckoner", "LSilentHouse$Reckoner;", true)
def tyX9 : Nat → FieldType := fun k => match k with
  | 0 => .object "SilentHouse$House"
  | 1 => .object "SilentHouse$House"
  | 2 => .object "SilentHouse$Reader"
  | 3 => .object "SilentHouse$Judge"
  | 4 => .object "SilentHouse$Ear"
  | 5 => .object "SilentHouse$Evening"
  | _ => .object "SilentHouse$Reckoner"
abbrev wsX90 : List Cond := u_ws RX9 TX9 7
theorem nmX9 : ∀ a, a < 7 → ∀ b, b < 7 → a ≠ b → (TX9 a).2.1 ≠ (TX9 b).2.1 := by decide +kernel
theorem tyX9_ok : ∀ k, k < 7 → parseFieldDescriptor (TX9 k).2.2.1 = some (tyX9 k) := by decide +kernel
abbrev cX9_init : ByteArray := prog_1_method_1_code
def yX9_init : MethodName := ⟨RX9, "<init>", "()V"⟩
abbrev cX9_person : ByteArray := prog_1_method_2_code
def yX9_person : MethodName := ⟨RX9, "person", "(III)I"⟩
abbrev cX9_line : ByteArray := prog_1_method_3_code
def yX9_line : MethodName := ⟨RX9, "line", "(II)I"⟩
abbrev cX9_seed : ByteArray := prog_1_method_4_code
def yX9_seed : MethodName := ⟨RX9, "seed", "(I)Z"⟩
abbrev cX9_feed : ByteArray := prog_1_method_5_code
def yX9_feed : MethodName := ⟨RX9, "feed", "(IIIII)I"⟩
abbrev cX9_end : ByteArray := prog_1_method_6_code
def yX9_end : MethodName := ⟨RX9, "end", "(I)I"⟩
abbrev cX9_text : ByteArray := prog_1_method_7_code
def yX9_text : MethodName := ⟨RX9, "text", "()I"⟩
abbrev cX9_fault : ByteArray := prog_1_method_8_code
def yX9_fault : MethodName := ⟨RX9, "fault", "(I)I"⟩
abbrev cX9_by : ByteArray := prog_1_method_9_code
def yX9_by : MethodName := ⟨RX9, "by", "(I)Z"⟩
abbrev cX9_seat : ByteArray := prog_1_method_10_code
def yX9_seat : MethodName := ⟨RX9, "seat", "(II)Z"⟩
abbrev cX9_hire : ByteArray := prog_1_method_11_code
def yX9_hire : MethodName := ⟨RX9, "hire", "(IZ)Z"⟩
abbrev cX9_night : ByteArray := prog_1_method_12_code
def yX9_night : MethodName := ⟨RX9, "night", "()I"⟩
abbrev cX9_played : ByteArray := prog_1_method_13_code
def yX9_played : MethodName := ⟨RX9, "played", "(I)I"⟩
abbrev cX9_undo : ByteArray := prog_1_method_14_code
def yX9_undo : MethodName := ⟨RX9, "undo", "()I"⟩
abbrev cX9_of : ByteArray := prog_1_method_15_code
def yX9_of : MethodName := ⟨RX9, "of", "(II)I"⟩
abbrev cX9_wave : ByteArray := prog_1_method_16_code
def yX9_wave : MethodName := ⟨RX9, "wave", "(II)I"⟩
abbrev cX9_all : ByteArray := prog_1_method_17_code
def yX9_all : MethodName := ⟨RX9, "all", "(I)I"⟩
abbrev cX9_caused : ByteArray := prog_1_method_18_code
def yX9_caused : MethodName := ⟨RX9, "caused", "(I)I"⟩
abbrev cX9_fair : ByteArray := prog_1_method_19_code
def yX9_fair : MethodName := ⟨RX9, "fair", "(II)I"⟩
abbrev cX9_quietest : ByteArray := prog_1_method_20_code
def yX9_quietest : MethodName := ⟨RX9, "quietest", "(I)I"⟩
abbrev cX9_cut : ByteArray := prog_1_method_21_code
def yX9_cut : MethodName := ⟨RX9, "cut", "(I)I"⟩
abbrev cX9_stilled : ByteArray := prog_1_method_22_code
def yX9_stilled : MethodName := ⟨RX9, "stilled", "(I)I"⟩
abbrev cX9_seen : ByteArray := prog_1_method_23_code
def yX9_seen : MethodName := ⟨RX9, "seen", "(I)I"⟩
abbrev cX9_who : ByteArray := prog_1_method_24_code
def yX9_who : MethodName := ⟨RX9, "who", "(I)I"⟩
abbrev cX9_image : ByteArray := prog_1_method_25_code
def yX9_image : MethodName := ⟨RX9, "image", "()I"⟩
abbrev cX9_back : ByteArray := prog_1_method_26_code
def yX9_back : MethodName := ⟨RX9, "back", "()I"⟩
abbrev cX9_about : ByteArray := prog_1_method_27_code
def yX9_about : MethodName := ⟨RX9, "about", "(I)I"⟩
abbrev cX9_act : ByteArray := prog_1_method_28_code
def yX9_act : MethodName := ⟨RX9, "act", "(LSilentHouse$Script;I)Z"⟩
abbrev cX9_within : ByteArray := prog_1_method_29_code
def yX9_within : MethodName := ⟨RX9, "within", "(II)Z"⟩
def RX10 : String := "SilentHouseModel"
def TX10 : u_T := fun k => match k with
  | 0 => ("SilentHouseModel", "a", "[I", true)
  | 1 => ("SilentHouseModel", "image", "[I", true)
  | 2 => ("SilentHouseModel", "texts", "[I", true)
  | 3 => ("SilentHouseModel", "tape", "[I", true)
  | 4 => ("SilentHouseModel", "taped", "I", false)
  | 5 => ("SilentHouseModel", "fault", "I", false)
  | 6 => ("SilentHouseModel", "faultPlace", "I", false)
  | 7 => ("SilentHouseModel", "at", "I", false)
  | 8 => ("SilentHouseModel", "place", "I", false)
  | 9 => ("SilentHouseModel", "token", "I", false)
  | 10 => ("SilentHouseModel", "number", "I", false)
  | 11 => ("SilentHouseModel", "word", "J", false)
  | 12 => ("SilentHouseModel", "text0", "I", false)
  | 13 => ("SilentHouseModel", "clauses", "I", false)
  | 14 => ("SilentHouseModel", "written", "I", false)
  | 15 => ("SilentHouseModel", "came", "I", false)
  | 16 => ("SilentHouseModel", "pile", "[I", true)
  | 17 => ("SilentHouseModel", "piled", "I", false)
  | 18 => ("SilentHouseModel", "opens", "I", false)
  | 19 => ("SilentHouseModel", "isWhole", "Z", false)
  | 20 => ("SilentHouseModel", "sort0", "I", false)
  | 21 => ("SilentHouseModel", "once", "I", false)
  | 22 => ("SilentHouseModel", "named", "[I", true)
  | 23 => ("SilentHouseModel", "values", "[J", true)
  | 24 => ("SilentHouseModel", "truth", "[Z", true)
  | 25 => ("SilentHouseModel", "places", "[I", true)
  | 26 => ("SilentHouseModel", "stills", "I", false)
  | 27 => ("SilentHouseModel", "laughing", "I", false)
  | 28 => ("SilentHouseModel", "rounds", "I", false)
  | 29 => ("SilentHouseModel", "often", "[I", true)
  | 30 => ("SilentHouseModel", "coughed", "[I", true)
  | 31 => ("SilentHouseModel", "alls", "[I", true)
  | 32 => ("SilentHouseModel", "taken", "[I", true)
  | 33 => ("SilentHouseModel", "row", "[I", true)
  | 34 => ("SilentHouseModel", "best", "[I", true)
  | 35 => ("SilentHouseModel", "many", "I", false)
  | _ => ("SilentHouseModel", "louds", "[I", true)
def tyX10 : Nat → FieldType := fun k => match k with
  | 0 => .array .int
  | 1 => .array .int
  | 2 => .array .int
  | 3 => .array .int
  | 4 => .int
  | 5 => .int
  | 6 => .int
  | 7 => .int
  | 8 => .int
  | 9 => .int
  | 10 => .int
  | 11 => .long
  | 12 => .int
  | 13 => .int
  | 14 => .int
  | 15 => .int
  | 16 => .array .int
  | 17 => .int
  | 18 => .int
  | 19 => .boolean
  | 20 => .int
  | 21 => .int
  | 22 => .array .int
  | 23 => .array .long
  | 24 => .array .boolean
  | 25 => .array .int
  | 26 => .int
  | 27 => .int
  | 28 => .int
  | 29 => .array .int
  | 30 => .array .int
  | 31 => .array .int
  | 32 => .array .int
  | 33 => .array .int
  | 34 => .array .int
  | 35 => .int
  | _ => .array .int
abbrev wsX100 : List Cond := u_ws RX10 TX10 37
theorem nmX10 : ∀ a, a < 37 → ∀ b, b < 37 → a ≠ b → (TX10 a).2.1 ≠ (TX10 b).2.1 := by decide +kernel
theorem tyX10_ok : ∀ k, k < 37 → parseFieldDescriptor (TX10 k).2.2.1 = some (tyX10 k) := by decide +kernel
abbrev cX10_init : ByteArray := prog_12_method_1_code
def yX10_init : MethodName := ⟨RX10, "<init>", "()V"⟩
abbrev cX10_copy : ByteArray := prog_12_method_2_code
def yX10_copy : MethodName := ⟨RX10, "copy", "([I[I)V"⟩
abbrev cX10_isIn : ByteArray := prog_12_method_3_code
def yX10_isIn : MethodName := ⟨RX10, "isIn", "(III)Z"⟩
abbrev cX10_between : ByteArray := prog_12_method_4_code
def yX10_between : MethodName := ⟨RX10, "between", "(JI)I"⟩
abbrev cX10_has : ByteArray := prog_12_method_5_code
def yX10_has : MethodName := ⟨RX10, "has", "(II)Z"⟩
abbrev cX10_bits : ByteArray := prog_12_method_6_code
def yX10_bits : MethodName := ⟨RX10, "bits", "(I)I"⟩
abbrev cX10_isPerson : ByteArray := prog_12_method_7_code
def yX10_isPerson : MethodName := ⟨RX10, "isPerson", "(I)Z"⟩
abbrev cX10_isLine : ByteArray := prog_12_method_8_code
def yX10_isLine : MethodName := ⟨RX10, "isLine", "(I)Z"⟩
abbrev cX10_get : ByteArray := prog_12_method_9_code
def yX10_get : MethodName := ⟨RX10, "get", "(II)I"⟩
abbrev cX10_set : ByteArray := prog_12_method_10_code
def yX10_set : MethodName := ⟨RX10, "set", "(III)V"⟩
abbrev cX10_sitting : ByteArray := prog_12_method_11_code
def yX10_sitting : MethodName := ⟨RX10, "sitting", "()I"⟩
abbrev cX10_person : ByteArray := prog_12_method_12_code
def yX10_person : MethodName := ⟨RX10, "person", "(III)I"⟩
abbrev cX10_line : ByteArray := prog_12_method_13_code
def yX10_line : MethodName := ⟨RX10, "line", "(II)I"⟩
abbrev cX10_seed : ByteArray := prog_12_method_14_code
def yX10_seed : MethodName := ⟨RX10, "seed", "(I)Z"⟩
abbrev cX10_four : ByteArray := prog_12_method_15_code
def yX10_four : MethodName := ⟨RX10, "four", "(I)V"⟩
abbrev cX10_feed : ByteArray := prog_12_method_16_code
def yX10_feed : MethodName := ⟨RX10, "feed", "(IIIII)I"⟩
abbrev cX10_end : ByteArray := prog_12_method_17_code
def yX10_end : MethodName := ⟨RX10, "end", "(I)I"⟩
abbrev cX10_byteAt : ByteArray := prog_12_method_18_code
def yX10_byteAt : MethodName := ⟨RX10, "byteAt", "(I)I"⟩
abbrev cX10_isLetter : ByteArray := prog_12_method_19_code
def yX10_isLetter : MethodName := ⟨RX10, "isLetter", "(I)Z"⟩
abbrev cX10_isDigit : ByteArray := prog_12_method_20_code
def yX10_isDigit : MethodName := ⟨RX10, "isDigit", "(I)Z"⟩
abbrev cX10_nextToken : ByteArray := prog_12_method_21_code
def yX10_nextToken : MethodName := ⟨RX10, "nextToken", "()V"⟩
abbrev cX10_w3 : ByteArray := prog_12_method_22_code
def yX10_w3 : MethodName := ⟨RX10, "w3", "(III)J"⟩
abbrev cX10_w5 : ByteArray := prog_12_method_23_code
def yX10_w5 : MethodName := ⟨RX10, "w5", "(IIIII)J"⟩
abbrev cX10_w4 : ByteArray := prog_12_method_24_code
def yX10_w4 : MethodName := ⟨RX10, "w4", "(IIII)J"⟩
abbrev cX10_w6 : ByteArray := prog_12_method_25_code
def yX10_w6 : MethodName := ⟨RX10, "w6", "(IIIIII)J"⟩
abbrev cX10_isWord : ByteArray := prog_12_method_26_code
def yX10_isWord : MethodName := ⟨RX10, "isWord", "(J)Z"⟩
abbrev cX10_emit : ByteArray := prog_12_method_27_code
def yX10_emit : MethodName := ⟨RX10, "emit", "(II)V"⟩
abbrev cX10_push : ByteArray := prog_12_method_28_code
def yX10_push : MethodName := ⟨RX10, "push", "(I)V"⟩
abbrev cX10_whole : ByteArray := prog_12_method_29_code
def yX10_whole : MethodName := ⟨RX10, "whole", "()V"⟩
abbrev cX10_settle : ByteArray := prog_12_method_30_code
def yX10_settle : MethodName := ⟨RX10, "settle", "(I)V"⟩
abbrev cX10_isLaughing : ByteArray := prog_12_method_31_code
def yX10_isLaughing : MethodName := ⟨RX10, "isLaughing", "()Z"⟩
abbrev cX10_nameOf : ByteArray := prog_12_method_32_code
def yX10_nameOf : MethodName := ⟨RX10, "nameOf", "()I"⟩
abbrev cX10_isBarred : ByteArray := prog_12_method_33_code
def yX10_isBarred : MethodName := ⟨RX10, "isBarred", "(I)Z"⟩
abbrev cX10_beginOne : ByteArray := prog_12_method_34_code
def yX10_beginOne : MethodName := ⟨RX10, "beginOne", "()I"⟩
abbrev cX10_hasParen : ByteArray := prog_12_method_35_code
def yX10_hasParen : MethodName := ⟨RX10, "hasParen", "()Z"⟩
abbrev cX10_goesOn : ByteArray := prog_12_method_36_code
def yX10_goesOn : MethodName := ⟨RX10, "goesOn", "()Z"⟩
abbrev cX10_behindOne : ByteArray := prog_12_method_37_code
def yX10_behindOne : MethodName := ⟨RX10, "behindOne", "()I"⟩
abbrev cX10_summed : ByteArray := prog_12_method_38_code
def yX10_summed : MethodName := ⟨RX10, "summed", "()I"⟩
abbrev cX10_compareOf : ByteArray := prog_12_method_39_code
def yX10_compareOf : MethodName := ⟨RX10, "compareOf", "()I"⟩
abbrev cX10_asks : ByteArray := prog_12_method_40_code
def yX10_asks : MethodName := ⟨RX10, "asks", "()I"⟩
abbrev cX10_either : ByteArray := prog_12_method_41_code
def yX10_either : MethodName := ⟨RX10, "either", "()I"⟩
abbrev cX10_sortOf : ByteArray := prog_12_method_42_code
def yX10_sortOf : MethodName := ⟨RX10, "sortOf", "()I"⟩
abbrev cX10_figure : ByteArray := prog_12_method_43_code
def yX10_figure : MethodName := ⟨RX10, "figure", "(II)I"⟩
abbrev cX10_line0 : ByteArray := prog_12_method_44_code
def yX10_line0 : MethodName := ⟨RX10, "line0", "(II)I"⟩
abbrev cX10_clause : ByteArray := prog_12_method_45_code
def yX10_clause : MethodName := ⟨RX10, "clause", "()I"⟩
abbrev cX10_readText : ByteArray := prog_12_method_46_code
def yX10_readText : MethodName := ⟨RX10, "readText", "()I"⟩
abbrev cX10_text : ByteArray := prog_12_method_47_code
def yX10_text : MethodName := ⟨RX10, "text", "()I"⟩
abbrev cX10_fault : ByteArray := prog_12_method_48_code
def yX10_fault : MethodName := ⟨RX10, "fault", "(I)I"⟩
abbrev cX10_by : ByteArray := prog_12_method_49_code
def yX10_by : MethodName := ⟨RX10, "by", "(I)Z"⟩
abbrev cX10_clip : ByteArray := prog_12_method_50_code
def yX10_clip : MethodName := ⟨RX10, "clip", "(J)J"⟩
abbrev cX10_two : ByteArray := prog_12_method_51_code
def yX10_two : MethodName := ⟨RX10, "two", "(IJJ)J"⟩
abbrev cX10_isAsked : ByteArray := prog_12_method_52_code
def yX10_isAsked : MethodName := ⟨RX10, "isAsked", "(IJJ)Z"⟩
abbrev cX10_work : ByteArray := prog_12_method_53_code
def yX10_work : MethodName := ⟨RX10, "work", "(I)V"⟩
abbrev cX10_clauseOf : ByteArray := prog_12_method_54_code
def yX10_clauseOf : MethodName := ⟨RX10, "clauseOf", "(I)I"⟩
abbrev cX10_seatAll : ByteArray := prog_12_method_55_code
def yX10_seatAll : MethodName := ⟨RX10, "seatAll", "()V"⟩
abbrev cX10_gap : ByteArray := prog_12_method_56_code
def yX10_gap : MethodName := ⟨RX10, "gap", "(II)I"⟩
abbrev cX10_isNear : ByteArray := prog_12_method_57_code
def yX10_isNear : MethodName := ⟨RX10, "isNear", "(II)Z"⟩
abbrev cX10_nearOf : ByteArray := prog_12_method_58_code
def yX10_nearOf : MethodName := ⟨RX10, "nearOf", "(I)I"⟩
abbrev cX10_laughs : ByteArray := prog_12_method_59_code
def yX10_laughs : MethodName := ⟨RX10, "laughs", "(II)Z"⟩
abbrev cX10_hear : ByteArray := prog_12_method_60_code
def yX10_hear : MethodName := ⟨RX10, "hear", "(II)V"⟩
abbrev cX10_loudOf : ByteArray := prog_12_method_61_code
def yX10_loudOf : MethodName := ⟨RX10, "loudOf", "(II)I"⟩
abbrev cX10_loudBefore : ByteArray := prog_12_method_62_code
def yX10_loudBefore : MethodName := ⟨RX10, "loudBefore", "(II)I"⟩
abbrev cX10_allOf : ByteArray := prog_12_method_63_code
def yX10_allOf : MethodName := ⟨RX10, "allOf", "(I)I"⟩
abbrev cX10_wave : ByteArray := prog_12_method_64_code
def yX10_wave : MethodName := ⟨RX10, "wave", "(II)I"⟩
abbrev cX10_keep : ByteArray := prog_12_method_65_code
def yX10_keep : MethodName := ⟨RX10, "keep", "()V"⟩
abbrev cX10_undo : ByteArray := prog_12_method_66_code
def yX10_undo : MethodName := ⟨RX10, "undo", "()I"⟩
abbrev cX10_whoIsOn : ByteArray := prog_12_method_67_code
def yX10_whoIsOn : MethodName := ⟨RX10, "whoIsOn", "(I)I"⟩
abbrev cX10_seat : ByteArray := prog_12_method_68_code
def yX10_seat : MethodName := ⟨RX10, "seat", "(II)Z"⟩
abbrev cX10_hire : ByteArray := prog_12_method_69_code
def yX10_hire : MethodName := ⟨RX10, "hire", "(IZ)Z"⟩
abbrev cX10_coughAll : ByteArray := prog_12_method_70_code
def yX10_coughAll : MethodName := ⟨RX10, "coughAll", "(I)I"⟩
abbrev cX10_duesOf : ByteArray := prog_12_method_71_code
def yX10_duesOf : MethodName := ⟨RX10, "duesOf", "(III)I"⟩
abbrev cX10_night : ByteArray := prog_12_method_72_code
def yX10_night : MethodName := ⟨RX10, "night", "()I"⟩
abbrev cX10_isPlayed : ByteArray := prog_12_method_73_code
def yX10_isPlayed : MethodName := ⟨RX10, "isPlayed", "(I)Z"⟩
abbrev cX10_played : ByteArray := prog_12_method_74_code
def yX10_played : MethodName := ⟨RX10, "played", "(I)I"⟩
abbrev cX10_of : ByteArray := prog_12_method_75_code
def yX10_of : MethodName := ⟨RX10, "of", "(II)I"⟩
abbrev cX10_all : ByteArray := prog_12_method_76_code
def yX10_all : MethodName := ⟨RX10, "all", "(I)I"⟩
abbrev cX10_caused : ByteArray := prog_12_method_77_code
def yX10_caused : MethodName := ⟨RX10, "caused", "(I)I"⟩
abbrev cX10_orders : ByteArray := prog_12_method_78_code
def yX10_orders : MethodName := ⟨RX10, "orders", "(I)I"⟩
abbrev cX10_common : ByteArray := prog_12_method_79_code
def yX10_common : MethodName := ⟨RX10, "common", "(II)I"⟩
abbrev cX10_fair : ByteArray := prog_12_method_80_code
def yX10_fair : MethodName := ⟨RX10, "fair", "(II)I"⟩
abbrev cX10_firstRow : ByteArray := prog_12_method_81_code
def yX10_firstRow : MethodName := ⟨RX10, "firstRow", "()V"⟩
abbrev cX10_exchange : ByteArray := prog_12_method_82_code
def yX10_exchange : MethodName := ⟨RX10, "exchange", "(II)V"⟩
abbrev cX10_nextRow : ByteArray := prog_12_method_83_code
def yX10_nextRow : MethodName := ⟨RX10, "nextRow", "()Z"⟩
abbrev cX10_quietest : ByteArray := prog_12_method_84_code
def yX10_quietest : MethodName := ⟨RX10, "quietest", "(I)I"⟩
abbrev cX10_cut : ByteArray := prog_12_method_85_code
def yX10_cut : MethodName := ⟨RX10, "cut", "(I)I"⟩
abbrev cX10_stilled : ByteArray := prog_12_method_86_code
def yX10_stilled : MethodName := ⟨RX10, "stilled", "(I)I"⟩
abbrev cX10_seen : ByteArray := prog_12_method_87_code
def yX10_seen : MethodName := ⟨RX10, "seen", "(I)I"⟩
abbrev cX10_canBe : ByteArray := prog_12_method_88_code
def yX10_canBe : MethodName := ⟨RX10, "canBe", "(I)Z"⟩
abbrev cX10_who : ByteArray := prog_12_method_89_code
def yX10_who : MethodName := ⟨RX10, "who", "(I)I"⟩
abbrev cX10_image : ByteArray := prog_12_method_90_code
def yX10_image : MethodName := ⟨RX10, "image", "()I"⟩
abbrev cX10_back : ByteArray := prog_12_method_91_code
def yX10_back : MethodName := ⟨RX10, "back", "()I"⟩
abbrev cX10_about : ByteArray := prog_12_method_92_code
def yX10_about : MethodName := ⟨RX10, "about", "(I)I"⟩
def RJx145de : String := "java/io/Serializable"
def TJx145de : u_T := fun k => match k with
  | _ => ("", "", "", false)
def tyJx145de : Nat → FieldType := fun k => match k with
  | _ => .int
abbrev wsJx145de0 : List Cond := u_ws RJx145de TJx145de 0
theorem nmJx145de : ∀ a, a < 0 → ∀ b, b < 0 → a ≠ b → (TJx145de a).2.1 ≠ (TJx145de b).2.1 := by decide +kernel
theorem tyJx145de_ok : ∀ k, k < 0 → parseFieldDescriptor (TJx145de k).2.2.1 = some (tyJx145de k) := by decide +kernel
def RJx9f9b0 : String := "java/lang/CharSequence"
def TJx9f9b0 : u_T := fun k => match k with
  | _ => ("", "", "", false)
def tyJx9f9b0 : Nat → FieldType := fun k => match k with
  | _ => .int
abbrev wsJx9f9b00 : List Cond := u_ws RJx9f9b0 TJx9f9b0 0
theorem nmJx9f9b0 : ∀ a, a < 0 → ∀ b, b < 0 → a ≠ b → (TJx9f9b0 a).2.1 ≠ (TJx9f9b0 b).2.1 := by decide +kernel
theorem tyJx9f9b0_ok : ∀ k, k < 0 → parseFieldDescriptor (TJx9f9b0 k).2.2.1 = some (tyJx9f9b0 k) := by decide +kernel
def RJx8e188 : String := "java/lang/Cloneable"
def TJx8e188 : u_T := fun k => match k with
  | _ => ("", "", "", false)
def tyJx8e188 : Nat → FieldType := fun k => match k with
  | _ => .int
abbrev wsJx8e1880 : List Cond := u_ws RJx8e188 TJx8e188 0
theorem nmJx8e188 : ∀ a, a < 0 → ∀ b, b < 0 → a ≠ b → (TJx8e188 a).2.1 ≠ (TJx8e188 b).2.1 := by decide +kernel
theorem tyJx8e188_ok : ∀ k, k < 0 → parseFieldDescriptor (TJx8e188 k).2.2.1 = some (tyJx8e188 k) := by decide +kernel
def RJxb160c : String := "java/lang/Comparable"
def TJxb160c : u_T := fun k => match k with
  | _ => ("", "", "", false)
def tyJxb160c : Nat → FieldType := fun k => match k with
  | _ => .int
abbrev wsJxb160c0 : List Cond := u_ws RJxb160c TJxb160c 0
theorem nmJxb160c : ∀ a, a < 0 → ∀ b, b < 0 → a ≠ b → (TJxb160c a).2.1 ≠ (TJxb160c b).2.1 := by decide +kernel
theorem tyJxb160c_ok : ∀ k, k < 0 → parseFieldDescriptor (TJxb160c k).2.2.1 = some (tyJxb160c k) := by decide +kernel
def RJ6 : String := "java/lang/Integer"
def TJ6 : u_T := fun k => match k with
  | _ => ("", "", "", false)
def tyJ6 : Nat → FieldType := fun k => match k with
  | _ => .int
abbrev wsJ60 : List Cond := u_ws RJ6 TJ6 0
theorem nmJ6 : ∀ a, a < 0 → ∀ b, b < 0 → a ≠ b → (TJ6 a).2.1 ≠ (TJ6 b).2.1 := by decide +kernel
theorem tyJ6_ok : ∀ k, k < 0 → parseFieldDescriptor (TJ6 k).2.2.1 = some (tyJ6 k) := by decide +kernel
abbrev cJ6_bitCount_0f7a4 : ByteArray := prog_14_method_49_code
def yJ6_bitCount_0f7a4 : MethodName := ⟨RJ6, "bitCount", "(I)I"⟩
def RJ9 : String := "java/lang/Math"
def TJ9 : u_T := fun k => match k with
  | _ => ("", "", "", false)
def tyJ9 : Nat → FieldType := fun k => match k with
  | _ => .int
abbrev wsJ90 : List Cond := u_ws RJ9 TJ9 0
theorem nmJ9 : ∀ a, a < 0 → ∀ b, b < 0 → a ≠ b → (TJ9 a).2.1 ≠ (TJ9 b).2.1 := by decide +kernel
theorem tyJ9_ok : ∀ k, k < 0 → parseFieldDescriptor (TJ9 k).2.2.1 = some (tyJ9 k) := by decide +kernel
abbrev cJ9_abs_0f7a4 : ByteArray := prog_15_method_59_code
def yJ9_abs_0f7a4 : MethodName := ⟨RJ9, "abs", "(I)I"⟩
abbrev cJ9_max_7cf53 : ByteArray := prog_15_method_65_code
def yJ9_max_7cf53 : MethodName := ⟨RJ9, "max", "(II)I"⟩
abbrev cJ9_min_7cf53 : ByteArray := prog_15_method_69_code
def yJ9_min_7cf53 : MethodName := ⟨RJ9, "min", "(II)I"⟩
def RJ0 : String := "java/lang/String"
def TJ0 : u_T := fun k => match k with
  | _ => ("", "", "", false)
def tyJ0 : Nat → FieldType := fun k => match k with
  | _ => .int
abbrev wsJ00 : List Cond := u_ws RJ0 TJ0 0
theorem nmJ0 : ∀ a, a < 0 → ∀ b, b < 0 → a ≠ b → (TJ0 a).2.1 ≠ (TJ0 b).2.1 := by decide +kernel
theorem tyJ0_ok : ∀ k, k < 0 → parseFieldDescriptor (TJ0 k).2.2.1 = some (tyJ0 k) := by decide +kernel
abbrev cJ0_length_8abf5 : ByteArray := prog_16_method_54_code
def yJ0_length_8abf5 : MethodName := ⟨RJ0, "length", "()I"⟩
abbrev cJ0_charAt_5068e : ByteArray := prog_16_method_56_code
def yJ0_charAt_5068e : MethodName := ⟨RJ0, "charAt", "(I)C"⟩
abbrev cJ0_coder_7d493 : ByteArray := prog_16_method_152_code
def yJ0_coder_7d493 : MethodName := ⟨RJ0, "coder", "()B"⟩
abbrev cJ0_isLatin1_aae02 : ByteArray := prog_16_method_154_code
def yJ0_isLatin1_aae02 : MethodName := ⟨RJ0, "isLatin1", "()Z"⟩
abbrev cJ0_checkIndex_df160 : ByteArray := prog_16_method_155_code
def yJ0_checkIndex_df160 : MethodName := ⟨RJ0, "checkIndex", "(II)V"⟩
def RJ1 : String := "java/lang/StringLatin1"
def TJ1 : u_T := fun k => match k with
  | _ => ("", "", "", false)
def tyJ1 : Nat → FieldType := fun k => match k with
  | _ => .int
abbrev wsJ10 : List Cond := u_ws RJ1 TJ1 0
theorem nmJ1 : ∀ a, a < 0 → ∀ b, b < 0 → a ≠ b → (TJ1 a).2.1 ≠ (TJ1 b).2.1 := by decide +kernel
theorem tyJ1_ok : ∀ k, k < 0 → parseFieldDescriptor (TJ1 k).2.2.1 = some (tyJ1 k) := by decide +kernel
abbrev cJ1_charAt_3b067 : ByteArray := prog_17_method_2_code
def yJ1_charAt_3b067 : MethodName := ⟨RJ1, "charAt", "([BI)C"⟩
def RJ2 : String := "java/lang/StringUTF16"
def TJ2 : u_T := fun k => match k with
  | _ => ("", "", "", false)
def tyJ2 : Nat → FieldType := fun k => match k with
  | _ => .int
abbrev wsJ20 : List Cond := u_ws RJ2 TJ2 0
theorem nmJ2 : ∀ a, a < 0 → ∀ b, b < 0 → a ≠ b → (TJ2 a).2.1 ≠ (TJ2 b).2.1 := by decide +kernel
theorem tyJ2_ok : ∀ k, k < 0 → parseFieldDescriptor (TJ2 k).2.2.1 = some (tyJ2 k) := by decide +kernel
abbrev cJ2_getChar_3b067 : ByteArray := prog_18_method_5_code
def yJ2_getChar_3b067 : MethodName := ⟨RJ2, "getChar", "([BI)C"⟩
abbrev cJ2_length_9d52b : ByteArray := prog_18_method_6_code
def yJ2_length_9d52b : MethodName := ⟨RJ2, "length", "([B)I"⟩
abbrev cJ2_charAt_3b067 : ByteArray := prog_18_method_83_code
def yJ2_charAt_3b067 : MethodName := ⟨RJ2, "charAt", "([BI)C"⟩
abbrev cJ2_checkIndex_2214a : ByteArray := prog_18_method_91_code
def yJ2_checkIndex_2214a : MethodName := ⟨RJ2, "checkIndex", "(I[B)V"⟩
def RJ10 : String := "java/lang/System"
def TJ10 : u_T := fun k => match k with
  | _ => ("", "", "", false)
def tyJ10 : Nat → FieldType := fun k => match k with
  | _ => .int
abbrev wsJ100 : List Cond := u_ws RJ10 TJ10 0
theorem nmJ10 : ∀ a, a < 0 → ∀ b, b < 0 → a ≠ b → (TJ10 a).2.1 ≠ (TJ10 b).2.1 := by decide +kernel
theorem tyJ10_ok : ∀ k, k < 0 → parseFieldDescriptor (TJ10 k).2.2.1 = some (tyJ10 k) := by decide +kernel
def RJxfd54e : String := "java/lang/constant/Constable"
def TJxfd54e : u_T := fun k => match k with
  | _ => ("", "", "", false)
def tyJxfd54e : Nat → FieldType := fun k => match k with
  | _ => .int
abbrev wsJxfd54e0 : List Cond := u_ws RJxfd54e TJxfd54e 0
theorem nmJxfd54e : ∀ a, a < 0 → ∀ b, b < 0 → a ≠ b → (TJxfd54e a).2.1 ≠ (TJxfd54e b).2.1 := by decide +kernel
theorem tyJxfd54e_ok : ∀ k, k < 0 → parseFieldDescriptor (TJxfd54e k).2.2.1 = some (tyJxfd54e k) := by decide +kernel
def RJx3cf43 : String := "java/lang/constant/ConstantDesc"
def TJx3cf43 : u_T := fun k => match k with
  | _ => ("", "", "", false)
def tyJx3cf43 : Nat → FieldType := fun k => match k with
  | _ => .int
abbrev wsJx3cf430 : List Cond := u_ws RJx3cf43 TJx3cf43 0
theorem nmJx3cf43 : ∀ a, a < 0 → ∀ b, b < 0 → a ≠ b → (TJx3cf43 a).2.1 ≠ (TJx3cf43 b).2.1 := by decide +kernel
theorem tyJx3cf43_ok : ∀ k, k < 0 → parseFieldDescriptor (TJx3cf43 k).2.2.1 = some (tyJx3cf43 k) := by decide +kernel
def RJ7 : String := "java/util/Arrays"
def TJ7 : u_T := fun k => match k with
  | _ => ("", "", "", false)
def tyJ7 : Nat → FieldType := fun k => match k with
  | _ => .int
abbrev wsJ70 : List Cond := u_ws RJ7 TJ7 0
theorem nmJ7 : ∀ a, a < 0 → ∀ b, b < 0 → a ≠ b → (TJ7 a).2.1 ≠ (TJ7 b).2.1 := by decide +kernel
theorem tyJ7_ok : ∀ k, k < 0 → parseFieldDescriptor (TJ7 k).2.2.1 = some (tyJ7 k) := by decide +kernel
abbrev cJ7_fill_53178 : ByteArray := prog_20_method_103_code
def yJ7_fill_53178 : MethodName := ⟨RJ7, "fill", "([II)V"⟩
abbrev cJ7_copyOf_59c91 : ByteArray := prog_20_method_123_code
def yJ7_copyOf_59c91 : MethodName := ⟨RJ7, "copyOf", "([II)[I"⟩
def RJ3 : String := "jdk/internal/util/Preconditions"
def TJ3 : u_T := fun k => match k with
  | _ => ("", "", "", false)
def tyJ3 : Nat → FieldType := fun k => match k with
  | _ => .int
abbrev wsJ30 : List Cond := u_ws RJ3 TJ3 0
theorem nmJ3 : ∀ a, a < 0 → ∀ b, b < 0 → a ≠ b → (TJ3 a).2.1 ≠ (TJ3 b).2.1 := by decide +kernel
theorem tyJ3_ok : ∀ k, k < 0 → parseFieldDescriptor (TJ3 k).2.2.1 = some (tyJ3 k) := by decide +kernel
abbrev cJ3_checkIndex_8e157 : ByteArray := prog_21_method_11_code
def yJ3_checkIndex_8e157 : MethodName := ⟨RJ3, "checkIndex", "(IILjava/util/function/BiFunction;)I"⟩
def RL : String := "SilentHouseLaw"
abbrev cL_law : ByteArray := code
def yL_law : MethodName := ⟨RL, "law", "([I)Z"⟩
abbrev vwCl : List vw_C := [(RX0, TX0, 7), (RX1, TX1, 5), (RX2, TX2, 18), (RX3, TX3, 2), (RX4, TX4, 15), (RX5, TX5, 13), (RX6, TX6, 7), (RX7, TX7, 7), (RX8, TX8, 5), (RX9, TX9, 7), (RX10, TX10, 37)]
theorem inX0 : ∀ w ∈ wsX00, w ∈ lw_tbl := by decide +kernel
theorem inX1 : ∀ w ∈ wsX10, w ∈ lw_tbl := by decide +kernel
theorem inX2 : ∀ w ∈ wsX20, w ∈ lw_tbl := by decide +kernel
theorem inX3 : ∀ w ∈ wsX30, w ∈ lw_tbl := by decide +kernel
theorem inX4 : ∀ w ∈ wsX40, w ∈ lw_tbl := by decide +kernel
theorem inX5 : ∀ w ∈ wsX50, w ∈ lw_tbl := by decide +kernel
theorem inX6 : ∀ w ∈ wsX60, w ∈ lw_tbl := by decide +kernel
theorem inX7 : ∀ w ∈ wsX70, w ∈ lw_tbl := by decide +kernel
theorem inX8 : ∀ w ∈ wsX80, w ∈ lw_tbl := by decide +kernel
theorem inX9 : ∀ w ∈ wsX90, w ∈ lw_tbl := by decide +kernel
theorem inX10 : ∀ w ∈ wsX100, w ∈ lw_tbl := by decide +kernel
