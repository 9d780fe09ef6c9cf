section
-- ===== PART A: goes FIRST, ahead of the names: the tables' words, and 'selects' of the private methods out of them =====
/-- a private method of a class that the tables say can be made, by its rows of tables_1 -/
def lw_okq (q : MethodName × Nat) : Prop := (q.1.cls ≠ "java/lang/invoke/MethodHandle" ∧ q.1.cls ≠ "java/lang/invoke/VarHandle") ∧ Cond.instantiable q.1.cls q.2 ∈ tables_1 ∧ Cond.privateMethod q.1 ∈ tables_1 ∧ Cond.instanceMethod q.1 ∈ tables_1
theorem lw_p0 : lw_okq (⟨"java/lang/Throwable", "fillInStackTrace", "(I)Ljava/lang/Throwable;"⟩, 6) := ⟨⟨by decide +kernel, by decide +kernel⟩, List.mem_of_getElem? (i := 212) (by decide +kernel), List.mem_of_getElem? (i := 210) (by decide +kernel), List.mem_of_getElem? (i := 211) (by decide +kernel)⟩
theorem lw_p1 : lw_okq (⟨"java/util/ArrayList", "add", "(Ljava/lang/Object;[Ljava/lang/Object;I)V"⟩, 3) := ⟨⟨by decide +kernel, by decide +kernel⟩, List.mem_of_getElem? (i := 51) (by decide +kernel), List.mem_of_getElem? (i := 341) (by decide +kernel), List.mem_of_getElem? (i := 342) (by decide +kernel)⟩
theorem lw_p2 : lw_okq (⟨"java/util/ArrayList", "grow", "()[Ljava/lang/Object;"⟩, 3) := ⟨⟨by decide +kernel, by decide +kernel⟩, List.mem_of_getElem? (i := 51) (by decide +kernel), List.mem_of_getElem? (i := 345) (by decide +kernel), List.mem_of_getElem? (i := 346) (by decide +kernel)⟩
theorem lw_p3 : lw_okq (⟨"java/util/ArrayList", "grow", "(I)[Ljava/lang/Object;"⟩, 3) := ⟨⟨by decide +kernel, by decide +kernel⟩, List.mem_of_getElem? (i := 51) (by decide +kernel), List.mem_of_getElem? (i := 349) (by decide +kernel), List.mem_of_getElem? (i := 350) (by decide +kernel)⟩
theorem lw_p4 : lw_okq (⟨"ChannelNet", "channelAt", "(I)LChannelNet$Channel;"⟩, 11) := ⟨⟨by decide +kernel, by decide +kernel⟩, List.mem_of_getElem? (i := 24) (by decide +kernel), List.mem_of_getElem? (i := 439) (by decide +kernel), List.mem_of_getElem? (i := 440) (by decide +kernel)⟩
theorem lw_p5 : lw_okq (⟨"ChannelNet$Channel", "makeState", "(II)V"⟩, 12) := ⟨⟨by decide +kernel, by decide +kernel⟩, List.mem_of_getElem? (i := 280) (by decide +kernel), List.mem_of_getElem? (i := 484) (by decide +kernel), List.mem_of_getElem? (i := 485) (by decide +kernel)⟩
theorem lw_p6 : lw_okq (⟨"ChannelNet", "payBalances", "(LChannelNet$Channel;I)V"⟩, 11) := ⟨⟨by decide +kernel, by decide +kernel⟩, List.mem_of_getElem? (i := 24) (by decide +kernel), List.mem_of_getElem? (i := 565) (by decide +kernel), List.mem_of_getElem? (i := 566) (by decide +kernel)⟩
theorem lw_p7 : lw_okq (⟨"ChannelNet", "findRoute", "(III)V"⟩, 11) := ⟨⟨by decide +kernel, by decide +kernel⟩, List.mem_of_getElem? (i := 24) (by decide +kernel), List.mem_of_getElem? (i := 580) (by decide +kernel), List.mem_of_getElem? (i := 581) (by decide +kernel)⟩
theorem lw_p8 : lw_okq (⟨"ChannelNet", "searchBack", "(IIIII)V"⟩, 11) := ⟨⟨by decide +kernel, by decide +kernel⟩, List.mem_of_getElem? (i := 24) (by decide +kernel), List.mem_of_getElem? (i := 584) (by decide +kernel), List.mem_of_getElem? (i := 585) (by decide +kernel)⟩
theorem lw_p9 : lw_okq (⟨"ChannelNet", "goOnFrom", "(IIIII)V"⟩, 11) := ⟨⟨by decide +kernel, by decide +kernel⟩, List.mem_of_getElem? (i := 24) (by decide +kernel), List.mem_of_getElem? (i := 593) (by decide +kernel), List.mem_of_getElem? (i := 594) (by decide +kernel)⟩
theorem lw_p10 : lw_okq (⟨"ChannelNet", "feeOf", "(II)I"⟩, 11) := ⟨⟨by decide +kernel, by decide +kernel⟩, List.mem_of_getElem? (i := 24) (by decide +kernel), List.mem_of_getElem? (i := 597) (by decide +kernel), List.mem_of_getElem? (i := 598) (by decide +kernel)⟩
theorem lw_p11 : lw_okq (⟨"ChannelNet", "fixDeadlines", "(LChannelNet$Payment;I)V"⟩, 11) := ⟨⟨by decide +kernel, by decide +kernel⟩, List.mem_of_getElem? (i := 24) (by decide +kernel), List.mem_of_getElem? (i := 696) (by decide +kernel), List.mem_of_getElem? (i := 697) (by decide +kernel)⟩
theorem lw_p12 : lw_okq (⟨"ChannelNet", "paymentAt", "(I)LChannelNet$Payment;"⟩, 11) := ⟨⟨by decide +kernel, by decide +kernel⟩, List.mem_of_getElem? (i := 24) (by decide +kernel), List.mem_of_getElem? (i := 707) (by decide +kernel), List.mem_of_getElem? (i := 708) (by decide +kernel)⟩
theorem lw_p13 : lw_okq (⟨"ChannelNet", "stepBack", "(LChannelNet$Payment;)V"⟩, 11) := ⟨⟨by decide +kernel, by decide +kernel⟩, List.mem_of_getElem? (i := 24) (by decide +kernel), List.mem_of_getElem? (i := 711) (by decide +kernel), List.mem_of_getElem? (i := 712) (by decide +kernel)⟩
theorem lw_p14 : lw_okq (⟨"ChannelNet", "canEnd", "(LChannelNet$Channel;LChannelNet$Promise;I)Z"⟩, 11) := ⟨⟨by decide +kernel, by decide +kernel⟩, List.mem_of_getElem? (i := 24) (by decide +kernel), List.mem_of_getElem? (i := 715) (by decide +kernel), List.mem_of_getElem? (i := 716) (by decide +kernel)⟩
theorem lw_p15 : lw_okq (⟨"ChannelNet", "endAs", "(LChannelNet$Channel;LChannelNet$Promise;I)V"⟩, 11) := ⟨⟨by decide +kernel, by decide +kernel⟩, List.mem_of_getElem? (i := 24) (by decide +kernel), List.mem_of_getElem? (i := 719) (by decide +kernel), List.mem_of_getElem? (i := 720) (by decide +kernel)⟩
def lw_privs_1 : List (MethodName × Nat) := [(⟨"java/lang/Throwable", "fillInStackTrace", "(I)Ljava/lang/Throwable;"⟩, 6), (⟨"java/util/ArrayList", "add", "(Ljava/lang/Object;[Ljava/lang/Object;I)V"⟩, 3), (⟨"java/util/ArrayList", "grow", "()[Ljava/lang/Object;"⟩, 3), (⟨"java/util/ArrayList", "grow", "(I)[Ljava/lang/Object;"⟩, 3), (⟨"ChannelNet", "channelAt", "(I)LChannelNet$Channel;"⟩, 11), (⟨"ChannelNet$Channel", "makeState", "(II)V"⟩, 12), (⟨"ChannelNet", "payBalances", "(LChannelNet$Channel;I)V"⟩, 11), (⟨"ChannelNet", "findRoute", "(III)V"⟩, 11), (⟨"ChannelNet", "searchBack", "(IIIII)V"⟩, 11), (⟨"ChannelNet", "goOnFrom", "(IIIII)V"⟩, 11), (⟨"ChannelNet", "feeOf", "(II)I"⟩, 11), (⟨"ChannelNet", "fixDeadlines", "(LChannelNet$Payment;I)V"⟩, 11), (⟨"ChannelNet", "paymentAt", "(I)LChannelNet$Payment;"⟩, 11), (⟨"ChannelNet", "stepBack", "(LChannelNet$Payment;)V"⟩, 11), (⟨"ChannelNet", "canEnd", "(LChannelNet$Channel;LChannelNet$Promise;I)Z"⟩, 11), (⟨"ChannelNet", "endAs", "(LChannelNet$Channel;LChannelNet$Promise;I)V"⟩, 11)]
theorem lw_r1 : ∀ q ∈ lw_privs_1, lw_okq q := List.forall_mem_cons.mpr ⟨lw_p0, List.forall_mem_cons.mpr ⟨lw_p1, List.forall_mem_cons.mpr ⟨lw_p2, List.forall_mem_cons.mpr ⟨lw_p3, List.forall_mem_cons.mpr ⟨lw_p4, List.forall_mem_cons.mpr ⟨lw_p5, List.forall_mem_cons.mpr ⟨lw_p6, List.forall_mem_cons.mpr ⟨lw_p7, List.forall_mem_cons.mpr ⟨lw_p8, List.forall_mem_cons.mpr ⟨lw_p9, List.forall_mem_cons.mpr ⟨lw_p10, List.forall_mem_cons.mpr ⟨lw_p11, List.forall_mem_cons.mpr ⟨lw_p12, List.forall_mem_cons.mpr ⟨lw_p13, List.forall_mem_cons.mpr ⟨lw_p14, List.forall_mem_cons.mpr ⟨lw_p15, fun _ h => absurd h List.not_mem_nil⟩⟩⟩⟩⟩⟩⟩⟩⟩⟩⟩⟩⟩⟩⟩⟩
theorem lw_p16 : lw_okq (⟨"ChannelNet", "stepForward", "(LChannelNet$Payment;)V"⟩, 11) := ⟨⟨by decide +kernel, by decide +kernel⟩, List.mem_of_getElem? (i := 24) (by decide +kernel), List.mem_of_getElem? (i := 727) (by decide +kernel), List.mem_of_getElem? (i := 728) (by decide +kernel)⟩
theorem lw_p17 : lw_okq (⟨"ChannelNet", "payPunisher", "(LChannelNet$Channel;)V"⟩, 11) := ⟨⟨by decide +kernel, by decide +kernel⟩, List.mem_of_getElem? (i := 24) (by decide +kernel), List.mem_of_getElem? (i := 765) (by decide +kernel), List.mem_of_getElem? (i := 766) (by decide +kernel)⟩
theorem lw_p18 : lw_okq (⟨"ChannelNet", "payPromise", "(LChannelNet$Channel;LChannelNet$Promise;I)V"⟩, 11) := ⟨⟨by decide +kernel, by decide +kernel⟩, List.mem_of_getElem? (i := 24) (by decide +kernel), List.mem_of_getElem? (i := 783) (by decide +kernel), List.mem_of_getElem? (i := 784) (by decide +kernel)⟩
theorem lw_p19 : lw_okq (⟨"ChannelNet", "punishAsWatched", "()I"⟩, 11) := ⟨⟨by decide +kernel, by decide +kernel⟩, List.mem_of_getElem? (i := 24) (by decide +kernel), List.mem_of_getElem? (i := 819) (by decide +kernel), List.mem_of_getElem? (i := 820) (by decide +kernel)⟩
theorem lw_p20 : lw_okq (⟨"ChannelNetModel", "hasRoom", "(J)Z"⟩, 48) := ⟨⟨by decide +kernel, by decide +kernel⟩, List.mem_of_getElem? (i := 855) (by decide +kernel), List.mem_of_getElem? (i := 1026) (by decide +kernel), List.mem_of_getElem? (i := 1027) (by decide +kernel)⟩
theorem lw_p21 : lw_okq (⟨"ChannelNetModel", "find", "(J)I"⟩, 48) := ⟨⟨by decide +kernel, by decide +kernel⟩, List.mem_of_getElem? (i := 855) (by decide +kernel), List.mem_of_getElem? (i := 1030) (by decide +kernel), List.mem_of_getElem? (i := 1031) (by decide +kernel)⟩
theorem lw_p22 : lw_okq (⟨"ChannelNetModel", "learn", "(JI)V"⟩, 48) := ⟨⟨by decide +kernel, by decide +kernel⟩, List.mem_of_getElem? (i := 855) (by decide +kernel), List.mem_of_getElem? (i := 1034) (by decide +kernel), List.mem_of_getElem? (i := 1035) (by decide +kernel)⟩
theorem lw_p23 : lw_okq (⟨"ChannelNetModel", "isKnown", "(IJ)Z"⟩, 48) := ⟨⟨by decide +kernel, by decide +kernel⟩, List.mem_of_getElem? (i := 855) (by decide +kernel), List.mem_of_getElem? (i := 1046) (by decide +kernel), List.mem_of_getElem? (i := 1047) (by decide +kernel)⟩
theorem lw_p24 : lw_okq (⟨"ChannelNetModel", "isChannel", "(I)Z"⟩, 48) := ⟨⟨by decide +kernel, by decide +kernel⟩, List.mem_of_getElem? (i := 855) (by decide +kernel), List.mem_of_getElem? (i := 1065) (by decide +kernel), List.mem_of_getElem? (i := 1066) (by decide +kernel)⟩
theorem lw_p25 : lw_okq (⟨"ChannelNetModel", "sideOf", "(II)I"⟩, 48) := ⟨⟨by decide +kernel, by decide +kernel⟩, List.mem_of_getElem? (i := 855) (by decide +kernel), List.mem_of_getElem? (i := 1069) (by decide +kernel), List.mem_of_getElem? (i := 1070) (by decide +kernel)⟩
theorem lw_p26 : lw_okq (⟨"ChannelNetModel", "now", "(I)J"⟩, 48) := ⟨⟨by decide +kernel, by decide +kernel⟩, List.mem_of_getElem? (i := 855) (by decide +kernel), List.mem_of_getElem? (i := 1073) (by decide +kernel), List.mem_of_getElem? (i := 1074) (by decide +kernel)⟩
theorem lw_p27 : lw_okq (⟨"ChannelNetModel", "hasState", "(I)Z"⟩, 48) := ⟨⟨by decide +kernel, by decide +kernel⟩, List.mem_of_getElem? (i := 855) (by decide +kernel), List.mem_of_getElem? (i := 1080) (by decide +kernel), List.mem_of_getElem? (i := 1081) (by decide +kernel)⟩
theorem lw_p28 : lw_okq (⟨"ChannelNetModel", "balance", "(II)I"⟩, 48) := ⟨⟨by decide +kernel, by decide +kernel⟩, List.mem_of_getElem? (i := 855) (by decide +kernel), List.mem_of_getElem? (i := 1084) (by decide +kernel), List.mem_of_getElem? (i := 1085) (by decide +kernel)⟩
theorem lw_p29 : lw_okq (⟨"ChannelNetModel", "addPromise", "(IIIJI)I"⟩, 48) := ⟨⟨by decide +kernel, by decide +kernel⟩, List.mem_of_getElem? (i := 855) (by decide +kernel), List.mem_of_getElem? (i := 1088) (by decide +kernel), List.mem_of_getElem? (i := 1089) (by decide +kernel)⟩
theorem lw_p30 : lw_okq (⟨"ChannelNetModel", "next", "(IIIJ)V"⟩, 48) := ⟨⟨by decide +kernel, by decide +kernel⟩, List.mem_of_getElem? (i := 855) (by decide +kernel), List.mem_of_getElem? (i := 1092) (by decide +kernel), List.mem_of_getElem? (i := 1093) (by decide +kernel)⟩
theorem lw_p31 : lw_okq (⟨"ChannelNetModel", "keepPromise", "(II)V"⟩, 48) := ⟨⟨by decide +kernel, by decide +kernel⟩, List.mem_of_getElem? (i := 855) (by decide +kernel), List.mem_of_getElem? (i := 1103) (by decide +kernel), List.mem_of_getElem? (i := 1104) (by decide +kernel)⟩
def lw_privs_2 : List (MethodName × Nat) := [(⟨"ChannelNet", "stepForward", "(LChannelNet$Payment;)V"⟩, 11), (⟨"ChannelNet", "payPunisher", "(LChannelNet$Channel;)V"⟩, 11), (⟨"ChannelNet", "payPromise", "(LChannelNet$Channel;LChannelNet$Promise;I)V"⟩, 11), (⟨"ChannelNet", "punishAsWatched", "()I"⟩, 11), (⟨"ChannelNetModel", "hasRoom", "(J)Z"⟩, 48), (⟨"ChannelNetModel", "find", "(J)I"⟩, 48), (⟨"ChannelNetModel", "learn", "(JI)V"⟩, 48), (⟨"ChannelNetModel", "isKnown", "(IJ)Z"⟩, 48), (⟨"ChannelNetModel", "isChannel", "(I)Z"⟩, 48), (⟨"ChannelNetModel", "sideOf", "(II)I"⟩, 48), (⟨"ChannelNetModel", "now", "(I)J"⟩, 48), (⟨"ChannelNetModel", "hasState", "(I)Z"⟩, 48), (⟨"ChannelNetModel", "balance", "(II)I"⟩, 48), (⟨"ChannelNetModel", "addPromise", "(IIIJI)I"⟩, 48), (⟨"ChannelNetModel", "next", "(IIIJ)V"⟩, 48), (⟨"ChannelNetModel", "keepPromise", "(II)V"⟩, 48)]
theorem lw_r2 : ∀ q ∈ lw_privs_2, lw_okq q := List.forall_mem_cons.mpr ⟨lw_p16, List.forall_mem_cons.mpr ⟨lw_p17, List.forall_mem_cons.mpr ⟨lw_p18, List.forall_mem_cons.mpr ⟨lw_p19, List.forall_mem_cons.mpr ⟨lw_p20, List.forall_mem_cons.mpr ⟨lw_p21, List.forall_mem_cons.mpr ⟨lw_p22, List.forall_mem_cons.mpr ⟨lw_p23, List.forall_mem_cons.mpr ⟨lw_p24, List.forall_mem_cons.mpr ⟨lw_p25, List.forall_mem_cons.mpr ⟨lw_p26, List.forall_mem_cons.mpr ⟨lw_p27, List.forall_mem_cons.mpr ⟨lw_p28, List.forall_mem_cons.mpr ⟨lw_p29, List.forall_mem_cons.mpr ⟨lw_p30, List.forall_mem_cons.mpr ⟨lw_p31, fun _ h => absurd h List.not_mem_nil⟩⟩⟩⟩⟩⟩⟩⟩⟩⟩⟩⟩⟩⟩⟩⟩
theorem lw_p32 : lw_okq (⟨"ChannelNetModel", "nodeOf", "(II)I"⟩, 48) := ⟨⟨by decide +kernel, by decide +kernel⟩, List.mem_of_getElem? (i := 855) (by decide +kernel), List.mem_of_getElem? (i := 1108) (by decide +kernel), List.mem_of_getElem? (i := 1109) (by decide +kernel)⟩
theorem lw_p33 : lw_okq (⟨"ChannelNetModel", "dropPromise", "(II)V"⟩, 48) := ⟨⟨by decide +kernel, by decide +kernel⟩, List.mem_of_getElem? (i := 855) (by decide +kernel), List.mem_of_getElem? (i := 1116) (by decide +kernel), List.mem_of_getElem? (i := 1117) (by decide +kernel)⟩
theorem lw_p34 : lw_okq (⟨"ChannelNetModel", "shut", "(I)V"⟩, 48) := ⟨⟨by decide +kernel, by decide +kernel⟩, List.mem_of_getElem? (i := 855) (by decide +kernel), List.mem_of_getElem? (i := 1124) (by decide +kernel), List.mem_of_getElem? (i := 1125) (by decide +kernel)⟩
theorem lw_p35 : lw_okq (⟨"ChannelNetModel", "isProper", "(III)Z"⟩, 48) := ⟨⟨by decide +kernel, by decide +kernel⟩, List.mem_of_getElem? (i := 855) (by decide +kernel), List.mem_of_getElem? (i := 1132) (by decide +kernel), List.mem_of_getElem? (i := 1133) (by decide +kernel)⟩
theorem lw_p36 : lw_okq (⟨"ChannelNetModel", "search", "(III)V"⟩, 48) := ⟨⟨by decide +kernel, by decide +kernel⟩, List.mem_of_getElem? (i := 855) (by decide +kernel), List.mem_of_getElem? (i := 1137) (by decide +kernel), List.mem_of_getElem? (i := 1138) (by decide +kernel)⟩
theorem lw_p37 : lw_okq (⟨"ChannelNetModel", "carries", "(IIJ)Z"⟩, 48) := ⟨⟨by decide +kernel, by decide +kernel⟩, List.mem_of_getElem? (i := 855) (by decide +kernel), List.mem_of_getElem? (i := 1141) (by decide +kernel), List.mem_of_getElem? (i := 1142) (by decide +kernel)⟩
theorem lw_p38 : lw_okq (⟨"ChannelNetModel", "isBetter", "(I)Z"⟩, 48) := ⟨⟨by decide +kernel, by decide +kernel⟩, List.mem_of_getElem? (i := 855) (by decide +kernel), List.mem_of_getElem? (i := 1145) (by decide +kernel), List.mem_of_getElem? (i := 1146) (by decide +kernel)⟩
theorem lw_p39 : lw_okq (⟨"ChannelNetModel", "forward", "(I)I"⟩, 48) := ⟨⟨by decide +kernel, by decide +kernel⟩, List.mem_of_getElem? (i := 855) (by decide +kernel), List.mem_of_getElem? (i := 1163) (by decide +kernel), List.mem_of_getElem? (i := 1164) (by decide +kernel)⟩
theorem lw_p40 : lw_okq (⟨"ChannelNetModel", "turn", "(II)I"⟩, 48) := ⟨⟨by decide +kernel, by decide +kernel⟩, List.mem_of_getElem? (i := 855) (by decide +kernel), List.mem_of_getElem? (i := 1167) (by decide +kernel), List.mem_of_getElem? (i := 1168) (by decide +kernel)⟩
theorem lw_p41 : lw_okq (⟨"ChannelNetModel", "backward", "(I)I"⟩, 48) := ⟨⟨by decide +kernel, by decide +kernel⟩, List.mem_of_getElem? (i := 855) (by decide +kernel), List.mem_of_getElem? (i := 1171) (by decide +kernel), List.mem_of_getElem? (i := 1172) (by decide +kernel)⟩
theorem lw_p42 : lw_okq (⟨"ChannelNetModel", "mayPunish", "(I)Z"⟩, 48) := ⟨⟨by decide +kernel, by decide +kernel⟩, List.mem_of_getElem? (i := 855) (by decide +kernel), List.mem_of_getElem? (i := 1187) (by decide +kernel), List.mem_of_getElem? (i := 1188) (by decide +kernel)⟩
theorem lw_p43 : lw_okq (⟨"ChannelNetModel", "punished", "(I)V"⟩, 48) := ⟨⟨by decide +kernel, by decide +kernel⟩, List.mem_of_getElem? (i := 855) (by decide +kernel), List.mem_of_getElem? (i := 1191) (by decide +kernel), List.mem_of_getElem? (i := 1192) (by decide +kernel)⟩
theorem lw_p44 : lw_okq (⟨"ChannelNetModel", "other", "(I)I"⟩, 48) := ⟨⟨by decide +kernel, by decide +kernel⟩, List.mem_of_getElem? (i := 855) (by decide +kernel), List.mem_of_getElem? (i := 1195) (by decide +kernel), List.mem_of_getElem? (i := 1196) (by decide +kernel)⟩
theorem lw_p45 : lw_okq (⟨"ChannelNetModel", "isLeft", "(II)Z"⟩, 48) := ⟨⟨by decide +kernel, by decide +kernel⟩, List.mem_of_getElem? (i := 855) (by decide +kernel), List.mem_of_getElem? (i := 1203) (by decide +kernel), List.mem_of_getElem? (i := 1204) (by decide +kernel)⟩
theorem lw_p46 : lw_okq (⟨"ChannelNetModel", "goes", "(III)I"⟩, 48) := ⟨⟨by decide +kernel, by decide +kernel⟩, List.mem_of_getElem? (i := 855) (by decide +kernel), List.mem_of_getElem? (i := 1207) (by decide +kernel), List.mem_of_getElem? (i := 1208) (by decide +kernel)⟩
def lw_privs_3 : List (MethodName × Nat) := [(⟨"ChannelNetModel", "nodeOf", "(II)I"⟩, 48), (⟨"ChannelNetModel", "dropPromise", "(II)V"⟩, 48), (⟨"ChannelNetModel", "shut", "(I)V"⟩, 48), (⟨"ChannelNetModel", "isProper", "(III)Z"⟩, 48), (⟨"ChannelNetModel", "search", "(III)V"⟩, 48), (⟨"ChannelNetModel", "carries", "(IIJ)Z"⟩, 48), (⟨"ChannelNetModel", "isBetter", "(I)Z"⟩, 48), (⟨"ChannelNetModel", "forward", "(I)I"⟩, 48), (⟨"ChannelNetModel", "turn", "(II)I"⟩, 48), (⟨"ChannelNetModel", "backward", "(I)I"⟩, 48), (⟨"ChannelNetModel", "mayPunish", "(I)Z"⟩, 48), (⟨"ChannelNetModel", "punished", "(I)V"⟩, 48), (⟨"ChannelNetModel", "other", "(I)I"⟩, 48), (⟨"ChannelNetModel", "isLeft", "(II)Z"⟩, 48), (⟨"ChannelNetModel", "goes", "(III)I"⟩, 48)]
theorem lw_r3 : ∀ q ∈ lw_privs_3, lw_okq q := List.forall_mem_cons.mpr ⟨lw_p32, List.forall_mem_cons.mpr ⟨lw_p33, List.forall_mem_cons.mpr ⟨lw_p34, List.forall_mem_cons.mpr ⟨lw_p35, List.forall_mem_cons.mpr ⟨lw_p36, List.forall_mem_cons.mpr ⟨lw_p37, List.forall_mem_cons.mpr ⟨lw_p38, List.forall_mem_cons.mpr ⟨lw_p39, List.forall_mem_cons.mpr ⟨lw_p40, List.forall_mem_cons.mpr ⟨lw_p41, List.forall_mem_cons.mpr ⟨lw_p42, List.forall_mem_cons.mpr ⟨lw_p43, List.forall_mem_cons.mpr ⟨lw_p44, List.forall_mem_cons.mpr ⟨lw_p45, List.forall_mem_cons.mpr ⟨lw_p46, fun _ h => absurd h List.not_mem_nil⟩⟩⟩⟩⟩⟩⟩⟩⟩⟩⟩⟩⟩⟩⟩
def lw_privs : List (MethodName × Nat) := lw_privs_1 ++ (lw_privs_2 ++ (lw_privs_3))
def lw_tbl : List Cond := k2_sels lw_privs ++ tables_1
theorem lw_privs_ok : ∀ q ∈ lw_privs, lw_okq q := by
  show ∀ q ∈ lw_privs_1 ++ (lw_privs_2 ++ (lw_privs_3)), lw_okq q
  exact List.forall_mem_append.mpr ⟨lw_r1, List.forall_mem_append.mpr ⟨lw_r2, lw_r3⟩⟩
-- ===== end of PART A; then your names; then what follows =====
end
section
/-! ===== BEGIN words of one list among another's, by their places ===== -/
theorem goodIn_r {big : List Cond} (ws : List Cond) (ps : List Nat) (hp : ws = ps.filterMap (fun i => big[i]?)) (h : ws.all goodWord = true) : GoodIn big ws := by
  intro w hw
  have h1 := List.all_eq_true.mp h w hw
  rw [hp] at hw
  obtain ⟨i, -, hi⟩ := List.mem_filterMap.mp hw
  have hm : w ∈ big := by first | exact List.mem_of_getElem? hi | exact List.getElem?_mem hi
  exact ⟨hm, good_of_word h1⟩
theorem goodIn_app {big a b : List Cond} (ha : GoodIn big a) (hb : GoodIn big b) : GoodIn big (a ++ b) := fun w h => (List.mem_append.mp h).elim (ha w) (hb w)
theorem goodIn_ca {big a b : List Cond} {c : Cond} (ha : GoodIn big (c :: a)) (hb : GoodIn big b) : GoodIn big (c :: (a ++ b)) := fun w h => (List.mem_cons.mp h).elim (fun e => ha w (List.mem_cons.mpr (Or.inl e))) (fun h => (List.mem_append.mp h).elim (fun h => ha w (List.mem_cons.mpr (Or.inr h))) (hb w))
theorem goodIn_sub {big ws : List Cond} (hm : ∀ w ∈ ws, w ∈ big) (h : ws.all goodWord = true) : GoodIn big ws := fun w hw => ⟨hm w hw, good_of_word (List.all_eq_true.mp h w hw)⟩
/-! ===== END ===== -/

/-! ===== BEGIN exceptions that leave a method, and their catching by the caller (launches without stack traces) ===== -/
section VXA
/-! The laws vx_back, vx_callV, vx_callS, vx_callSW, vx_throw0, vx_throwS follow proofs of the library, with one case more: JvmDerived/Free/Laws.lean (Back.of_free), Shelf42/LK1.lean (callV, callS), Shelf/KitTraced.lean (throwNew0V, throwNewS). -/
/-- where a method has thrown q: the class by its name, the cell, what was written, the world -/
def vx_T (XC : String → State → State → Prop) (st : State) (q : Addr) (t : State) (mc ms : Nat) (free : Addr → Prop) : Prop :=
  ∃ (E : String) (ce : Cell) (L : List Loc), XC E st t ∧ t.heap[q]? = some ce ∧ ce.vm = .none ∧ st.vm.findClass E = some ce.cls ∧ st.WarmedH t.vm ∧ st.sameButNew ({ t with vm := st.vm } : State) L mc ms ∧ ∀ z ∈ L, free z.base
def vx_Q (Qc : Array Value → State → Outcome → State → Prop) (XC : String → State → State → Prop) (mc ms : Nat) (free : Addr → Prop) : Array Value → State → Outcome → State → Prop := fun a st o t =>
  (Qc a st o t ∧ ∃ L, FrameEnd st o t L mc ms ∧ ∀ q ∈ L, free q.base) ∨ ∃ q, o = .threw q ∧ vx_T XC st q t mc ms free
/-- a callee that returns or throws -/
def vx_Met (l : Launch) (y : MethodName) (ws : List Cond) (rm : Room) (Pc : Array Value → State → Prop) (Qc : Array Value → State → Outcome → State → Prop) (XC : String → State → State → Prop) (mc ms : Nat) (free : Addr → Prop) : Prop :=
  MetFree l y (headSpec ws rm) Pc (fun _ _ _ _ _ => True) (vx_Q Qc XC mc ms free)
def vx_Post (XC : String → State → State → Prop) (mc ms : Nat) (free : Addr → Prop) : Pt → Array Value → Addr → Pt → Prop := fun A a q B =>
  ∃ (g : JFrame) (mk : MethodId) (t : State) (L : List Loc) (E : String) (ce : Cell), B.U.heap = t.heap ∧ B.U.vm = t.vm ∧ XC E (A.U.calling g mk a) t ∧ t.heap[q]? = some ce ∧ ce.vm = .none ∧ A.U.vm.findClass E = some ce.cls ∧ B.locs = A.locs ++ L ∧ (∀ z ∈ L, free z.base) ∧ B.cells = A.cells + mc ∧ B.slots = A.slots + ms
def vx_Back (l : Launch) (R : Room) (p : Program) (e : Env) (below : List Frame) (s : State) (sargs : Array Value) (y : MethodName) (len W9 : Nat)
    (Pre : Pt → Array Value → Prop) (Post : Pt → Array Value → Option Value → Pt → Prop) (PostX : Pt → Array Value → Addr → Pt → Prop) : Prop :=
  ∀ (m : MethodId) (meth : Method) (c : Code) (A : Pt) (g : JFrame) (ig : Instr) (mk : MethodId) (a : Array Value),
    Stand p l e R s m sargs below meth c A.U A.locs A.cells A.slots → g.method = m → g.locals.size = c.maxLocals → decode c.code g.pc = .ok (ig, len) →
    2 * g.monitorRoom + (g.stack.map fun v => v.category).sum ≤ W9 → A.U.methodNamed? y = some mk → Pre A a →
    (∃ (v : Option Value) (B : Pt), Stand p l e R s m sargs below meth c B.U B.locs B.cells B.slots ∧ Post A a v B ∧
      Steps p.tables e below (doInvoke e (A.U.setTop g) [] mk a).1 (B.U.setTop { g with pc := g.pc + len, stack := v.toList ++ g.stack })) ∨
    (∃ (q : Addr) (B : Pt), Stand p l e R s m sargs below meth c B.U B.locs B.cells B.slots ∧ PostX A a q B ∧
      Steps p.tables e below (doInvoke e (A.U.setTop g) [] mk a).1 ((B.U.setTop g).pushFrame (.throwing q)))
section Payer
variable {l : Launch} {R : Room} {p : Program} {e : Env} {below : List Frame} {s : State} {sargs : Array Value} {y : MethodName} {len W9 : Nat}
theorem vx_back {ws : List Cond} {rm : Room} {Pc : Array Value → State → Prop} {Qc : Array Value → State → Outcome → State → Prop} {XC : String → State → State → Prop} {mc ms : Nat} {free : Addr → Prop} {bytes : ByteArray} {maxL : Nat} {ret : Option FieldType}
    (hM : vx_Met l y ws rm Pc Qc XC mc ms free) (hblind : FrameBlind Pc) (hrc : rm.cells = mc) (hrs : rm.slots = ms)
    (hframes : rm.frames + 1 ≤ R.frames) (hlocals : W9 + (maxL + 11) + rm.locals ≤ R.locals)
    (hws : ∀ w ∈ ws, ∀ a' U, s.WarmedH U.vm → w.before a' U = true) (hcode : Cond.code y bytes maxL ret ∈ ws) (hinit : ∀ a' U, s.WarmedH U.vm → (Cond.initialized y.cls).before a' U = true) :
    vx_Back l R p e below s sargs y len W9 (PreOf R mc ms Pc) (PostOf Qc mc ms free) (vx_Post XC mc ms free) := by
  intro m meth c A g ig mk a X hg hsize hdg hW hn hp
  have h1 : (headSpec ws rm).pre.before a A.U = true := atoms_intro fun w hw => hws w hw _ _ X.warmed
  have h2 : (Cond.code y bytes maxL ret).before a A.U = true := hws _ hcode _ _ X.warmed
  have h3 : (Cond.initialized y.cls).before a A.U = true := hinit _ _ X.warmed
  have h4 : A.cells + (headSpec ws rm).room.cells ≤ R.cells := by rw [show (headSpec ws rm).room.cells = mc from hrc]; exact hp.1
  have h5 : A.slots + (headSpec ws rm).room.slots ≤ R.slots := by rw [show (headSpec ws rm).room.slots = ms from hrs]; exact hp.2.1
  have hPc : Pc a (A.U.calling g mk a) := hblind _ _ _ _ hp.2.2
  obtain ⟨U, Ls, c0, s0⟩ := A
  dsimp only [Pt.U, Pt.locs, Pt.cells, Pt.slots] at h1 h2 h3 h4 h5 X hn hPc ⊢
  obtain ⟨methY, cY, hmY, hcY, -, hlY, -, -, -, -⟩ := Cond.code_spec hn h2
  obtain ⟨kY, hkY, -⟩ := className_of_methodNamed hn
  have hinitY : kY.init = .initialized := Cond.initialized_spec (findClass_of_methodNamed hn) hkY h3
  have h : At U g.method c below := by rw [hg]; exact X.here
  have hlocals9 : W9 + (maxL + 11) + (headSpec ws rm).room.locals ≤ R.locals := hlocals
  have happ : (headSpec ws rm).appliesLoose y e.platform (U.calling g mk a) = true :=
    Spec.appliesLoose_calling (g := g) h hdg hn hkY hinitY
      (X.room_calling (g := g) (R' := (headSpec ws rm).room) hsize hmY hcY hframes (by rw [hlY]; omega) h4 h5) h1
  obtain ⟨mid, hmid⟩ := h.above
  have hfr : (U.setTop g).frames = (.java g :: mid) ++ below := by rw [State.frames_setTop' g h.top, hmid]; rfl
  obtain ⟨o, s₂, hsteps, -, hend, hq⟩ := Steps.callFree hM p X.admits X.cas X.clock (acts := []) hfr happ hPc trivial
  have hq' : vx_Q Qc XC mc ms free a (U.calling g mk a) o s₂ := hq
  rw [State.frames_setTop' g h.top] at hend
  obtain ⟨g₀, hg0⟩ := Option.isSome_iff_exists.mp h.top
  obtain ⟨r, hr⟩ := State.topJava?_eq_some.mp hg0
  have hr' : (({ U with heap := s₂.heap, slotsUsed := s₂.slotsUsed } : State).setVm s₂.vm).frames = .java g₀ :: r := hr
  rcases hq' with ⟨hqc, L, hfe, hL⟩ | ⟨q, rfl, E, ce, L, hx, hce, hcv, hcl, hW₂, hsm, hL⟩
  · obtain ⟨⟨v, rfl⟩, hW₂, e2, q2, q3, q4, q5, q6⟩ := id hfe
    have e3 : s₂ = ({ (U.calling g mk a).setFrames s₂.frames with heap := s₂.heap, slotsUsed := s₂.slotsUsed } : State).setVm s₂.vm := by
      have : s₂ = ({ s₂ with vm := (U.calling g mk a).vm } : State).setVm s₂.vm := rfl
      rw [e2] at this
      exact this
    obtain ⟨c₂, i₂, len₂, hc₂, hd₂, hf₂⟩ := hend
    have hW' : U.WarmedH s₂.vm := hW₂
    have hcc : c₂ = c := by
      have h1 : s₂.code? g.method = U.code? g.method := by
        rw [State.code?_eq, State.code?_eq, hW'.alike.method?]
      exact Option.some.inj (hc₂.symm.trans (h1.trans h.code))
    subst hcc
    have hlen : len₂ = len := by rw [hdg] at hd₂; cases hd₂; rfl
    subst hlen
    have hs₂ : s₂ = (({ U with heap := s₂.heap, slotsUsed := s₂.slotsUsed } : State).setVm s₂.vm).setTop { g with pc := g.pc + len₂, stack := v.toList ++ g.stack } := by
      refine e3.trans ?_
      rw [hf₂, State.calling_eq h.top, State.setFrames_setFrames, State.setTop_of_frames _ hr', hr]
      rfl
    have hsame : U.sameButNew ({ U with heap := s₂.heap, slotsUsed := s₂.slotsUsed } : State) L mc ms := by
      refine ⟨?_, q2, q3, q4, q5, q6⟩
      obtain ⟨t, ht, -⟩ := State.frames_cons hr
      show ({ U with heap := s₂.heap, slotsUsed := s₂.slotsUsed } : State) = { U.setFrames U.frames with heap := s₂.heap, slotsUsed := s₂.slotsUsed }
      rw [State.setFrames_self ht]
    subst hg
    refine Or.inl ⟨v, ⟨(({ U with heap := s₂.heap, slotsUsed := s₂.slotsUsed } : State).setVm s₂.vm), Ls ++ L, c0 + mc, s0 + ms⟩,
      ⟨X.admits, X.cas, X.clock, X.frames, X.room, X.hears, X.method, X.code, (X.here.setHeapUsed s₂.heap s₂.slotsUsed).setVm hW'.alike, X.tail, State.WarmedH.trans X.warmed hW', X.limits, X.bytes, X.same.trans (hsame.setVm s.vm)⟩,
      ⟨g, mk, s₂, L, rfl, rfl, hqc, rfl, hL, rfl, rfl⟩, ?_⟩
    show Steps p.tables e below _ ((({ U with heap := s₂.heap, slotsUsed := s₂.slotsUsed } : State).setVm s₂.vm).setTop { g with pc := g.pc + len₂, stack := v.toList ++ g.stack })
    rw [← hs₂]
    exact hsteps
  · obtain ⟨e2, q2, q3, q4, q5, q6⟩ := id hsm
    have e3 : s₂ = ({ (U.calling g mk a).setFrames s₂.frames with heap := s₂.heap, slotsUsed := s₂.slotsUsed } : State).setVm s₂.vm := by
      have : s₂ = ({ s₂ with vm := (U.calling g mk a).vm } : State).setVm s₂.vm := rfl
      rw [e2] at this
      exact this
    have hf₂ : s₂.frames = .throwing q :: .java g :: U.frames.tail := hend
    have hW' : U.WarmedH s₂.vm := hW₂
    have hs₂ : s₂ = ((({ U with heap := s₂.heap, slotsUsed := s₂.slotsUsed } : State).setVm s₂.vm).setTop g).pushFrame (.throwing q) := by
      refine e3.trans ?_
      rw [hf₂, State.calling_eq h.top, State.setFrames_setFrames, State.pushFrame, State.frames_setTop _ hr', State.setTop_of_frames _ hr', State.setFrames_setFrames, hr]
      rfl
    have hsame : U.sameButNew ({ U with heap := s₂.heap, slotsUsed := s₂.slotsUsed } : State) L mc ms := by
      refine ⟨?_, q2, q3, q4, q5, q6⟩
      obtain ⟨t, ht, -⟩ := State.frames_cons hr
      show ({ U with heap := s₂.heap, slotsUsed := s₂.slotsUsed } : State) = { U.setFrames U.frames with heap := s₂.heap, slotsUsed := s₂.slotsUsed }
      rw [State.setFrames_self ht]
    subst hg
    refine Or.inr ⟨q, ⟨(({ U with heap := s₂.heap, slotsUsed := s₂.slotsUsed } : State).setVm s₂.vm), Ls ++ L, c0 + mc, s0 + ms⟩,
      ⟨X.admits, X.cas, X.clock, X.frames, X.room, X.hears, X.method, X.code, (X.here.setHeapUsed s₂.heap s₂.slotsUsed).setVm hW'.alike, X.tail, State.WarmedH.trans X.warmed hW', X.limits, X.bytes, X.same.trans (hsame.setVm s.vm)⟩,
      ⟨g, mk, s₂, L, E, ce, rfl, rfl, hx, hce, hcv, hcl, rfl, hL, rfl, rfl⟩, ?_⟩
    show Steps p.tables e below _ (((({ U with heap := s₂.heap, slotsUsed := s₂.slotsUsed } : State).setVm s₂.vm).setTop g).pushFrame (.throwing q))
    rw [← hs₂]
    exact hsteps
end Payer
section Calls
variable {p : Program} {l : Launch} {e : Env} {R : Room} {s : State} {m : MethodId} {args : Array Value} {below : List Frame} {meth : Method} {c : Code} {T : State} {locs : List Loc} {cells slots : Nat}
theorem vx_callV (X : Stand p l e R s m args below meth c T locs cells slots) (hexec : p.tables.exec = Jvm.exec) {own C : String} {index : Nat} {y : MethodName} {bytes : ByteArray} {maxL : Nat} {ret : Option FieldType}
    (hown : s.vm.findClass own = some m.cls) (hlink : (Cond.methodLink own index y).before args s = true) (hinst : (Cond.instanceMethod y).before args s = true) (hsel : (Cond.selects C y y).before args s = true)
    (hcode : (Cond.code y bytes maxL ret).before args s = true) (hy : y.cls ≠ "java/lang/invoke/MethodHandle" ∧ y.cls ≠ "java/lang/invoke/VarHandle")
    {W9 : Nat} {Pre : Pt → Array Value → Prop} {Post : Pt → Array Value → Option Value → Pt → Prop} {PostX : Pt → Array Value → Addr → Pt → Prop} (hK : vx_Back l R p e below s args y 3 W9 Pre Post PostX)
    {b : Addr} {cellB : Cell} (hcell : T.heap[b]? = some cellB) (hobj : cellB.vm.isStatics = false) (hcls : s.vm.findClass C = some cellB.cls)
    {g : JFrame} (hg : g.method = m) (hsize : g.locals.size = c.maxLocals) {argsL rest : List Value} (hlen : ∀ sig, parseMethodDescriptor y.desc = some sig → argsL.length = sig.parameters.length)
    (hstack : g.stack = argsL.reverse ++ .ref b :: rest) (hW : 2 * g.monitorRoom + (rest.map fun v => v.category).sum ≤ W9) (hdg : decode c.code g.pc = .ok (.invokevirtual index, 3))
    (hpre : ∀ vm₁, s.WarmedH vm₁ → Pre ⟨T.setVm vm₁, locs, cells, slots⟩ (Value.ref b :: argsL).toArray) :
    (∃ (v : Option Value) (vm₁ : Vm) (B : Pt), s.WarmedH vm₁ ∧ Stand p l e R s m args below meth c B.U B.locs B.cells B.slots ∧ Post ⟨T.setVm vm₁, locs, cells, slots⟩ (Value.ref b :: argsL).toArray v B ∧
      ∀ target, Steps p.tables e below (B.U.setTop { g with pc := g.pc + 3, stack := v.toList ++ rest }) target → Steps p.tables e below (T.setTop g) target) ∨
    (∃ (q : Addr) (vm₁ : Vm) (B : Pt), s.WarmedH vm₁ ∧ Stand p l e R s m args below meth c B.U B.locs B.cells B.slots ∧ PostX ⟨T.setVm vm₁, locs, cells, slots⟩ (Value.ref b :: argsL).toArray q B ∧
      Steps p.tables e below (T.setTop g) ((B.U.setTop { g with stack := rest }).pushFrame (.throwing q))) := by
  obtain ⟨mk, methM, hnamed, hmethM, hstM, habM⟩ := Cond.instanceMethod_spec hinst
  obtain ⟨methM', cM, hmethM', -, -, -, -, -, -, hsigM⟩ := Cond.code_spec hnamed hcode
  cases hmethM.symm.trans hmethM'
  obtain ⟨c2, r2, m2, q1, q2, q3, q4, kP, hkP, hkPi⟩ := Cond.selects_spec hsel
  cases hcls.symm.trans q1
  cases (State.methodFound?_of_named hnamed hy).symm.trans q2
  cases hnamed.symm.trans q3
  have hselP : selectMethod e.platform s.vm cellB.cls mk = .method mk := by rw [Launch.admits_selectMethod X.admits]; exact q4
  obtain ⟨vm₁, X₁, hstep₁⟩ := X.invokevirtual hexec hown hlink hnamed hmethM hstM hkP hkPi hy (a := b) (cell := cellB) hcell
    (fun z h => by rw [h] at hobj; cases hobj) hselP hmethM habM hkP hkPi (g := g) hg (argsL := argsL) (rest := rest) (hlen _ hsigM) hstack hdg
  rcases hK m meth c ⟨T.setVm vm₁, locs, cells, slots⟩ { g with stack := rest } (.invokevirtual index) mk (Value.ref b :: argsL).toArray X₁ hg hsize hdg hW (X₁.named hnamed) (hpre vm₁ X₁.warmed) with ⟨v, B, X', hpost, hsteps⟩ | ⟨q, B, X', hpost, hsteps⟩
  · exact Or.inl ⟨v, vm₁, B, X₁.warmed, X', hpost, fun target h => hstep₁ _ fun acts => by rw [doInvoke_state]; exact hsteps.trans h⟩
  · exact Or.inr ⟨q, vm₁, B, X₁.warmed, X', hpost, hstep₁ _ fun acts => by rw [doInvoke_state]; exact hsteps⟩
theorem vx_callS (X : Stand p l e R s m args below meth c T locs cells slots) (hexec : p.tables.exec = Jvm.exec) {own : String} {index : Nat} {y : MethodName} {bytes : ByteArray} {maxL : Nat} {ret : Option FieldType}
    (hown : s.vm.findClass own = some m.cls) (hlink : (Cond.methodLink own index y).before args s = true) (hstat : (Cond.static y).before args s = true) (hinit : (Cond.initialized y.cls).before args s = true)
    (hcode : (Cond.code y bytes maxL ret).before args s = true) (hy : y.cls ≠ "java/lang/invoke/MethodHandle" ∧ y.cls ≠ "java/lang/invoke/VarHandle")
    {W9 : Nat} {Pre : Pt → Array Value → Prop} {Post : Pt → Array Value → Option Value → Pt → Prop} {PostX : Pt → Array Value → Addr → Pt → Prop} (hK : vx_Back l R p e below s args y 3 W9 Pre Post PostX)
    {g : JFrame} (hg : g.method = m) (hsize : g.locals.size = c.maxLocals) {argsL rest : List Value} (hlen : ∀ sig, parseMethodDescriptor y.desc = some sig → argsL.length = sig.parameters.length)
    (hstack : g.stack = argsL.reverse ++ rest) (hW : 2 * g.monitorRoom + (rest.map fun v => v.category).sum ≤ W9) (hdg : decode c.code g.pc = .ok (.invokestatic index, 3))
    (hpre : ∀ vm₁, s.WarmedH vm₁ → Pre ⟨T.setVm vm₁, locs, cells, slots⟩ argsL.toArray) :
    (∃ (v : Option Value) (vm₁ : Vm) (B : Pt), s.WarmedH vm₁ ∧ Stand p l e R s m args below meth c B.U B.locs B.cells B.slots ∧ Post ⟨T.setVm vm₁, locs, cells, slots⟩ argsL.toArray v B ∧
      ∀ target, Steps p.tables e below (B.U.setTop { g with pc := g.pc + 3, stack := v.toList ++ rest }) target → Steps p.tables e below (T.setTop g) target) ∨
    (∃ (q : Addr) (vm₁ : Vm) (B : Pt), s.WarmedH vm₁ ∧ Stand p l e R s m args below meth c B.U B.locs B.cells B.slots ∧ PostX ⟨T.setVm vm₁, locs, cells, slots⟩ argsL.toArray q B ∧
      Steps p.tables e below (T.setTop g) ((B.U.setTop { g with stack := rest }).pushFrame (.throwing q))) := by
  obtain ⟨mk, hnamed⟩ := Cond.code_named hcode
  obtain ⟨methM, cM, hmethM, -, -, -, -, -, -, hsigM⟩ := Cond.code_spec hnamed hcode
  have hstatic : methM.isStatic = true := Cond.static_spec hnamed hmethM hstat
  obtain ⟨kP, hkP, -⟩ := className_of_methodNamed hnamed
  have hinitP : kP.init = .initialized := Cond.initialized_spec (findClass_of_methodNamed hnamed) hkP hinit
  obtain ⟨vm₁, X₁, hstep₁⟩ := X.invokestatic hexec hown hlink hnamed hmethM hstatic hkP hinitP hy (g := g) hg (argsL := argsL) (rest := rest) (hlen _ hsigM) hstack hdg
  rcases hK m meth c ⟨T.setVm vm₁, locs, cells, slots⟩ { g with stack := rest } (.invokestatic index) mk argsL.toArray X₁ hg hsize hdg hW (X₁.named hnamed) (hpre vm₁ X₁.warmed) with ⟨v, B, X', hpost, hsteps⟩ | ⟨q, B, X', hpost, hsteps⟩
  · exact Or.inl ⟨v, vm₁, B, X₁.warmed, X', hpost, fun target h => hstep₁ _ fun acts => by rw [doInvoke_state]; exact hsteps.trans h⟩
  · exact Or.inr ⟨q, vm₁, B, X₁.warmed, X', hpost, hstep₁ _ fun acts => by rw [doInvoke_state]; exact hsteps⟩
end Calls
theorem vx_cls {s : State} {T : State} {vm₁ : Vm} {E : String} {k : ClassId} (hW : s.WarmedH vm₁) (h : (T.setVm vm₁).vm.findClass E = some k) : s.vm.findClass E = some k := by
  have h1 : vm₁.findClass E = some k := h
  rw [hW.alike.findClass] at h1
  exact h1
/-- the method's frame g, with q thrown over it -/
def vx_W (p : Program) (l : Launch) (e : Env) (R : Room) (s : State) (m : MethodId) (args : Array Value) (below : List Frame) (meth : Method) (c : Code) (H : Heap) (locs : List Loc) (cells slots : Nat) (Q : State → Prop) (g : JFrame) (q : Addr) : Prop :=
  ∀ T : State, T.heap = H → Stand p l e R s m args below meth c T locs cells slots → ∃ t, Steps p.tables e below ((T.setTop g).pushFrame (.throwing q)) t ∧ Q t
def vx_Run (p : Program) (l : Launch) (e : Env) (R : Room) (s : State) (m : MethodId) (args : Array Value) (below : List Frame) (meth : Method) (c : Code) (H : Heap) (locs : List Loc) (cells slots mc ms : Nat) (g : JFrame) (rest : List Value) (Qa : State → Outcome → State → Prop) (XC : String → State → State → Prop) (free : Addr → Prop) : Prop :=
  ∀ T : State, T.heap = H → Stand p l e R s m args below meth c T locs cells slots →
    (∃ (v : Option Value) (st₀ t T' : State) (L : List Loc), st₀.heap = H ∧ Stand p l e R s m args below meth c T' (locs ++ L) (cells + mc) (slots + ms) ∧ (∀ q ∈ L, free q.base) ∧ T'.heap = t.heap ∧ T'.vm = t.vm ∧ Qa st₀ (.returned v) t ∧
      Goes p e below T g T' { g with pc := g.pc + 3, stack := v.toList ++ rest }) ∨
    (∃ (q : Addr) (st₀ t T' : State) (L : List Loc) (E : String) (ce : Cell), st₀.heap = H ∧ Stand p l e R s m args below meth c T' (locs ++ L) (cells + mc) (slots + ms) ∧ (∀ z ∈ L, free z.base) ∧ T'.heap = t.heap ∧ T'.vm = t.vm ∧ XC E st₀ t ∧ t.heap[q]? = some ce ∧ ce.vm = .none ∧ s.vm.findClass E = some ce.cls ∧
      Steps p.tables e below (T.setTop g) ((T'.setTop { g with stack := rest }).pushFrame (.throwing q)))
def vx_X {S : Type} (px : S → Prop) (B : String → S → State → Prop) (A : Nat → Prop) : String → State → State → Prop := fun E st t => ∃ u : S, px u ∧ B E u t ∧ va_F A st t
section Runs
variable {p : Program} {l : Launch} {e : Env} {R : Room} {s : State} {m : MethodId} {args : Array Value} {below : List Frame} {meth : Method} {c : Code} {H : Heap} {locs : List Loc} {cells slots : Nat}
variable {y : MethodName} {bytes cc : ByteArray} {maxL nL mc ms n index : Nat} {ret : Option FieldType} {ws : List Cond} {rm : Room} {Pc : Array Value → State → Prop} {Qc : Array Value → State → Outcome → State → Prop} {XC : String → State → State → Prop} {free : Addr → Prop} {Ts : List Cond} {own C : String} {b : Addr} {As rest : List Value} {g : JFrame}
theorem vx_callBack (cb : CallB R s args own index y bytes maxL ret ws rm mc ms n) (hM : vx_Met l y ws rm Pc Qc XC mc ms free) (hbl : FrameBlind Pc) : vx_Back l R p e below s args y 3 8 (PreOf R mc ms Pc) (PostOf Qc mc ms free) (vx_Post XC mc ms free) := by
  obtain ⟨hrc, hrs, hfr, hlo, hws, hcw, -, hini, -⟩ := cb
  exact vx_back (bytes := bytes) (maxL := maxL) (ret := ret) hM hbl hrc hrs hfr hlo hws hcw (fun a' U hW => word_at hW (Or.inl (by first | rfl | simp [Cond.onTables, Cond.keeps, Cond.steady])) hini)
theorem vx_runV (S : CallFix p m c cc nL s args Ts own) (hM : vx_Met l y ws rm Pc Qc XC mc ms free) (cw : CallW R s args own C index y bytes maxL ret ws rm mc ms n) (hp : PreV s H C b Pc As)
    (hg : g.method = m) (hn : As.length = n) (hsize : g.locals.size = nL) (hstack : g.stack = As.reverse ++ .ref b :: rest) (hW : 2 * g.monitorRoom + (rest.map fun v => v.category).sum ≤ 8) (hdg : decode cc g.pc = .ok (.invokevirtual index, 3)) (hf : cells + mc ≤ R.cells ∧ slots + ms ≤ R.slots) :
    vx_Run p l e R s m args below meth c H locs cells slots mc ms g rest (Qc (Value.ref b :: As).toArray) XC free := by
  have hK : vx_Back l R p e below s args y 3 8 (PreOf R mc ms Pc) (PostOf Qc mc ms free) (vx_Post XC mc ms free) := vx_callBack cw.1 hM hp.1
  obtain ⟨⟨-, -, -, -, -, -, hcode, -, hy, hlen, hl⟩, hin, hse⟩ := cw
  obtain ⟨hx, hb, hml, ho, -⟩ := S
  obtain ⟨-, ⟨cellB, hcB, hoB, hclB⟩, hPc⟩ := hp
  intro T hT X
  rcases vx_callV X hx (C := C) (bytes := bytes) (maxL := maxL) (ret := ret) ho hl hin hse hcode hy hK (by rw [hT]; exact hcB) hoB hclB hg (hsize.trans hml.symm) (argsL := As) (rest := rest) (fun sig h => hn.trans (hlen sig h)) hstack hW (by rw [hb]; exact hdg)
    (fun vm₁ hW₁ => ⟨hf.1, hf.2, hPc (T.setVm vm₁) hT hW₁⟩) with ⟨v, vm₁, ⟨U', l2, c2, s2⟩, hW₁, X', ⟨g', mk, t, L, e1, e2, hq, h1, hL, h2, h3⟩, st⟩ | ⟨q, vm₁, ⟨U', l2, c2, s2⟩, hW₁, X', ⟨g', mk, t, L, E, ce, e1, e2, hq, hce, hcv, hcl, h1, hL, h2, h3⟩, st⟩
  · dsimp only [Pt.U, Pt.locs, Pt.cells, Pt.slots] at X' e1 e2 h1 h2 h3 st
    subst h1; subst h2; subst h3
    exact Or.inl ⟨v, (T.setVm vm₁).calling g' mk (Value.ref b :: As).toArray, t, U', L, hT, X', hL, e1, e2, hq, st⟩
  · dsimp only [Pt.U, Pt.locs, Pt.cells, Pt.slots] at X' e1 e2 h1 h2 h3 st hcl
    subst h1; subst h2; subst h3
    exact Or.inr ⟨q, (T.setVm vm₁).calling g' mk (Value.ref b :: As).toArray, t, U', L, E, ce, hT, X', hL, e1, e2, hq, hce, hcv, vx_cls hW₁ hcl, st⟩
theorem vx_runS (S : CallFix p m c cc nL s args Ts own) (hM : vx_Met l y ws rm Pc Qc XC mc ms free) (cw : CallB R s args own index y bytes maxL ret ws rm mc ms n ∧ (Cond.static y).before args s = true) (hp : PreS s H Pc As)
    (hg : g.method = m) (hn : As.length = n) (hsize : g.locals.size = nL) (hstack : g.stack = As.reverse ++ rest) (hW : 2 * g.monitorRoom + (rest.map fun v => v.category).sum ≤ 8) (hdg : decode cc g.pc = .ok (.invokestatic index, 3)) (hf : cells + mc ≤ R.cells ∧ slots + ms ≤ R.slots) :
    vx_Run p l e R s m args below meth c H locs cells slots mc ms g rest (Qc As.toArray) XC free := by
  have hK : vx_Back l R p e below s args y 3 8 (PreOf R mc ms Pc) (PostOf Qc mc ms free) (vx_Post XC mc ms free) := vx_callBack cw.1 hM hp.1
  obtain ⟨⟨-, -, -, -, -, -, hcode, hini, hy, hlen, hl⟩, hstt⟩ := cw
  obtain ⟨hx, hb, hml, ho, -⟩ := S
  intro T hT X
  rcases vx_callS X hx (bytes := bytes) (maxL := maxL) (ret := ret) ho hl hstt hini hcode hy hK hg (hsize.trans hml.symm) (argsL := As) (rest := rest) (fun sig h => hn.trans (hlen sig h)) hstack hW (by rw [hb]; exact hdg)
    (fun vm₁ hW₁ => ⟨hf.1, hf.2, hp.2 (T.setVm vm₁) hT hW₁⟩) with ⟨v, vm₁, ⟨U', l2, c2, s2⟩, hW₁, X', ⟨g', mk, t, L, e1, e2, hq, h1, hL, h2, h3⟩, st⟩ | ⟨q, vm₁, ⟨U', l2, c2, s2⟩, hW₁, X', ⟨g', mk, t, L, E, ce, e1, e2, hq, hce, hcv, hcl, h1, hL, h2, h3⟩, st⟩
  · dsimp only [Pt.U, Pt.locs, Pt.cells, Pt.slots] at X' e1 e2 h1 h2 h3 st
    subst h1; subst h2; subst h3
    exact Or.inl ⟨v, (T.setVm vm₁).calling g' mk As.toArray, t, U', L, hT, X', hL, e1, e2, hq, st⟩
  · dsimp only [Pt.U, Pt.locs, Pt.cells, Pt.slots] at X' e1 e2 h1 h2 h3 st hcl
    subst h1; subst h2; subst h3
    exact Or.inr ⟨q, (T.setVm vm₁).calling g' mk As.toArray, t, U', L, E, ce, hT, X', hL, e1, e2, hq, hce, hcv, vx_cls hW₁ hcl, st⟩
end Runs
section Rows
variable {p : Program} {l : Launch} {e : Env} {R : Room} {s : State} {m : MethodId} {args : Array Value} {below : List Frame} {meth : Method} {c : Code} {H : Heap} {locs : List Loc} {cells slots : Nat} {Q : State → Prop}
variable {mc ms : Nat} {free : Addr → Prop} {A0 A1 : Nat → Prop} {H0 : Heap} {a : Array Value} {pc : Nat} {ls : Array Slot} {st0 rest : List Value}
theorem vx_keep {st₀ t T' : State} {L : List Loc} (h0 : st₀.heap = H) (e1 : T'.heap = t.heap) (hS : va_S A0 H0 H locs) (hA : ∀ q, q < H.size → A1 q → A0 q) (hf : ∀ q, free q → A0 q) (hL : ∀ q ∈ L, free q.base) (hF : va_F A1 st₀ t) :
    H.size ≤ T'.heap.size ∧ (∀ q : Nat, q < H.size → ¬ A1 q → T'.heap[q]? = H[q]?) ∧ va_S A0 H0 T'.heap (locs ++ L) := by
  obtain ⟨hz, hk⟩ := hF
  rw [h0] at hz hk
  exact ⟨by rw [e1]; exact hz, fun q h1 h2 => by rw [e1]; exact hk q h1 h2,
    ⟨Nat.le_trans hS.1 (by rw [e1]; exact hz), fun q h1 h2 => by rw [e1, hk q (Nat.lt_of_lt_of_le h1 hS.1) (fun z => h2 (hA q (Nat.lt_of_lt_of_le h1 hS.1) z))]; exact hS.2.1 q h1 h2, fun q hq => by
      rcases List.mem_append.mp hq with h | h
      · exact hS.2.2 q h
      · exact hf _ (hL q h)⟩⟩
theorem vx_calli {S SX : Type} {post : Int32 → S → Prop} {px : SX → Prop} {B : S → State → Prop} {BX : String → SX → State → Prop} {AX : Nat → Prop} (hr : vx_Run p l e R s m args below meth c H locs cells slots mc ms (F0 m pc ls st0) rest (va_Qi post B A1 a) (vx_X px BX AX) free) (hS : va_S A0 H0 H locs) (hA : ∀ q, q < H.size → A1 q → A0 q) (hf : ∀ q, free q → A0 q) (hAX : ∀ q, q < H.size → AX q → A0 q)
    (kx : ∀ (E : String) (ce : Cell) (q9 : Addr) (u : SX) (t : State) (H1 : Heap) (locs1 : List Loc), t.heap = H1 → s.vm.Alike t.vm → px u → BX E u t → H.size ≤ H1.size → (∀ q : Nat, q < H.size → ¬ AX q → H1[q]? = H[q]?) → va_S A0 H0 H1 locs1 → H1[q9]? = some ce → ce.vm = .none → s.vm.findClass E = some ce.cls → vx_W p l e R s m args below meth c H1 locs1 (cells + mc) (slots + ms) Q (F0 m pc ls rest) q9)
    (kk : ∀ (r : Int32) (u : S) (t : State) (H1 : Heap) (locs1 : List Loc), t.heap = H1 → s.vm.Alike t.vm → post r u → B u t → H.size ≤ H1.size → (∀ q : Nat, q < H.size → ¬ A1 q → H1[q]? = H[q]?) → va_S A0 H0 H1 locs1 → W p l e R s m args below meth c H1 locs1 (cells + mc) (slots + ms) Q (F0 m (pc + 3) ls (.int r :: rest))) : W p l e R s m args below meth c H locs cells slots Q (F0 m pc ls st0) := by
  intro T hT X
  rcases hr T hT X with ⟨v, st₀, t, T', L, h0, X', hL, e1, e2, ⟨⟨r, u, hv, hp, hb⟩, hF⟩, st⟩ | ⟨q, st₀, t, T', L, E, ce, h0, X', hL, e1, e2, ⟨u, hp, hb, hF⟩, hce, hcv, hcl, st⟩
  · cases hv
    obtain ⟨k1, k2, k3⟩ := vx_keep h0 e1 hS hA hf hL hF
    obtain ⟨t2, a1, b1⟩ := kk r u t T'.heap (locs ++ L) e1.symm (by rw [← e2]; exact X'.warmed.alike) hp hb k1 k2 k3 T' rfl X'
    exact ⟨t2, st t2 a1, b1⟩
  · obtain ⟨k1, k2, k3⟩ := vx_keep h0 e1 hS hAX hf hL hF
    obtain ⟨t2, a1, b1⟩ := kx E ce q u t T'.heap (locs ++ L) e1.symm (by rw [← e2]; exact X'.warmed.alike) hp hb k1 k2 k3 (by rw [e1]; exact hce) hcv hcl T' rfl X'
    exact ⟨t2, st.trans a1, b1⟩
theorem vx_calll {S SX : Type} {post : Int64 → S → Prop} {px : SX → Prop} {B : S → State → Prop} {BX : String → SX → State → Prop} {AX : Nat → Prop} (hr : vx_Run p l e R s m args below meth c H locs cells slots mc ms (F0 m pc ls st0) rest (va_Ql post B A1 a) (vx_X px BX AX) free) (hS : va_S A0 H0 H locs) (hA : ∀ q, q < H.size → A1 q → A0 q) (hf : ∀ q, free q → A0 q) (hAX : ∀ q, q < H.size → AX q → A0 q)
    (kx : ∀ (E : String) (ce : Cell) (q9 : Addr) (u : SX) (t : State) (H1 : Heap) (locs1 : List Loc), t.heap = H1 → s.vm.Alike t.vm → px u → BX E u t → H.size ≤ H1.size → (∀ q : Nat, q < H.size → ¬ AX q → H1[q]? = H[q]?) → va_S A0 H0 H1 locs1 → H1[q9]? = some ce → ce.vm = .none → s.vm.findClass E = some ce.cls → vx_W p l e R s m args below meth c H1 locs1 (cells + mc) (slots + ms) Q (F0 m pc ls rest) q9)
    (kk : ∀ (r : Int64) (u : S) (t : State) (H1 : Heap) (locs1 : List Loc), t.heap = H1 → s.vm.Alike t.vm → post r u → B u t → H.size ≤ H1.size → (∀ q : Nat, q < H.size → ¬ A1 q → H1[q]? = H[q]?) → va_S A0 H0 H1 locs1 → W p l e R s m args below meth c H1 locs1 (cells + mc) (slots + ms) Q (F0 m (pc + 3) ls (.long r :: rest))) : W p l e R s m args below meth c H locs cells slots Q (F0 m pc ls st0) := by
  intro T hT X
  rcases hr T hT X with ⟨v, st₀, t, T', L, h0, X', hL, e1, e2, ⟨⟨r, u, hv, hp, hb⟩, hF⟩, st⟩ | ⟨q, st₀, t, T', L, E, ce, h0, X', hL, e1, e2, ⟨u, hp, hb, hF⟩, hce, hcv, hcl, st⟩
  · cases hv
    obtain ⟨k1, k2, k3⟩ := vx_keep h0 e1 hS hA hf hL hF
    obtain ⟨t2, a1, b1⟩ := kk r u t T'.heap (locs ++ L) e1.symm (by rw [← e2]; exact X'.warmed.alike) hp hb k1 k2 k3 T' rfl X'
    exact ⟨t2, st t2 a1, b1⟩
  · obtain ⟨k1, k2, k3⟩ := vx_keep h0 e1 hS hAX hf hL hF
    obtain ⟨t2, a1, b1⟩ := kx E ce q u t T'.heap (locs ++ L) e1.symm (by rw [← e2]; exact X'.warmed.alike) hp hb k1 k2 k3 (by rw [e1]; exact hce) hcv hcl T' rfl X'
    exact ⟨t2, st.trans a1, b1⟩
theorem vx_callf {S SX : Type} {post : UInt32 → S → Prop} {px : SX → Prop} {B : S → State → Prop} {BX : String → SX → State → Prop} {AX : Nat → Prop} (hr : vx_Run p l e R s m args below meth c H locs cells slots mc ms (F0 m pc ls st0) rest (va_Qf post B A1 a) (vx_X px BX AX) free) (hS : va_S A0 H0 H locs) (hA : ∀ q, q < H.size → A1 q → A0 q) (hf : ∀ q, free q → A0 q) (hAX : ∀ q, q < H.size → AX q → A0 q)
    (kx : ∀ (E : String) (ce : Cell) (q9 : Addr) (u : SX) (t : State) (H1 : Heap) (locs1 : List Loc), t.heap = H1 → s.vm.Alike t.vm → px u → BX E u t → H.size ≤ H1.size → (∀ q : Nat, q < H.size → ¬ AX q → H1[q]? = H[q]?) → va_S A0 H0 H1 locs1 → H1[q9]? = some ce → ce.vm = .none → s.vm.findClass E = some ce.cls → vx_W p l e R s m args below meth c H1 locs1 (cells + mc) (slots + ms) Q (F0 m pc ls rest) q9)
    (kk : ∀ (r : UInt32) (u : S) (t : State) (H1 : Heap) (locs1 : List Loc), t.heap = H1 → s.vm.Alike t.vm → post r u → B u t → H.size ≤ H1.size → (∀ q : Nat, q < H.size → ¬ A1 q → H1[q]? = H[q]?) → va_S A0 H0 H1 locs1 → W p l e R s m args below meth c H1 locs1 (cells + mc) (slots + ms) Q (F0 m (pc + 3) ls (.float r :: rest))) : W p l e R s m args below meth c H locs cells slots Q (F0 m pc ls st0) := by
  intro T hT X
  rcases hr T hT X with ⟨v, st₀, t, T', L, h0, X', hL, e1, e2, ⟨⟨r, u, hv, hp, hb⟩, hF⟩, st⟩ | ⟨q, st₀, t, T', L, E, ce, h0, X', hL, e1, e2, ⟨u, hp, hb, hF⟩, hce, hcv, hcl, st⟩
  · cases hv
    obtain ⟨k1, k2, k3⟩ := vx_keep h0 e1 hS hA hf hL hF
    obtain ⟨t2, a1, b1⟩ := kk r u t T'.heap (locs ++ L) e1.symm (by rw [← e2]; exact X'.warmed.alike) hp hb k1 k2 k3 T' rfl X'
    exact ⟨t2, st t2 a1, b1⟩
  · obtain ⟨k1, k2, k3⟩ := vx_keep h0 e1 hS hAX hf hL hF
    obtain ⟨t2, a1, b1⟩ := kx E ce q u t T'.heap (locs ++ L) e1.symm (by rw [← e2]; exact X'.warmed.alike) hp hb k1 k2 k3 (by rw [e1]; exact hce) hcv hcl T' rfl X'
    exact ⟨t2, st.trans a1, b1⟩
theorem vx_calld {S SX : Type} {post : UInt64 → S → Prop} {px : SX → Prop} {B : S → State → Prop} {BX : String → SX → State → Prop} {AX : Nat → Prop} (hr : vx_Run p l e R s m args below meth c H locs cells slots mc ms (F0 m pc ls st0) rest (va_Qd post B A1 a) (vx_X px BX AX) free) (hS : va_S A0 H0 H locs) (hA : ∀ q, q < H.size → A1 q → A0 q) (hf : ∀ q, free q → A0 q) (hAX : ∀ q, q < H.size → AX q → A0 q)
    (kx : ∀ (E : String) (ce : Cell) (q9 : Addr) (u : SX) (t : State) (H1 : Heap) (locs1 : List Loc), t.heap = H1 → s.vm.Alike t.vm → px u → BX E u t → H.size ≤ H1.size → (∀ q : Nat, q < H.size → ¬ AX q → H1[q]? = H[q]?) → va_S A0 H0 H1 locs1 → H1[q9]? = some ce → ce.vm = .none → s.vm.findClass E = some ce.cls → vx_W p l e R s m args below meth c H1 locs1 (cells + mc) (slots + ms) Q (F0 m pc ls rest) q9)
    (kk : ∀ (r : UInt64) (u : S) (t : State) (H1 : Heap) (locs1 : List Loc), t.heap = H1 → s.vm.Alike t.vm → post r u → B u t → H.size ≤ H1.size → (∀ q : Nat, q < H.size → ¬ A1 q → H1[q]? = H[q]?) → va_S A0 H0 H1 locs1 → W p l e R s m args below meth c H1 locs1 (cells + mc) (slots + ms) Q (F0 m (pc + 3) ls (.double r :: rest))) : W p l e R s m args below meth c H locs cells slots Q (F0 m pc ls st0) := by
  intro T hT X
  rcases hr T hT X with ⟨v, st₀, t, T', L, h0, X', hL, e1, e2, ⟨⟨r, u, hv, hp, hb⟩, hF⟩, st⟩ | ⟨q, st₀, t, T', L, E, ce, h0, X', hL, e1, e2, ⟨u, hp, hb, hF⟩, hce, hcv, hcl, st⟩
  · cases hv
    obtain ⟨k1, k2, k3⟩ := vx_keep h0 e1 hS hA hf hL hF
    obtain ⟨t2, a1, b1⟩ := kk r u t T'.heap (locs ++ L) e1.symm (by rw [← e2]; exact X'.warmed.alike) hp hb k1 k2 k3 T' rfl X'
    exact ⟨t2, st t2 a1, b1⟩
  · obtain ⟨k1, k2, k3⟩ := vx_keep h0 e1 hS hAX hf hL hF
    obtain ⟨t2, a1, b1⟩ := kx E ce q u t T'.heap (locs ++ L) e1.symm (by rw [← e2]; exact X'.warmed.alike) hp hb k1 k2 k3 (by rw [e1]; exact hce) hcv hcl T' rfl X'
    exact ⟨t2, st.trans a1, b1⟩
theorem vx_callv {S SX : Type} {post : S → Prop} {px : SX → Prop} {B : S → State → Prop} {BX : String → SX → State → Prop} {AX : Nat → Prop} (hr : vx_Run p l e R s m args below meth c H locs cells slots mc ms (F0 m pc ls st0) rest (va_Qv post B A1 a) (vx_X px BX AX) free) (hS : va_S A0 H0 H locs) (hA : ∀ q, q < H.size → A1 q → A0 q) (hf : ∀ q, free q → A0 q) (hAX : ∀ q, q < H.size → AX q → A0 q)
    (kx : ∀ (E : String) (ce : Cell) (q9 : Addr) (u : SX) (t : State) (H1 : Heap) (locs1 : List Loc), t.heap = H1 → s.vm.Alike t.vm → px u → BX E u t → H.size ≤ H1.size → (∀ q : Nat, q < H.size → ¬ AX q → H1[q]? = H[q]?) → va_S A0 H0 H1 locs1 → H1[q9]? = some ce → ce.vm = .none → s.vm.findClass E = some ce.cls → vx_W p l e R s m args below meth c H1 locs1 (cells + mc) (slots + ms) Q (F0 m pc ls rest) q9)
    (kk : ∀ (u : S) (t : State) (H1 : Heap) (locs1 : List Loc), t.heap = H1 → s.vm.Alike t.vm → post u → B u t → H.size ≤ H1.size → (∀ q : Nat, q < H.size → ¬ A1 q → H1[q]? = H[q]?) → va_S A0 H0 H1 locs1 → W p l e R s m args below meth c H1 locs1 (cells + mc) (slots + ms) Q (F0 m (pc + 3) ls (rest))) : W p l e R s m args below meth c H locs cells slots Q (F0 m pc ls st0) := by
  intro T hT X
  rcases hr T hT X with ⟨v, st₀, t, T', L, h0, X', hL, e1, e2, ⟨⟨u, hv, hp, hb⟩, hF⟩, st⟩ | ⟨q, st₀, t, T', L, E, ce, h0, X', hL, e1, e2, ⟨u, hp, hb, hF⟩, hce, hcv, hcl, st⟩
  · cases hv
    obtain ⟨k1, k2, k3⟩ := vx_keep h0 e1 hS hA hf hL hF
    obtain ⟨t2, a1, b1⟩ := kk u t T'.heap (locs ++ L) e1.symm (by rw [← e2]; exact X'.warmed.alike) hp hb k1 k2 k3 T' rfl X'
    exact ⟨t2, st t2 a1, b1⟩
  · obtain ⟨k1, k2, k3⟩ := vx_keep h0 e1 hS hAX hf hL hF
    obtain ⟨t2, a1, b1⟩ := kx E ce q u t T'.heap (locs ++ L) e1.symm (by rw [← e2]; exact X'.warmed.alike) hp hb k1 k2 k3 (by rw [e1]; exact hce) hcv hcl T' rfl X'
    exact ⟨t2, st.trans a1, b1⟩
/-- caught by the row x of this method's table; the rows ahead don't take it -/
theorem vx_catch {own name : String} {E : String} {ce : Cell} {q : Addr} (hown : s.vm.findClass own = some m.cls) (pre : List ExceptionTableEntry) (x : ExceptionTableEntry) (suf : List ExceptionTableEntry) (hsplit : c.exceptionTable.toList = pre ++ x :: suf)
    (hpass : ∀ z ∈ pre, covers z pc = false ∨ (z.catchType ≠ 0 ∧ ∃ nm : String, (Cond.classLink own z.catchType nm).before args s = true ∧ va_Nc E nm s)) (hx : covers x pc = true) (h0 : x.catchType ≠ 0)
    (hlink : (Cond.classLink own x.catchType name).before args s = true) (hcast : (Cond.castable E name).before args s = true) (hcell : H[q]? = some ce) (hv : ce.vm = .none) (hcl : s.vm.findClass E = some ce.cls)
    (kk : W p l e R s m args below meth c H locs cells slots Q (F0 m x.handlerPc ls [.ref q])) : vx_W p l e R s m args below meth c H locs cells slots Q (F0 m pc ls rest) q := by
  intro T hT X
  have hpl : e.platform.magicAccessors = ({} : Platform).magicAccessors := by rw [X.admits.platform]
  obtain ⟨c3, c4, hc3, hc4, hasg⟩ := Cond.castable_spec hcast
  cases Option.some.inj (hc3.symm.trans hcl)
  obtain ⟨c5, hc5, hcl5⟩ := Cond.classLink_spec hown hlink e.platform hpl
  cases Option.some.inj (hc4.symm.trans hc5)
  obtain ⟨vm', X', st⟩ := X.thenCaughtThrough q (g := F0 m pc ls rest) rfl (Steps.refl _) (by rw [hT]; exact hcell) (by rw [hv]; rfl) (by obtain ⟨k9, h9, -⟩ := Vm.findClass_spec hcl; exact ⟨k9, h9⟩) pre x suf hsplit
    (fun z hz => by
      rcases hpass z hz with h | ⟨hz0, nm, hl1, hn1⟩
      · exact Or.inl h
      · obtain ⟨c6, hc6, hcl6⟩ := Cond.classLink_spec hown hl1 e.platform hpl
        obtain ⟨a8, b8, h1, h2, h3⟩ := hn1
        cases Option.some.inj (h1.symm.trans hcl)
        cases Option.some.inj (h2.symm.trans hc6)
        exact Or.inr ⟨hz0, _, hcl6, h3⟩) hx (Or.inr ⟨h0, c4, hcl5, hasg⟩)
  obtain ⟨t, a1, b1⟩ := kk (T.setVm vm') hT X'
  exact ⟨t, st.trans a1, b1⟩
end Rows
section Ends
variable {p : Program} {l : Launch} {e : Env} {R : Room} {s : State} {m : MethodId} {args : Array Value} {below : List Frame} {meth : Method} {c : Code} {H : Heap} {locs : List Loc} {cells slots : Nat} {Q : State → Prop}
variable {mc ms : Nat} {free : Addr → Prop} {A0 A1 : Nat → Prop} {H0 : Heap} {a : Array Value} {ls : Array Slot} {st0 rest : List Value}
variable {Qc : Array Value → State → Outcome → State → Prop} {XC : String → State → State → Prop}
/-- what a body that may throw owes at its end -/
def vx_MQ (below : List Frame) (Qc : Array Value → State → Outcome → State → Prop) (XC : String → State → State → Prop) (a : Array Value) (s : State) (mc ms : Nat) (free : Addr → Prop) : State → Prop := fun t =>
  ∃ o, t.status = .running ∧ Ended t below o ∧ vx_Q Qc XC mc ms free a s o t
theorem vx_ret {g : JFrame} {mc ms : Nat} (k : W p l e R s m args below meth c H locs cells slots (MQ below Qc args s mc ms free) g) : W p l e R s m args below meth c H locs cells slots (vx_MQ below Qc XC args s mc ms free) g := by
  intro T hT X
  obtain ⟨t, a1, o, b1, b2, b3, b4⟩ := k T hT X
  exact ⟨t, a1, o, b1, b2, Or.inl ⟨b3, b4⟩⟩
/-- not caught here: it goes on to the caller -/
theorem vx_widen {g : JFrame} {q : Addr} {k n : Nat} (h1 : cells ≤ k) (h2 : slots ≤ n) (kk : vx_W p l e R s m args below meth c H locs k n Q g q) : vx_W p l e R s m args below meth c H locs cells slots Q g q := fun T hT X => kk T hT (stand_widen X h1 h2)
theorem vx_out {pc : Nat} {E : String} {ce : Cell} {q : Addr} {mc ms : Nat} (hout : ∀ x ∈ c.exceptionTable.toList, covers x pc = false) (hlocks : meth.locks = false) (hcell : H[q]? = some ce) (hv : ce.vm = .none) (hcl : s.vm.findClass E = some ce.cls)
    (hx : ∀ t : State, t.heap = H → s.vm.Alike t.vm → XC E s t) (hf : ∀ z ∈ locs, free z.base) (hc : cells ≤ mc) (hs : slots ≤ ms) :
    vx_W p l e R s m args below meth c H locs cells slots (vx_MQ below Qc XC args s mc ms free) (F0 m pc ls rest) q := by
  intro T hT X
  obtain ⟨st1, hrun, hend, hW, hsm⟩ := X.leaveThrown q (g := F0 m pc ls rest) rfl rfl rfl hout hlocks
  have hcell9 : (T.setFrames (.throwing q :: below)).heap[q]? = some ce := by
    show T.heap[q]? = some ce
    rw [hT]; exact hcell
  exact ⟨_, st1, .threw q, hrun, hend, Or.inr ⟨q, rfl, E, ce, locs, hx _ hT hW.alike, hcell9, hv, hcl, hW, hsm.mono hc hs, hf⟩⟩
theorem vx_frame {U : State} {k n : Nat} (h : s.sameButNew ({ U with vm := s.vm } : State) locs k n) : s.heap.size ≤ U.heap.size ∧ ∀ q : Nat, q < s.heap.size → (∀ z ∈ locs, z.base ≠ q) → U.heap[q]? = s.heap[q]? := by
  obtain ⟨-, h2, -, -, -, h6⟩ := h
  refine ⟨h2, fun q hq hz => ?_⟩
  obtain ⟨c9, e1, e2, e3, e4⟩ := h6 q _ (Array.getElem?_eq_getElem hq)
  have hs : c9.slots = (s.heap[q]).slots := Array.ext_getElem? fun i => e4 i fun hm => hz _ hm rfl
  have h9 : c9 = s.heap[q] := by
    rw [hs] at e2
    exact e2
  have e5 : U.heap[q]? = some c9 := e1
  rw [e5, h9, Array.getElem?_eq_getElem hq]
/-- the words of a throw but the four that speak of the heap -/
def vx_no (w : Cond) : Bool := decide (w ≠ .isRef (.static Bundle.tN "UNASSIGNED_STACK" Bundle.steD)) && decide (w ≠ .isRef (.static Bundle.tN "SUPPRESSED_SENTINEL" Bundle.listD)) && decide (w ≠ .laysStatic Bundle.tN "UNASSIGNED_STACK" Bundle.steD) && decide (w ≠ .laysStatic Bundle.tN "SUPPRESSED_SENTINEL" Bundle.listD)
def vx_at0 (own : String) (ic : Nat) (X : String) (names : List String) : List Cond := (Bundle.ownAtoms0 own ic X names).filter vx_no
def vx_atS (own : String) (ic : Nat) (X : String) (names : List String) : List Cond := (Bundle.ownAtoms own ic X names).filter vx_no
/-- a word that the tables alone decide, or a good one -/
def vx_ot (w : Cond) : Bool := w.onTables || goodWord w
theorem vx_ot_at {args a' : Array Value} {s U : State} {w : Cond} (hW : s.WarmedH U.vm) (hvm : s.vm = U.vm) (hg : vx_ot w = true) (h : w.before args s = true) : w.before a' U = true := by
  simp only [vx_ot, Bool.or_eq_true] at hg
  rcases hg with hg | hg
  · exact va_tabs hg hvm h
  · exact word_at hW (good_of_word hg) h
/-- a list's words: the good ones out of the method's own list, the others by premises of their own -/
theorem vx_hat {args : Array Value} {s : State} {L B : List Cond} (h1 : ∀ w ∈ L.filter goodWord, w.before args s = true) (h2 : ∀ w ∈ L.filter (fun w => !goodWord w), w ∈ B) (h3 : ∀ w ∈ B, w.before args s = true) : ∀ w ∈ L, w.before args s = true := by
  intro w hw
  by_cases g : goodWord w = true
  · exact h1 w (List.mem_filter.mpr ⟨hw, g⟩)
  · refine h3 w (h2 w (List.mem_filter.mpr ⟨hw, ?_⟩))
    show (!goodWord w) = true
    cases hgw : goodWord w
    · rfl
    · exact absurd hgw g
theorem vx_c {args : Array Value} {s : State} {w : Cond} {B : List Cond} (h : w.before args s = true) (t : ∀ w ∈ B, w.before args s = true) : ∀ w' ∈ w :: B, w'.before args s = true := fun w' h' => (List.mem_cons.mp h').elim (fun e => by rw [e]; exact h) (t w')
theorem vx_n {args : Array Value} {s : State} : ∀ w ∈ ([] : List Cond), w.before args s = true := fun _ h => nomatch h
theorem vx_own {args : Array Value} {s : State} {L : List Cond} (h1 : ∀ w ∈ L.filter vx_no, w.before args s = true)
    (hU : (Cond.isRef (.static Bundle.tN "UNASSIGNED_STACK" Bundle.steD)).before args s = true) (hN : (Cond.isRef (.static Bundle.tN "SUPPRESSED_SENTINEL" Bundle.listD)).before args s = true)
    (lU : (Cond.laysStatic Bundle.tN "UNASSIGNED_STACK" Bundle.steD).before args s = true) (lN : (Cond.laysStatic Bundle.tN "SUPPRESSED_SENTINEL" Bundle.listD).before args s = true) : ∀ w ∈ L, w.before args s = true := by
  intro w hw
  by_cases e1 : w = .isRef (.static Bundle.tN "UNASSIGNED_STACK" Bundle.steD)
  · rw [e1]; exact hU
  · by_cases e2 : w = .isRef (.static Bundle.tN "SUPPRESSED_SENTINEL" Bundle.listD)
    · rw [e2]; exact hN
    · by_cases e3 : w = .laysStatic Bundle.tN "UNASSIGNED_STACK" Bundle.steD
      · rw [e3]; exact lU
      · by_cases e4 : w = .laysStatic Bundle.tN "SUPPRESSED_SENTINEL" Bundle.listD
        · rw [e4]; exact lN
        · exact h1 w (List.mem_filter.mpr ⟨hw, by unfold vx_no; rw [decide_eq_true e1, decide_eq_true e2, decide_eq_true e3, decide_eq_true e4]; rfl⟩)
/-- where a static field lies, its class's statics cell in H -/
def vx_L (C n d : String) (A : Nat → Prop) (U : State) (H : Heap) : Prop := ∃ (c : ClassId) (k : Class) (i : Nat) (f : Field) (a : Nat) (cell : Cell), U.vm.findClass C = some c ∧ U.fieldFound? C n d = some (c, k, i, f) ∧ f.isStatic = true ∧ k.statics = some a ∧ H[a]? = some cell ∧ cell.vm.isStatics = true ∧ cell.cls = c ∧ f.slot < cell.slots.size ∧ k.staticTypes[f.slot]? = some f.type ∧ ¬ A a
theorem vx_L.moved {C n d : String} {A : Nat → Prop} {u U : State} {H : Heap} (hvm : u.vm.Alike U.vm) (h : vx_L C n d A u H) : vx_L C n d A U H := by
  obtain ⟨c, k, i, f, a, cell, h1, h2, h3, h4, h5, h6, h7, h8, h9, h10⟩ := h
  obtain ⟨k', hi', he⟩ := State.fieldFound?_setVm hvm h2
  exact ⟨c, k', i, f, a, cell, by rw [hvm.findClass]; exact h1, hi', h3, by rw [he]; exact h4, h5, h6, h7, h8, by rw [he]; exact h9, h10⟩
theorem vx_L.kept {C n d : String} {A : Nat → Prop} {U : State} {H H1 : Heap} (h : vx_L C n d A U H) (hq : ∀ a : Nat, a < H.size → ¬ A a → H1[a]? = H[a]?) : vx_L C n d A U H1 := by
  obtain ⟨c, k, i, f, a, cell, h1, h2, h3, h4, h5, h6, h7, h8, h9, h10⟩ := h
  exact ⟨c, k, i, f, a, cell, h1, h2, h3, h4, by rw [hq a (Array.getElem?_eq_some_iff.mp h5).1 h10]; exact h5, h6, h7, h8, h9, h10⟩
theorem vx_L.narrow {C n d : String} {A B : Nat → Prop} {U : State} {H : Heap} (h : vx_L C n d A U H) (hAB : ∀ q, B q → A q) : vx_L C n d B U H := by
  obtain ⟨c, k, i, f, a, cell, h1, h2, h3, h4, h5, h6, h7, h8, h9, h10⟩ := h
  exact ⟨c, k, i, f, a, cell, h1, h2, h3, h4, h5, h6, h7, h8, h9, fun z => h10 (hAB _ z)⟩
theorem vx_L.word {C n d : String} {A : Nat → Prop} {s : State} {args : Array Value} (h : vx_L C n d A s s.heap) : (Cond.laysStatic C n d).before args s = true := by
  obtain ⟨c, k, i, f, a, cell, h1, h2, h3, h4, h5, h6, h7, h8, h9, -⟩ := h
  show (Cond.laysStatic C n d).holds args s none s [] = true
  exact Cond.laysStatic_of h1 h2 h3 h4 h5 h6 h7 h8 h9
/-- .. and what it holds: null or some reference -/
def vx_Zq (C n d : String) (A : Nat → Prop) (U : State) (H : Heap) : Prop := va_Zq C n d A U H ∧ vx_L C n d A U H
theorem vx_Zq.moved {C n d : String} {A : Nat → Prop} {u U : State} {H : Heap} (hvm : u.vm.Alike U.vm) (h : vx_Zq C n d A u H) : vx_Zq C n d A U H := ⟨va_Zq.moved hvm h.1, vx_L.moved hvm h.2⟩
theorem vx_Zq.kept {C n d : String} {A : Nat → Prop} {U : State} {H H1 : Heap} (h : vx_Zq C n d A U H) (hq : ∀ a : Nat, a < H.size → ¬ A a → H1[a]? = H[a]?) : vx_Zq C n d A U H1 := ⟨va_Zq.kept h.1 hq, vx_L.kept h.2 hq⟩
theorem vx_Zq.narrow {C n d : String} {A B : Nat → Prop} {U : State} {H : Heap} (h : vx_Zq C n d A U H) (hAB : ∀ q, B q → A q) : vx_Zq C n d B U H := ⟨va_Zq.narrow h.1 hAB, vx_L.narrow h.2 hAB⟩
theorem vx_Zqof {args : Array Value} {s : State} {C n d : String} {A : Nat → Prop} (hl : (Cond.laysStatic C n d).before args s = true) (hini : (Cond.initialized C).before args s = true) (h : (Cond.isRef (.static C n d)).before args s = true) (hA : ∀ a : Nat, a < s.heap.size → ¬ A a) : vx_Zq C n d A s s.heap := by
  refine ⟨va_Zqof hl hini h hA, ?_⟩
  obtain ⟨c, k, i, f, a, cell, h1, h2, h3, h4, h5, h6, h7, h8, h9⟩ := Cond.laysStatic_spec hl
  exact ⟨c, k, i, f, a, cell, h1, h2, h3, h4, h5, h6, h7, h8, h9, hA a (Array.getElem?_eq_some_iff.mp h5).1⟩
theorem vx_isRef {C n d : String} {v : Value} {A : Nat → Prop} {s : State} {args : Array Value} (h : va_Z C n d v A s s.heap) (hv : v.isRef = true) : (Cond.isRef (.static C n d)).before args s = true := by
  obtain ⟨cf, kf, fi, f, a, cell, h1, h2, h3, h4, h5, h6, h7, -⟩ := h
  have he : (Term.static C n d).eval args s none [] s = some v := by
    simp [Term.eval, State.fieldNamed?, h1, h2, h4, h5, h6, h7]
  simp only [Cond.before, Cond.holds, Cond.value, he]
  cases v <;> simp_all [Value.isRef]
theorem vx_isRefq {C n d : String} {A : Nat → Prop} {s : State} {args : Array Value} (h : va_Zq C n d A s s.heap) : (Cond.isRef (.static C n d)).before args s = true := by
  rcases h with h | ⟨t, h⟩
  · exact vx_isRef h rfl
  · exact vx_isRef h rfl
/-- the same frame, seen from here: as if the method were called anew in this heap -/
theorem vx_rebase {T : State} (X : Stand p l e R s m args below meth c T locs cells slots) {R' : Room} (hf : R'.frames ≤ R.frames) (hl : R'.locals ≤ R.locals) (hc : cells + R'.cells ≤ R.cells) (hs : slots + R'.slots ≤ R.slots) :
    Stand p l e R' ((T.setVm s.vm).setFrames (.invoking m args :: below)) m args below meth c T [] 0 0 := by
  have htop : (T.setVm s.vm).topJava?.isSome := X.here.top
  have hF : ((T.setVm s.vm).setFrames (.invoking m args :: below)).frames = .invoking m args :: below := State.frames_setFrames _ (State.cur_lt_of_top htop)
  obtain ⟨g₀, hg0⟩ := Option.isSome_iff_exists.mp htop
  obtain ⟨r, hr⟩ := State.topJava?_eq_some.mp hg0
  have hl9 : e.platform.stackLimits (T.setVm s.vm).me = e.platform.stackLimits s.me := X.limits
  have hb9 : (T.setVm s.vm).me.stackBytes = s.me.stackBytes := X.bytes
  refine ⟨X.admits, X.cas, X.clock, hF, ?_, X.hears, X.method, X.code, X.here, X.tail, X.warmed, ?_, ?_, ?_⟩
  · have h := X.room
    have hU : ((T.setVm s.vm).setFrames (.invoking m args :: below)).localsInUse = s.localsInUse := by
      rw [State.localsInUse_invoking hF (meth := meth) (c := c) X.method X.code, State.localsInUse_invoking X.frames X.method X.code]
    simp only [State.hasRoom, Bool.and_eq_true, decide_eq_true_eq] at h ⊢
    obtain ⟨⟨⟨⟨h1, h2, h3, h4, h5, h6⟩, h7⟩, h8⟩, h9⟩ := h
    rw [X.frames, List.length_cons] at h2 h3
    have q1 := X.heapSize
    have q2 := X.used
    simp only [hF, hU, List.length_cons, State.stackLimits_setFrames, State.stackBytes_setFrames, hl9, hb9]
    refine ⟨⟨⟨⟨by omega, by omega, by omega, by omega, by omega, h6⟩, ?_⟩, ?_⟩, X.book⟩
    · show T.heap.size + R'.cells ≤ e.platform.maxCells
      omega
    · show T.slotsUsed + R'.slots ≤ e.platform.maxSlots
      omega
  · rw [State.stackLimits_setFrames]; rfl
  · rw [State.stackBytes_setFrames]; rfl
  · refine ⟨?_, Nat.le_refl _, Nat.le_refl _, ?_, ?_, fun a c9 h9 => ⟨c9, h9, rfl, rfl, fun _ _ => rfl⟩⟩
    · obtain ⟨t, ht, -⟩ := State.frames_cons hr
      show T.setVm s.vm = { ((T.setVm s.vm).setFrames (.invoking m args :: below)).setFrames (T.setVm s.vm).frames with heap := T.heap, slotsUsed := T.slotsUsed }
      rw [State.setFrames_setFrames, State.setFrames_self ht]
      rfl
    · show T.slotsUsed = T.slotsUsed + ((T.heap.toList.drop T.heap.size).map (·.slots.size)).sum
      rw [List.drop_eq_nil_of_le (Nat.le_of_eq Array.length_toList)]
      rfl
    · show ((T.heap.toList.drop T.heap.size).map (·.slots.size)).sum ≤ 0
      rw [List.drop_eq_nil_of_le (Nat.le_of_eq Array.length_toList)]
      exact Nat.le_refl _
/-- 'throw new E()': new; dup; invokespecial; athrow -/
theorem vx_throw0 {cc : ByteArray} {pc : Nat} (hexec : p.tables.exec = Jvm.exec) (hb : c.code = cc) (hl : l.stackTraces = false) {own cls : String} {names : List String} {ik ic mc ms : Nat} {A : Nat → Prop}
    (hown : s.vm.findClass own = some m.cls) (hcls : Bundle.fit cls = true) (hnames : ∀ n ∈ names, Bundle.fit n = true)
    (hk : (Cond.classLink own ik cls).before args s = true) (hini : (Cond.initialized cls).before args s = true) (hat : ∀ w ∈ vx_at0 own ic cls names, w.before args s = true)
    (hgood : ∀ w ∈ Cond.classLink own ik cls :: Cond.initialized cls :: vx_at0 own ic cls names, vx_ot w = true)
    (hU : vx_Zq Bundle.tN "UNASSIGNED_STACK" Bundle.steD A s s.heap) (hN : vx_Zq Bundle.tN "SUPPRESSED_SENTINEL" Bundle.listD A s s.heap) (hS : va_S A s.heap H locs) (hsize : ls.size = c.maxLocals)
    (d0 : decode cc pc = .ok (.new ik, 3)) (d3 : decode cc (pc + 3) = .ok (.dup, 1)) (d4 : decode cc (pc + 4) = .ok (.invokespecial ic, 3)) (d7 : decode cc (pc + 7) = .ok (.athrow, 1))
    (hout : ∀ x ∈ c.exceptionTable.toList, covers x (pc + 7) = false)
    (hRframes : names.length + 3 < R.frames) (hRlocals : (rest.map fun v => v.category).sum + (13 * (names.length + 1) + 42) ≤ R.locals) (hRcells : cells + 1 ≤ R.cells) (hRslots : slots + 6 ≤ R.slots) (hlocks : meth.locks = false)
    (hx : ∀ t : State, s.vm.Alike t.vm → H.size ≤ t.heap.size → (∀ q : Nat, q < H.size → t.heap[q]? = H[q]?) → XC cls s t)
    (hf : ∀ z ∈ locs, free z.base) (hc : cells + 1 ≤ mc) (hs : slots + 6 ≤ ms) :
    W p l e R s m args below meth c H locs cells slots (vx_MQ below Qc XC args s mc ms free) (F0 m pc ls rest) := by
  intro T hT X
  have htr : e.platform.stackTraces = false := (show e.platform.stackTraces = l.stackTraces by rw [X.admits.platform]).trans hl
  have Y := vx_rebase X (R' := { frames := R.frames, locals := R.locals, cells := 1, slots := 6 }) (Nat.le_refl _) (Nat.le_refl _) hRcells hRslots
  obtain ⟨s', hA⟩ : ∃ z, z = (T.setVm s.vm).setFrames (.invoking m args :: below) := ⟨_, rfl⟩
  rw [← hA] at Y
  have hvm : s'.vm = s.vm := by rw [hA]; rfl
  have hhp : s'.heap = H := by rw [hA]; exact hT
  have hW0 : s.WarmedH s'.vm := by rw [hvm]; exact State.WarmedH.refl s
  have hat' : ∀ w ∈ vx_at0 own ic cls names, w.before args s' = true := fun w hw => vx_ot_at hW0 hvm.symm (hgood w (List.mem_cons_of_mem _ (List.mem_cons_of_mem _ hw))) (hat w hw)
  have hk' : (Cond.classLink own ik cls).before args s' = true := vx_ot_at hW0 hvm.symm (hgood _ List.mem_cons_self) hk
  have hini' : (Cond.initialized cls).before args s' = true := vx_ot_at hW0 hvm.symm (hgood _ (List.mem_cons_of_mem _ List.mem_cons_self)) hini
  have hU' : vx_Zq Bundle.tN "UNASSIGNED_STACK" Bundle.steD A s' s'.heap := by rw [hhp]; exact vx_Zq.moved hW0.alike (hU.kept hS.2.1)
  have hN' : vx_Zq Bundle.tN "SUPPRESSED_SENTINEL" Bundle.listD A s' s'.heap := by rw [hhp]; exact vx_Zq.moved hW0.alike (hN.kept hS.2.1)
  have h : ∀ w ∈ Bundle.ownAtoms0 own ic cls names, w.before args s' = true := vx_own hat' (vx_isRefq hU'.1) (vx_isRefq hN'.1) hU'.2.word hN'.2.word
  have hown' : s'.vm.findClass own = some m.cls := by rw [hvm]; exact hown
  have hins : (Cond.instantiable cls 6).before args s' = true := h _ (by simp [Bundle.ownAtoms0])
  obtain ⟨vm₁, cX, kX, hfX, hkX, -, -, X₁, st1⟩ := Y.newCold hexec (own := own) (C := cls) (index := ik) (n := 6) hown' hk' hins hini'
    (g := F0 m pc ls rest) rfl (by rw [hb]; exact d0) (Nat.le_refl _) (Nat.le_refl _)
  generalize hT1 : (T.setVm vm₁).pushCell { cls := cX, slots := kX.instanceTypes.map defaultValue, vm := .none } = T1 at X₁ st1
  have hcat : (Value.ref T.heap.size).category = 1 := rfl
  have hcellA : T1.heap[T.heap.size]? = some (freshCell cX kX) := by rw [← hT1]; exact State.heap_pushCell_size _ _
  have d3' : decode c.code (pc + 3) = .ok (.dup, 1) := by rw [hb]; exact d3
  obtain ⟨U, hsteps, hrun, hend, hW, hsame, ce, hce, hO⟩ := X₁.ctorThrow0 hexec htr (own := own) (cls := cls) (names := names) (ic := ic) hown' hcls hnames h (fun x hx => nomatch hx) hfX hkX hcellA (by rw [hhp, hT]; exact Nat.le_refl _)
    (g := { method := m, pc := pc + 4, locals := ls, stack := .ref T.heap.size :: .ref T.heap.size :: rest, locked := none }) rfl hsize rfl rfl (rest := rest) rfl
    (by rw [hb]; exact d4) (by rw [hb]; exact d7) hout hRframes (by simp only [List.map_cons, List.sum_cons, hcat]; omega) hlocks
  obtain ⟨f1, f2⟩ := vx_frame hsame
  rw [hhp] at f1 f2
  have hWs : s.WarmedH U.vm := State.WarmedH.trans hW0 hW
  have hcl : s.vm.findClass cls = some ce.cls := by
    have h9 := hO.cls
    rw [hvm] at h9
    exact h9
  have hall : s.sameButNew ({ U with vm := s.vm } : State) locs mc ms := by
    subst hA
    obtain ⟨e1, e2⟩ := hsame
    rw [State.setFrames_setFrames] at e1
    have h2 : (T.setVm s.vm).sameButNew ({ U with vm := s.vm } : State) [] (0 + 1) (0 + 6) := ⟨e1, e2⟩
    have h3 := X.same.trans h2
    rw [List.append_nil] at h3
    exact h3.mono hc hs
  refine ⟨U, ?_, .threw T.heap.size, hrun, hend, Or.inr ⟨T.heap.size, rfl, cls, ce, locs, hx U hWs.alike f1 (fun q hq => f2 q hq (fun z hz => nomatch hz)), hce, hO.vm, hcl, hWs, hall, hf⟩⟩
  refine st1 _ ?_
  show Steps p.tables e below (T1.setTop { method := m, pc := pc + 3, locals := ls, stack := .ref T.heap.size :: rest, locked := none }) _
  jvm_step X₁.here [X₁.here.top, hexec, d3', Value.category]
  exact hsteps
/-- 'throw new E("text")': new; dup; ldc; invokespecial; athrow -/
theorem vx_throwS {cc : ByteArray} {pc : Nat} (hexec : p.tables.exec = Jvm.exec) (hb : c.code = cc) (hl : l.stackTraces = false) {own cls text : String} {names : List String} {ik is ic mc ms sa : Nat} {A : Nat → Prop}
    (hown : s.vm.findClass own = some m.cls) (hcls : Bundle.fit cls = true) (hnames : ∀ n ∈ names, Bundle.fit n = true)
    (hk : (Cond.classLink own ik cls).before args s = true) (hini : (Cond.initialized cls).before args s = true) (hstr : vk_R own is text sa s) (hat : ∀ w ∈ vx_atS own ic cls names, w.before args s = true)
    (hgood : ∀ w ∈ Cond.classLink own ik cls :: Cond.initialized cls :: vx_atS own ic cls names, vx_ot w = true)
    (hU : vx_Zq Bundle.tN "UNASSIGNED_STACK" Bundle.steD A s s.heap) (hN : vx_Zq Bundle.tN "SUPPRESSED_SENTINEL" Bundle.listD A s s.heap) (hS : va_S A s.heap H locs) (hsize : ls.size = c.maxLocals)
    (d0 : decode cc pc = .ok (.new ik, 3)) (d3 : decode cc (pc + 3) = .ok (.dup, 1)) (d4 : decode cc (pc + 4) = .ok (.ldc is, 2)) (d6 : decode cc (pc + 6) = .ok (.invokespecial ic, 3)) (d9 : decode cc (pc + 9) = .ok (.athrow, 1))
    (hout : ∀ x ∈ c.exceptionTable.toList, covers x (pc + 9) = false)
    (hRframes : names.length + 3 < R.frames) (hRlocals : (rest.map fun v => v.category).sum + (13 * (names.length + 1) + 43) ≤ R.locals) (hRcells : cells + 1 ≤ R.cells) (hRslots : slots + 6 ≤ R.slots) (hlocks : meth.locks = false)
    (hx : ∀ t : State, s.vm.Alike t.vm → H.size ≤ t.heap.size → (∀ q : Nat, q < H.size → t.heap[q]? = H[q]?) → XC cls s t)
    (hf : ∀ z ∈ locs, free z.base) (hc : cells + 1 ≤ mc) (hs : slots + 6 ≤ ms) :
    W p l e R s m args below meth c H locs cells slots (vx_MQ below Qc XC args s mc ms free) (F0 m pc ls rest) := by
  intro T hT X
  have htr : e.platform.stackTraces = false := (show e.platform.stackTraces = l.stackTraces by rw [X.admits.platform]).trans hl
  have Y := vx_rebase X (R' := { frames := R.frames, locals := R.locals, cells := 1, slots := 6 }) (Nat.le_refl _) (Nat.le_refl _) hRcells hRslots
  obtain ⟨s', hA⟩ : ∃ z, z = (T.setVm s.vm).setFrames (.invoking m args :: below) := ⟨_, rfl⟩
  rw [← hA] at Y
  have hvm : s'.vm = s.vm := by rw [hA]; rfl
  have hhp : s'.heap = H := by rw [hA]; exact hT
  have hW0 : s.WarmedH s'.vm := by rw [hvm]; exact State.WarmedH.refl s
  have hat' : ∀ w ∈ vx_atS own ic cls names, w.before args s' = true := fun w hw => vx_ot_at hW0 hvm.symm (hgood w (List.mem_cons_of_mem _ (List.mem_cons_of_mem _ hw))) (hat w hw)
  have hk' : (Cond.classLink own ik cls).before args s' = true := vx_ot_at hW0 hvm.symm (hgood _ List.mem_cons_self) hk
  have hini' : (Cond.initialized cls).before args s' = true := vx_ot_at hW0 hvm.symm (hgood _ (List.mem_cons_of_mem _ List.mem_cons_self)) hini
  have hU' : vx_Zq Bundle.tN "UNASSIGNED_STACK" Bundle.steD A s' s'.heap := by rw [hhp]; exact vx_Zq.moved hW0.alike (hU.kept hS.2.1)
  have hN' : vx_Zq Bundle.tN "SUPPRESSED_SENTINEL" Bundle.listD A s' s'.heap := by rw [hhp]; exact vx_Zq.moved hW0.alike (hN.kept hS.2.1)
  have h : ∀ w ∈ Bundle.ownAtoms own ic cls names, w.before args s' = true := vx_own hat' (vx_isRefq hU'.1) (vx_isRefq hN'.1) hU'.2.word hN'.2.word
  have hown' : s'.vm.findClass own = some m.cls := by rw [hvm]; exact hown
  have hins : (Cond.instantiable cls 6).before args s' = true := h _ (by simp [Bundle.ownAtoms])
  obtain ⟨vm₁, cX, kX, hfX, hkX, -, -, X₁, st1⟩ := Y.newCold hexec (own := own) (C := cls) (index := ik) (n := 6) hown' hk' hins hini'
    (g := F0 m pc ls rest) rfl (by rw [hb]; exact d0) (Nat.le_refl _) (Nat.le_refl _)
  generalize hT1 : (T.setVm vm₁).pushCell { cls := cX, slots := kX.instanceTypes.map defaultValue, vm := .none } = T1 at X₁ st1
  have hcat : (Value.ref T.heap.size).category = 1 := rfl
  have hcellA : T1.heap[T.heap.size]? = some (freshCell cX kX) := by rw [← hT1]; exact State.heap_pushCell_size _ _
  have d3' : decode c.code (pc + 3) = .ok (.dup, 1) := by rw [hb]; exact d3
  have d4' : decode c.code (pc + 4) = .ok (.ldc is, 2) := by rw [hb]; exact d4
  have hstr' : vk_R own is text sa s' := vk_R.warm hW0 hstr
  obtain ⟨U, hsteps, hrun, hend, hW, hsame, ce, hce, hO⟩ := X₁.ctorThrowS hexec htr (own := own) (cls := cls) (names := names) (ic := ic) hown' hcls hnames h (fun x hx => nomatch hx) hfX hkX hcellA (by rw [hhp, hT]; exact Nat.le_refl _) (msg := .ref sa) rfl
    (g := { method := m, pc := pc + 6, locals := ls, stack := .ref sa :: .ref T.heap.size :: .ref T.heap.size :: rest, locked := none }) rfl hsize rfl rfl (rest := rest) rfl
    (by rw [hb]; exact d6) (by rw [hb]; exact d9) hout hRframes (by simp only [List.map_cons, List.sum_cons, hcat]; omega) hlocks
  obtain ⟨f1, f2⟩ := vx_frame hsame
  rw [hhp] at f1 f2
  have hWs : s.WarmedH U.vm := State.WarmedH.trans hW0 hW
  have hcl : s.vm.findClass cls = some ce.cls := by
    have h9 := hO.cls
    rw [hvm] at h9
    exact h9
  have hall : s.sameButNew ({ U with vm := s.vm } : State) locs mc ms := by
    subst hA
    obtain ⟨e1, e2⟩ := hsame
    rw [State.setFrames_setFrames] at e1
    have h2 : (T.setVm s.vm).sameButNew ({ U with vm := s.vm } : State) [] (0 + 1) (0 + 6) := ⟨e1, e2⟩
    have h3 := X.same.trans h2
    rw [List.append_nil] at h3
    exact h3.mono hc hs
  refine ⟨U, ?_, .threw T.heap.size, hrun, hend, Or.inr ⟨T.heap.size, rfl, cls, ce, locs, hx U hWs.alike f1 (fun q hq => f2 q hq (fun z hz => nomatch hz)), hce, hO.vm, hcl, hWs, hall, hf⟩⟩
  refine st1 _ ?_
  show Steps p.tables e below (T1.setTop { method := m, pc := pc + 3, locals := ls, stack := .ref T.heap.size :: rest, locked := none }) _
  jvm_step X₁.here [X₁.here.top, hexec, d3', Value.category]
  exact X₁.ldcString hexec (own := own) (text := text) (index := is) (a := sa) hown' hstr'.1 hstr'.2
    (g := { method := m, pc := pc + 4, locals := ls, stack := .ref T.heap.size :: .ref T.heap.size :: rest, locked := none }) rfl d4' _ hsteps
/-- 'throw new E("text")', the text by a wide index -/
theorem vx_throwSW {cc : ByteArray} {pc : Nat} (hexec : p.tables.exec = Jvm.exec) (hb : c.code = cc) (hl : l.stackTraces = false) {own cls text : String} {names : List String} {ik is ic mc ms sa : Nat} {A : Nat → Prop}
    (hown : s.vm.findClass own = some m.cls) (hcls : Bundle.fit cls = true) (hnames : ∀ n ∈ names, Bundle.fit n = true)
    (hk : (Cond.classLink own ik cls).before args s = true) (hini : (Cond.initialized cls).before args s = true) (hstr : vk_R own is text sa s) (hat : ∀ w ∈ vx_atS own ic cls names, w.before args s = true)
    (hgood : ∀ w ∈ Cond.classLink own ik cls :: Cond.initialized cls :: vx_atS own ic cls names, vx_ot w = true)
    (hU : vx_Zq Bundle.tN "UNASSIGNED_STACK" Bundle.steD A s s.heap) (hN : vx_Zq Bundle.tN "SUPPRESSED_SENTINEL" Bundle.listD A s s.heap) (hS : va_S A s.heap H locs) (hsize : ls.size = c.maxLocals)
    (d0 : decode cc pc = .ok (.new ik, 3)) (d3 : decode cc (pc + 3) = .ok (.dup, 1)) (d4 : decode cc (pc + 4) = .ok (.ldc_w is, 3)) (d7 : decode cc (pc + 7) = .ok (.invokespecial ic, 3)) (d10 : decode cc (pc + 10) = .ok (.athrow, 1))
    (hout : ∀ x ∈ c.exceptionTable.toList, covers x (pc + 10) = false)
    (hRframes : names.length + 3 < R.frames) (hRlocals : (rest.map fun v => v.category).sum + (13 * (names.length + 1) + 43) ≤ R.locals) (hRcells : cells + 1 ≤ R.cells) (hRslots : slots + 6 ≤ R.slots) (hlocks : meth.locks = false)
    (hx : ∀ t : State, s.vm.Alike t.vm → H.size ≤ t.heap.size → (∀ q : Nat, q < H.size → t.heap[q]? = H[q]?) → XC cls s t)
    (hf : ∀ z ∈ locs, free z.base) (hc : cells + 1 ≤ mc) (hs : slots + 6 ≤ ms) :
    W p l e R s m args below meth c H locs cells slots (vx_MQ below Qc XC args s mc ms free) (F0 m pc ls rest) := by
  intro T hT X
  have htr : e.platform.stackTraces = false := (show e.platform.stackTraces = l.stackTraces by rw [X.admits.platform]).trans hl
  have Y := vx_rebase X (R' := { frames := R.frames, locals := R.locals, cells := 1, slots := 6 }) (Nat.le_refl _) (Nat.le_refl _) hRcells hRslots
  obtain ⟨s', hA⟩ : ∃ z, z = (T.setVm s.vm).setFrames (.invoking m args :: below) := ⟨_, rfl⟩
  rw [← hA] at Y
  have hvm : s'.vm = s.vm := by rw [hA]; rfl
  have hhp : s'.heap = H := by rw [hA]; exact hT
  have hW0 : s.WarmedH s'.vm := by rw [hvm]; exact State.WarmedH.refl s
  have hat' : ∀ w ∈ vx_atS own ic cls names, w.before args s' = true := fun w hw => vx_ot_at hW0 hvm.symm (hgood w (List.mem_cons_of_mem _ (List.mem_cons_of_mem _ hw))) (hat w hw)
  have hk' : (Cond.classLink own ik cls).before args s' = true := vx_ot_at hW0 hvm.symm (hgood _ List.mem_cons_self) hk
  have hini' : (Cond.initialized cls).before args s' = true := vx_ot_at hW0 hvm.symm (hgood _ (List.mem_cons_of_mem _ List.mem_cons_self)) hini
  have hU' : vx_Zq Bundle.tN "UNASSIGNED_STACK" Bundle.steD A s' s'.heap := by rw [hhp]; exact vx_Zq.moved hW0.alike (hU.kept hS.2.1)
  have hN' : vx_Zq Bundle.tN "SUPPRESSED_SENTINEL" Bundle.listD A s' s'.heap := by rw [hhp]; exact vx_Zq.moved hW0.alike (hN.kept hS.2.1)
  have h : ∀ w ∈ Bundle.ownAtoms own ic cls names, w.before args s' = true := vx_own hat' (vx_isRefq hU'.1) (vx_isRefq hN'.1) hU'.2.word hN'.2.word
  have hown' : s'.vm.findClass own = some m.cls := by rw [hvm]; exact hown
  have hins : (Cond.instantiable cls 6).before args s' = true := h _ (by simp [Bundle.ownAtoms])
  obtain ⟨vm₁, cX, kX, hfX, hkX, -, -, X₁, st1⟩ := Y.newCold hexec (own := own) (C := cls) (index := ik) (n := 6) hown' hk' hins hini'
    (g := F0 m pc ls rest) rfl (by rw [hb]; exact d0) (Nat.le_refl _) (Nat.le_refl _)
  generalize hT1 : (T.setVm vm₁).pushCell { cls := cX, slots := kX.instanceTypes.map defaultValue, vm := .none } = T1 at X₁ st1
  have hcat : (Value.ref T.heap.size).category = 1 := rfl
  have hcellA : T1.heap[T.heap.size]? = some (freshCell cX kX) := by rw [← hT1]; exact State.heap_pushCell_size _ _
  have d3' : decode c.code (pc + 3) = .ok (.dup, 1) := by rw [hb]; exact d3
  have d4' : decode c.code (pc + 4) = .ok (.ldc_w is, 3) := by rw [hb]; exact d4
  have hstr' : vk_R own is text sa s' := vk_R.warm hW0 hstr
  obtain ⟨U, hsteps, hrun, hend, hW, hsame, ce, hce, hO⟩ := X₁.ctorThrowS hexec htr (own := own) (cls := cls) (names := names) (ic := ic) hown' hcls hnames h (fun x hx => nomatch hx) hfX hkX hcellA (by rw [hhp, hT]; exact Nat.le_refl _) (msg := .ref sa) rfl
    (g := { method := m, pc := pc + 7, locals := ls, stack := .ref sa :: .ref T.heap.size :: .ref T.heap.size :: rest, locked := none }) rfl hsize rfl rfl (rest := rest) rfl
    (by rw [hb]; exact d7) (by rw [hb]; exact d10) hout hRframes (by simp only [List.map_cons, List.sum_cons, hcat]; omega) hlocks
  obtain ⟨f1, f2⟩ := vx_frame hsame
  rw [hhp] at f1 f2
  have hWs : s.WarmedH U.vm := State.WarmedH.trans hW0 hW
  have hcl : s.vm.findClass cls = some ce.cls := by
    have h9 := hO.cls
    rw [hvm] at h9
    exact h9
  have hall : s.sameButNew ({ U with vm := s.vm } : State) locs mc ms := by
    subst hA
    obtain ⟨e1, e2⟩ := hsame
    rw [State.setFrames_setFrames] at e1
    have h2 : (T.setVm s.vm).sameButNew ({ U with vm := s.vm } : State) [] (0 + 1) (0 + 6) := ⟨e1, e2⟩
    have h3 := X.same.trans h2
    rw [List.append_nil] at h3
    exact h3.mono hc hs
  refine ⟨U, ?_, .threw T.heap.size, hrun, hend, Or.inr ⟨T.heap.size, rfl, cls, ce, locs, hx U hWs.alike f1 (fun q hq => f2 q hq (fun z hz => nomatch hz)), hce, hO.vm, hcl, hWs, hall, hf⟩⟩
  refine st1 _ ?_
  show Steps p.tables e below (T1.setTop { method := m, pc := pc + 3, locals := ls, stack := .ref T.heap.size :: rest, locked := none }) _
  jvm_step X₁.here [X₁.here.top, hexec, d3', Value.category]
  exact X₁.ldcStringW hexec (own := own) (text := text) (index := is) (a := sa) hown' hstr'.1 hstr'.2
    (g := { method := m, pc := pc + 4, locals := ls, stack := .ref T.heap.size :: .ref T.heap.size :: rest, locked := none }) rfl d4' _ hsteps
end Ends
section Bodies
variable {l : Launch}
theorem vx_ofW {y : MethodName} {ws ws' : List Cond} {rm : Room} {Pc : Array Value → State → Prop} {Qc : Array Value → State → Outcome → State → Prop} {XC : String → State → State → Prop} {mc ms : Nat} {free : Addr → Prop} {cc : ByteArray} {maxL : Nat} {ret : Option FieldType}
    (hy : plainName y.cls = true) (hw : ws = Cond.code y cc maxL ret :: ws')
    (body : ∀ p e s m args below meth c s₁, BodyLoose p l y (headSpec ws rm) cc maxL ret e s m args below meth c s₁ → c.maxLocals = maxL → (∀ x ∈ c.exceptionTable.toList, False) → Pc args s →
      W p l e (headSpec ws rm).room s m args below meth c s.heap [] 0 0 (vx_MQ below Qc XC args s mc ms free) (entryFrame m args maxL)) : vx_Met l y ws rm Pc Qc XC mc ms free := by
  refine MetFree.of_bodyS (code := cc) (maxLocals := maxL) (ret := ret) hy ?_ ?_
  · intro args s m h hn
    obtain ⟨meth, c, h1, h2, h3, h4, h5, h6, -, -⟩ := Cond.code_spec hn (atoms_spec (ws := ws) h _ (by rw [hw]; exact List.mem_cons_self))
    exact ⟨meth, c, h1, h2, h3, h4, h5, h6⟩
  · intro p e s m args below meth c s₁ B hml hP _
    have hh0 : s₁.heap = s.heap := by rw [B.state]; rfl
    have ht : ∀ x ∈ c.exceptionTable.toList, False := by
      obtain ⟨meth9, c9, h1, h2, -, -, -, -, h7, -⟩ := Cond.code_spec B.named (atoms_spec (ws := ws) B.pre _ (by rw [hw]; exact List.mem_cons_self))
      cases Option.some.inj (h1.symm.trans B.method)
      cases Option.some.inj (h2.symm.trans (Stand.of_body B).code)
      intro x hx
      rw [Array.isEmpty_iff.mp h7] at hx
      cases hx
    obtain ⟨t, a1, o, b1, b2, b3⟩ := body p e s m args below meth c s₁ B hml ht hP s₁ hh0 (Stand.of_body B)
    exact ⟨t, o, a1, b1, b2, b3⟩
/-- the table of a body with handlers -/
theorem vx_table {p : Program} {x y : MethodName} {S : Spec} {cc bytes : ByteArray} {maxL maxL' : Nat} {ret ret' : Option FieldType} {e : Env} {s s₁ : State} {m : MethodId} {args : Array Value} {below : List Frame} {meth : Method} {c : Code} {hh : List (Nat × Nat × Nat × Nat)}
    (B : BodyLoose p l y S cc maxL ret e s m args below meth c s₁) (h : (Cond.codeWith y bytes maxL' ret' hh).before args s = true) : c.exceptionTable.toList = tableOf hh := by
  obtain ⟨m9, meth9, c9, hn9, h1, h2, -, -, h6, -⟩ := Cond.codeWith_spec h
  cases Option.some.inj (hn9.symm.trans B.named)
  cases Option.some.inj (h1.symm.trans B.method)
  cases Option.some.inj (h2.symm.trans (Stand.of_body B).code)
  rw [← h6, table_eq]
end Bodies
end VXA
/-! ===== END ===== -/
/-! ===== BEGIN a static call of a method with an exception table ===== -/
section VXS
variable {p : Program} {l : Launch} {e : Env} {R : Room} {s : State} {m : MethodId} {args : Array Value} {below : List Frame} {meth : Method} {c : Code} {T : State} {H : Heap} {locs : List Loc} {cells slots : Nat}
abbrev vx_CSW (R : Room) (s : State) (args : Array Value) (own : String) (index : Nat) (y : MethodName) (bytes : ByteArray) (maxL : Nat) (ret : Option FieldType) (hh : List (Nat × Nat × Nat × Nat)) (ws : List Cond) (rm : Room) (mc ms n : Nat) : Prop :=
  (rm.cells = mc ∧ rm.slots = ms ∧ rm.frames + 1 ≤ R.frames ∧ 8 + (maxL + 11) + rm.locals ≤ R.locals ∧ (∀ w ∈ ws, ∀ (a' : Array Value) (U : State), s.WarmedH U.vm → w.before a' U = true) ∧ Cond.codeWith y bytes maxL ret hh ∈ ws) ∧
  (Cond.codeWith y bytes maxL ret hh).before args s = true ∧ (Cond.initialized y.cls).before args s = true ∧ (y.cls ≠ "java/lang/invoke/MethodHandle" ∧ y.cls ≠ "java/lang/invoke/VarHandle") ∧
  (∀ sig, parseMethodDescriptor y.desc = some sig → n = sig.parameters.length) ∧ (Cond.methodLink own index y).before args s = true ∧ (Cond.static y).before args s = true
theorem vx_cwSW {own : String} {index maxL mc ms : Nat} {y : MethodName} {bytes : ByteArray} {ret : Option FieldType} {hh : List (Nat × Nat × Nat × Nat)} {Ts ws ws' : List Cond} {rm : Room} (n : Nat) (ht : ∀ w ∈ Ts, w.before args s = true) (hT : GoodIn Ts (va_wsS own index y ws)) (hw : ws = Cond.codeWith y bytes maxL ret hh :: ws') (hrc : rm.cells = mc) (hrs : rm.slots = ms)
    (hd : y.cls ≠ "java/lang/invoke/MethodHandle" ∧ y.cls ≠ "java/lang/invoke/VarHandle" ∧ (parseMethodDescriptor y.desc).map (fun d => d.parameters.length) = some n) (hR : rm.frames + 1 ≤ R.frames ∧ 8 + (maxL + 11) + rm.locals ≤ R.locals) :
    vx_CSW R s args own index y bytes maxL ret hh ws rm mc ms n := by
  have ok : ∀ w ∈ va_wsS own index y ws, w.before args s = true := fun w h => ht w (hT w h).1
  have hG : GoodIn Ts ws := fun w h => hT w (by unfold va_wsS; exact List.mem_append_right _ h)
  have hc : Cond.codeWith y bytes maxL ret hh ∈ ws := by rw [hw]; exact List.mem_cons_self
  refine ⟨⟨hrc, hrs, hR.1, hR.2, pay_in ht hG, hc⟩, ht _ (hG _ hc).1, ok _ (by simp [va_wsS]), ⟨hd.1, hd.2.1⟩, fun sig h => ?_, ok _ (by simp [va_wsS]), ok _ (by simp [va_wsS])⟩
  have h2 := hd.2.2
  rw [h] at h2
  exact (Option.some.inj h2).symm
theorem vx_callSW (X : Stand p l e R s m args below meth c T locs cells slots) (hexec : p.tables.exec = Jvm.exec) {own : String} {index : Nat} {y : MethodName} {bytes : ByteArray} {maxL : Nat} {ret : Option FieldType} {hh : List (Nat × Nat × Nat × Nat)}
    (hown : s.vm.findClass own = some m.cls) (hlink : (Cond.methodLink own index y).before args s = true) (hstat : (Cond.static y).before args s = true) (hinit : (Cond.initialized y.cls).before args s = true)
    (hcode : (Cond.codeWith y bytes maxL ret hh).before args s = true) (hy : y.cls ≠ "java/lang/invoke/MethodHandle" ∧ y.cls ≠ "java/lang/invoke/VarHandle")
    {W9 : Nat} {Pre : Pt → Array Value → Prop} {Post : Pt → Array Value → Option Value → Pt → Prop} (hK : Back l R p e below s args y 3 W9 Pre Post)
    {g : JFrame} (hg : g.method = m) (hsize : g.locals.size = c.maxLocals) {argsL rest : List Value} (hlen : ∀ sig, parseMethodDescriptor y.desc = some sig → argsL.length = sig.parameters.length)
    (hstack : g.stack = argsL.reverse ++ rest) (hW : 2 * g.monitorRoom + (rest.map fun v => v.category).sum ≤ W9) (hdg : decode c.code g.pc = .ok (.invokestatic index, 3))
    (hpre : ∀ vm₁, s.WarmedH vm₁ → Pre ⟨T.setVm vm₁, locs, cells, slots⟩ argsL.toArray) :
    ∃ (v : Option Value) (vm₁ : Vm) (B : Pt), s.WarmedH vm₁ ∧ Stand p l e R s m args below meth c B.U B.locs B.cells B.slots ∧ Post ⟨T.setVm vm₁, locs, cells, slots⟩ argsL.toArray v B ∧
      ∀ target, Steps p.tables e below (B.U.setTop { g with pc := g.pc + 3, stack := v.toList ++ rest }) target → Steps p.tables e below (T.setTop g) target := by
  obtain ⟨mk, methM, cM, hnamed, hmethM, -, -, -, -, -, -, hsigM⟩ := Cond.codeWith_spec hcode
  have hstatic : methM.isStatic = true := Cond.static_spec hnamed hmethM hstat
  obtain ⟨kP, hkP, -⟩ := className_of_methodNamed hnamed
  have hinitP : kP.init = .initialized := Cond.initialized_spec (findClass_of_methodNamed hnamed) hkP hinit
  obtain ⟨vm₁, X₁, hstep₁⟩ := X.invokestatic hexec hown hlink hnamed hmethM hstatic hkP hinitP hy (g := g) hg (argsL := argsL) (rest := rest) (hlen _ hsigM) hstack hdg
  obtain ⟨v, B, X', hpost, hsteps⟩ := hK m meth c ⟨T.setVm vm₁, locs, cells, slots⟩ { g with stack := rest } (.invokestatic index) mk argsL.toArray X₁ hg hsize hdg hW (X₁.named hnamed) (hpre vm₁ X₁.warmed)
  exact ⟨v, vm₁, B, X₁.warmed, X', hpost, fun target h => hstep₁ _ fun acts => by rw [doInvoke_state]; exact hsteps.trans h⟩
theorem vx_runSW {y : MethodName} {bytes cc : ByteArray} {maxL nL mc ms n index : Nat} {ret : Option FieldType} {hh : List (Nat × Nat × Nat × Nat)} {ws : List Cond} {rm : Room} {Pc : Array Value → State → Prop} {Qc : Array Value → State → Outcome → State → Prop} {free : Addr → Prop} {Ts : List Cond} {own : String} {As rest : List Value} {g : JFrame}
    (S : CallFix p m c cc nL s args Ts own) (hM : Met l y ws rm Pc Qc mc ms free) (cw : vx_CSW R s args own index y bytes maxL ret hh ws rm mc ms n) (hp : PreS s H Pc As)
    (hg : g.method = m) (hn : As.length = n) (hsize : g.locals.size = nL) (hstack : g.stack = As.reverse ++ rest) (hW : 2 * g.monitorRoom + (rest.map fun v => v.category).sum ≤ 8) (hdg : decode cc g.pc = .ok (.invokestatic index, 3)) (hf : cells + mc ≤ R.cells ∧ slots + ms ≤ R.slots) :
    va_Run p l e R s m args below meth c H locs cells slots mc ms g rest (Qc As.toArray) (free) := by
  obtain ⟨⟨hrc, hrs, hfr, hlo, hws, hcw⟩, hcode, hini, hy, hlen, hl, hstt⟩ := cw
  have hK : Back l R p e below s args y 3 8 (PreOf R mc ms Pc) (PostOf Qc mc ms free) := va_backW (hh := hh) (bytes := bytes) (maxL := maxL) (ret := ret) hM hp.1 hrc hrs hfr hlo hws hcw (fun a' U hW => word_at hW (Or.inl (by first | rfl | simp [Cond.onTables, Cond.keeps, Cond.steady])) hini)
  obtain ⟨hx, hb, hml, ho, -⟩ := S
  intro T hT X
  obtain ⟨v, vm₁, ⟨U', l2, c2, s2⟩, hW₁, X', ⟨g', mk, t, L, e1, e2, hq, h1, hL, h2, h3⟩, st⟩ := vx_callSW X hx (hh := hh) (bytes := bytes) (maxL := maxL) (ret := ret) ho hl hstt hini hcode hy hK hg (hsize.trans hml.symm) (argsL := As) (rest := rest) (fun sig h => hn.trans (hlen sig h)) hstack hW (by rw [hb]; exact hdg)
    (fun vm₁ hW₁ => ⟨hf.1, hf.2, hp.2 (T.setVm vm₁) hT hW₁⟩)
  dsimp only [Pt.U, Pt.locs, Pt.cells, Pt.slots] at X' e1 e2 h1 h2 h3 st
  subst h1; subst h2; subst h3
  exact ⟨v, (T.setVm vm₁).calling g' mk As.toArray, t, U', L, hT, X', hL, e1, e2, hq, st⟩
/-- not caught here, past rows that name other classes: it goes on to the caller -/
theorem vx_outP {p : Program} {l : Launch} {e : Env} {R : Room} {s : State} {m : MethodId} {args : Array Value} {below : List Frame} {meth : Method} {c : Code} {H : Heap} {locs : List Loc} {cells slots : Nat} {free : Addr → Prop} {ls : Array Slot} {rest : List Value} {Qc : Array Value → State → Outcome → State → Prop} {XC : String → State → State → Prop}
    {pc : Nat} {own E : String} {ce : Cell} {q : Addr} {mc ms : Nat} (hown : s.vm.findClass own = some m.cls) (hlocks : meth.locks = false)
    (hpass : ∀ z ∈ c.exceptionTable.toList, covers z pc = false ∨ (z.catchType ≠ 0 ∧ ∃ nm : String, (Cond.classLink own z.catchType nm).before args s = true ∧ va_Nc E nm s)) (hcell : H[q]? = some ce) (hv : ce.vm = .none) (hcl : s.vm.findClass E = some ce.cls)
    (hx : ∀ t : State, t.heap = H → s.vm.Alike t.vm → XC E s t) (hf : ∀ z ∈ locs, free z.base) (hc : cells ≤ mc) (hs : slots ≤ ms) :
    vx_W p l e R s m args below meth c H locs cells slots (vx_MQ below Qc XC args s mc ms free) (F0 m pc ls rest) q := by
  intro T hT X
  have hpl : e.platform.magicAccessors = ({} : Platform).magicAccessors := by rw [X.admits.platform]
  obtain ⟨vm', hW', X', st⟩ := X.outThrough hlocks q (g := F0 m pc ls rest) rfl rfl rfl (cell := ce) (by rw [hT]; exact hcell) (by rw [hv]; rfl)
    (by obtain ⟨k9, h9, -⟩ := Vm.findClass_spec hcl; exact ⟨k9, h9⟩) (fun z hz => by
      rcases hpass z hz with h | ⟨hz0, nm, hl1, hn1⟩
      · exact Or.inl h
      · obtain ⟨c6, hc6, hcl6⟩ := Cond.classLink_spec hown hl1 e.platform hpl
        obtain ⟨a8, b8, h1, h2, h3⟩ := hn1
        cases Option.some.inj (h1.symm.trans hcl)
        cases Option.some.inj (h2.symm.trans hc6)
        exact Or.inr ⟨hz0, _, hcl6, h3⟩)
  obtain ⟨g₀, hfr⟩ := X'.frames_eq
  have hcell9 : ((T.setVm vm').setFrames (.throwing q :: below)).heap[q]? = some ce := by
    show T.heap[q]? = some ce
    rw [hT]; exact hcell
  have hend : Ended ((T.setVm vm').setFrames (.throwing q :: below)) below (.threw q) := State.frames_setFrames _ (State.cur_lt_of_frames hfr)
  refine ⟨(T.setVm vm').setFrames (.throwing q :: below), ?_, .threw q, X'.here.running, hend, Or.inr ⟨q, rfl, E, ce, locs, hx _ hT (X'.ends _).1.alike, hcell9, hv, hcl, (X'.ends _).1, (X'.ends _).2.mono hc hs, hf⟩⟩
  rw [X.pushThrowing_eq]
  exact st
/-- a thing of a world lies in the heap -/
theorem vx_lt {D : va_G} {cl : List vw_C} {ws : va_W} {H1 : Heap} (h : va_P D cl ws H1) {k : Nat} {q : Nat × va_E} (hk : ws[k]? = some q) : q.1 < H1.size := (h k q hk).lt
end VXS
/-! ===== END ===== -/
/-! ===== BEGIN methods with a table of their own: called by a name, returning or throwing ===== -/
section VXH
/-! vx_backW, vx_callVX, vx_callSX, vx_callVW, vx_runVW, vx_runVX, vx_runSX, vx_ofWH follow the same proofs as their sisters above (Free/Laws.lean, Shelf42/LK1.lean); vx_outP calls Shelf42/NT130.lean (outThrough). -/
section
variable {l : Launch} {R : Room} {p : Program} {e : Env} {below : List Frame} {s : State} {sargs : Array Value} {y : MethodName} {len W9 : Nat}
theorem vx_backW {ws : List Cond} {rm : Room} {Pc : Array Value → State → Prop} {Qc : Array Value → State → Outcome → State → Prop} {XC : String → State → State → Prop} {mc ms : Nat} {free : Addr → Prop} {bytes : ByteArray} {maxL : Nat} {ret : Option FieldType} {hh : List (Nat × Nat × Nat × Nat)}
    (hM : vx_Met l y ws rm Pc Qc XC mc ms free) (hblind : FrameBlind Pc) (hrc : rm.cells = mc) (hrs : rm.slots = ms)
    (hframes : rm.frames + 1 ≤ R.frames) (hlocals : W9 + (maxL + 11) + rm.locals ≤ R.locals)
    (hws : ∀ w ∈ ws, ∀ a' U, s.WarmedH U.vm → w.before a' U = true) (hcode : Cond.codeWith y bytes maxL ret hh ∈ ws) (hinit : ∀ a' U, s.WarmedH U.vm → (Cond.initialized y.cls).before a' U = true) :
    vx_Back l R p e below s sargs y len W9 (PreOf R mc ms Pc) (PostOf Qc mc ms free) (vx_Post XC mc ms free) := by
  intro m meth c A g ig mk a X hg hsize hdg hW hn hp
  have h1 : (headSpec ws rm).pre.before a A.U = true := atoms_intro fun w hw => hws w hw _ _ X.warmed
  have h2 : (Cond.codeWith y bytes maxL ret hh).before a A.U = true := hws _ hcode _ _ X.warmed
  have h3 : (Cond.initialized y.cls).before a A.U = true := hinit _ _ X.warmed
  have h4 : A.cells + (headSpec ws rm).room.cells ≤ R.cells := by rw [show (headSpec ws rm).room.cells = mc from hrc]; exact hp.1
  have h5 : A.slots + (headSpec ws rm).room.slots ≤ R.slots := by rw [show (headSpec ws rm).room.slots = ms from hrs]; exact hp.2.1
  have hPc : Pc a (A.U.calling g mk a) := hblind _ _ _ _ hp.2.2
  obtain ⟨U, Ls, c0, s0⟩ := A
  dsimp only [Pt.U, Pt.locs, Pt.cells, Pt.slots] at h1 h2 h3 h4 h5 X hn hPc ⊢
  obtain ⟨m9, methY, cY, hn9, hmY, hcY, -, hlY, -⟩ := Cond.codeWith_spec h2
  cases Option.some.inj (hn9.symm.trans hn)
  obtain ⟨kY, hkY, -⟩ := className_of_methodNamed hn
  have hinitY : kY.init = .initialized := Cond.initialized_spec (findClass_of_methodNamed hn) hkY h3
  have h : At U g.method c below := by rw [hg]; exact X.here
  have hlocals9 : W9 + (maxL + 11) + (headSpec ws rm).room.locals ≤ R.locals := hlocals
  have happ : (headSpec ws rm).appliesLoose y e.platform (U.calling g mk a) = true :=
    Spec.appliesLoose_calling (g := g) h hdg hn hkY hinitY
      (X.room_calling (g := g) (R' := (headSpec ws rm).room) hsize hmY hcY hframes (by rw [hlY]; omega) h4 h5) h1
  obtain ⟨mid, hmid⟩ := h.above
  have hfr : (U.setTop g).frames = (.java g :: mid) ++ below := by rw [State.frames_setTop' g h.top, hmid]; rfl
  obtain ⟨o, s₂, hsteps, -, hend, hq⟩ := Steps.callFree hM p X.admits X.cas X.clock (acts := []) hfr happ hPc trivial
  have hq' : vx_Q Qc XC mc ms free a (U.calling g mk a) o s₂ := hq
  rw [State.frames_setTop' g h.top] at hend
  obtain ⟨g₀, hg0⟩ := Option.isSome_iff_exists.mp h.top
  obtain ⟨r, hr⟩ := State.topJava?_eq_some.mp hg0
  have hr' : (({ U with heap := s₂.heap, slotsUsed := s₂.slotsUsed } : State).setVm s₂.vm).frames = .java g₀ :: r := hr
  rcases hq' with ⟨hqc, L, hfe, hL⟩ | ⟨q, rfl, E, ce, L, hx, hce, hcv, hcl, hW₂, hsm, hL⟩
  · obtain ⟨⟨v, rfl⟩, hW₂, e2, q2, q3, q4, q5, q6⟩ := id hfe
    have e3 : s₂ = ({ (U.calling g mk a).setFrames s₂.frames with heap := s₂.heap, slotsUsed := s₂.slotsUsed } : State).setVm s₂.vm := by
      have : s₂ = ({ s₂ with vm := (U.calling g mk a).vm } : State).setVm s₂.vm := rfl
      rw [e2] at this
      exact this
    obtain ⟨c₂, i₂, len₂, hc₂, hd₂, hf₂⟩ := hend
    have hW' : U.WarmedH s₂.vm := hW₂
    have hcc : c₂ = c := by
      have h1 : s₂.code? g.method = U.code? g.method := by
        rw [State.code?_eq, State.code?_eq, hW'.alike.method?]
      exact Option.some.inj (hc₂.symm.trans (h1.trans h.code))
    subst hcc
    have hlen : len₂ = len := by rw [hdg] at hd₂; cases hd₂; rfl
    subst hlen
    have hs₂ : s₂ = (({ U with heap := s₂.heap, slotsUsed := s₂.slotsUsed } : State).setVm s₂.vm).setTop { g with pc := g.pc + len₂, stack := v.toList ++ g.stack } := by
      refine e3.trans ?_
      rw [hf₂, State.calling_eq h.top, State.setFrames_setFrames, State.setTop_of_frames _ hr', hr]
      rfl
    have hsame : U.sameButNew ({ U with heap := s₂.heap, slotsUsed := s₂.slotsUsed } : State) L mc ms := by
      refine ⟨?_, q2, q3, q4, q5, q6⟩
      obtain ⟨t, ht, -⟩ := State.frames_cons hr
      show ({ U with heap := s₂.heap, slotsUsed := s₂.slotsUsed } : State) = { U.setFrames U.frames with heap := s₂.heap, slotsUsed := s₂.slotsUsed }
      rw [State.setFrames_self ht]
    subst hg
    refine Or.inl ⟨v, ⟨(({ U with heap := s₂.heap, slotsUsed := s₂.slotsUsed } : State).setVm s₂.vm), Ls ++ L, c0 + mc, s0 + ms⟩,
      ⟨X.admits, X.cas, X.clock, X.frames, X.room, X.hears, X.method, X.code, (X.here.setHeapUsed s₂.heap s₂.slotsUsed).setVm hW'.alike, X.tail, State.WarmedH.trans X.warmed hW', X.limits, X.bytes, X.same.trans (hsame.setVm s.vm)⟩,
      ⟨g, mk, s₂, L, rfl, rfl, hqc, rfl, hL, rfl, rfl⟩, ?_⟩
    show Steps p.tables e below _ ((({ U with heap := s₂.heap, slotsUsed := s₂.slotsUsed } : State).setVm s₂.vm).setTop { g with pc := g.pc + len₂, stack := v.toList ++ g.stack })
    rw [← hs₂]
    exact hsteps
  · obtain ⟨e2, q2, q3, q4, q5, q6⟩ := id hsm
    have e3 : s₂ = ({ (U.calling g mk a).setFrames s₂.frames with heap := s₂.heap, slotsUsed := s₂.slotsUsed } : State).setVm s₂.vm := by
      have : s₂ = ({ s₂ with vm := (U.calling g mk a).vm } : State).setVm s₂.vm := rfl
      rw [e2] at this
      exact this
    have hf₂ : s₂.frames = .throwing q :: .java g :: U.frames.tail := hend
    have hW' : U.WarmedH s₂.vm := hW₂
    have hs₂ : s₂ = ((({ U with heap := s₂.heap, slotsUsed := s₂.slotsUsed } : State).setVm s₂.vm).setTop g).pushFrame (.throwing q) := by
      refine e3.trans ?_
      rw [hf₂, State.calling_eq h.top, State.setFrames_setFrames, State.pushFrame, State.frames_setTop _ hr', State.setTop_of_frames _ hr', State.setFrames_setFrames, hr]
      rfl
    have hsame : U.sameButNew ({ U with heap := s₂.heap, slotsUsed := s₂.slotsUsed } : State) L mc ms := by
      refine ⟨?_, q2, q3, q4, q5, q6⟩
      obtain ⟨t, ht, -⟩ := State.frames_cons hr
      show ({ U with heap := s₂.heap, slotsUsed := s₂.slotsUsed } : State) = { U.setFrames U.frames with heap := s₂.heap, slotsUsed := s₂.slotsUsed }
      rw [State.setFrames_self ht]
    subst hg
    refine Or.inr ⟨q, ⟨(({ U with heap := s₂.heap, slotsUsed := s₂.slotsUsed } : State).setVm s₂.vm), Ls ++ L, c0 + mc, s0 + ms⟩,
      ⟨X.admits, X.cas, X.clock, X.frames, X.room, X.hears, X.method, X.code, (X.here.setHeapUsed s₂.heap s₂.slotsUsed).setVm hW'.alike, X.tail, State.WarmedH.trans X.warmed hW', X.limits, X.bytes, X.same.trans (hsame.setVm s.vm)⟩,
      ⟨g, mk, s₂, L, E, ce, rfl, rfl, hx, hce, hcv, hcl, rfl, hL, rfl, rfl⟩, ?_⟩
    show Steps p.tables e below _ (((({ U with heap := s₂.heap, slotsUsed := s₂.slotsUsed } : State).setVm s₂.vm).setTop g).pushFrame (.throwing q))
    rw [← hs₂]
    exact hsteps
end
variable {p : Program} {l : Launch} {e : Env} {R : Room} {s : State} {m : MethodId} {args : Array Value} {below : List Frame} {meth : Method} {c : Code} {T : State} {H : Heap} {locs : List Loc} {cells slots : Nat}
theorem vx_callVX (X : Stand p l e R s m args below meth c T locs cells slots) (hexec : p.tables.exec = Jvm.exec) {own C : String} {index : Nat} {y : MethodName} {bytes : ByteArray} {maxL : Nat} {ret : Option FieldType} {hh : List (Nat × Nat × Nat × Nat)}
    (hown : s.vm.findClass own = some m.cls) (hlink : (Cond.methodLink own index y).before args s = true) (hinst : (Cond.instanceMethod y).before args s = true) (hsel : (Cond.selects C y y).before args s = true)
    (hcode : (Cond.codeWith y bytes maxL ret hh).before args s = true) (hy : y.cls ≠ "java/lang/invoke/MethodHandle" ∧ y.cls ≠ "java/lang/invoke/VarHandle")
    {W9 : Nat} {Pre : Pt → Array Value → Prop} {Post : Pt → Array Value → Option Value → Pt → Prop} {PostX : Pt → Array Value → Addr → Pt → Prop} (hK : vx_Back l R p e below s args y 3 W9 Pre Post PostX)
    {b : Addr} {cellB : Cell} (hcell : T.heap[b]? = some cellB) (hobj : cellB.vm.isStatics = false) (hcls : s.vm.findClass C = some cellB.cls)
    {g : JFrame} (hg : g.method = m) (hsize : g.locals.size = c.maxLocals) {argsL rest : List Value} (hlen : ∀ sig, parseMethodDescriptor y.desc = some sig → argsL.length = sig.parameters.length)
    (hstack : g.stack = argsL.reverse ++ .ref b :: rest) (hW : 2 * g.monitorRoom + (rest.map fun v => v.category).sum ≤ W9) (hdg : decode c.code g.pc = .ok (.invokevirtual index, 3))
    (hpre : ∀ vm₁, s.WarmedH vm₁ → Pre ⟨T.setVm vm₁, locs, cells, slots⟩ (Value.ref b :: argsL).toArray) :
    (∃ (v : Option Value) (vm₁ : Vm) (B : Pt), s.WarmedH vm₁ ∧ Stand p l e R s m args below meth c B.U B.locs B.cells B.slots ∧ Post ⟨T.setVm vm₁, locs, cells, slots⟩ (Value.ref b :: argsL).toArray v B ∧
      ∀ target, Steps p.tables e below (B.U.setTop { g with pc := g.pc + 3, stack := v.toList ++ rest }) target → Steps p.tables e below (T.setTop g) target) ∨
    (∃ (q : Addr) (vm₁ : Vm) (B : Pt), s.WarmedH vm₁ ∧ Stand p l e R s m args below meth c B.U B.locs B.cells B.slots ∧ PostX ⟨T.setVm vm₁, locs, cells, slots⟩ (Value.ref b :: argsL).toArray q B ∧
      Steps p.tables e below (T.setTop g) ((B.U.setTop { g with stack := rest }).pushFrame (.throwing q))) := by
  obtain ⟨mk, methM, hnamed, hmethM, hstM, habM⟩ := Cond.instanceMethod_spec hinst
  obtain ⟨m8, methM', cM, hn8, hmethM', -, -, -, -, -, -, hsigM⟩ := Cond.codeWith_spec hcode
  cases Option.some.inj (hn8.symm.trans hnamed)
  cases hmethM.symm.trans hmethM'
  obtain ⟨c2, r2, m2, q1, q2, q3, q4, kP, hkP, hkPi⟩ := Cond.selects_spec hsel
  cases hcls.symm.trans q1
  cases (State.methodFound?_of_named hnamed hy).symm.trans q2
  cases hnamed.symm.trans q3
  have hselP : selectMethod e.platform s.vm cellB.cls mk = .method mk := by rw [Launch.admits_selectMethod X.admits]; exact q4
  obtain ⟨vm₁, X₁, hstep₁⟩ := X.invokevirtual hexec hown hlink hnamed hmethM hstM hkP hkPi hy (a := b) (cell := cellB) hcell
    (fun z h => by rw [h] at hobj; cases hobj) hselP hmethM habM hkP hkPi (g := g) hg (argsL := argsL) (rest := rest) (hlen _ hsigM) hstack hdg
  rcases hK m meth c ⟨T.setVm vm₁, locs, cells, slots⟩ { g with stack := rest } (.invokevirtual index) mk (Value.ref b :: argsL).toArray X₁ hg hsize hdg hW (X₁.named hnamed) (hpre vm₁ X₁.warmed) with ⟨v, B, X', hpost, hsteps⟩ | ⟨q, B, X', hpost, hsteps⟩
  · exact Or.inl ⟨v, vm₁, B, X₁.warmed, X', hpost, fun target h => hstep₁ _ fun acts => by rw [doInvoke_state]; exact hsteps.trans h⟩
  · exact Or.inr ⟨q, vm₁, B, X₁.warmed, X', hpost, hstep₁ _ fun acts => by rw [doInvoke_state]; exact hsteps⟩
theorem vx_callSX (X : Stand p l e R s m args below meth c T locs cells slots) (hexec : p.tables.exec = Jvm.exec) {own : String} {index : Nat} {y : MethodName} {bytes : ByteArray} {maxL : Nat} {ret : Option FieldType} {hh : List (Nat × Nat × Nat × Nat)}
    (hown : s.vm.findClass own = some m.cls) (hlink : (Cond.methodLink own index y).before args s = true) (hstat : (Cond.static y).before args s = true) (hinit : (Cond.initialized y.cls).before args s = true)
    (hcode : (Cond.codeWith y bytes maxL ret hh).before args s = true) (hy : y.cls ≠ "java/lang/invoke/MethodHandle" ∧ y.cls ≠ "java/lang/invoke/VarHandle")
    {W9 : Nat} {Pre : Pt → Array Value → Prop} {Post : Pt → Array Value → Option Value → Pt → Prop} {PostX : Pt → Array Value → Addr → Pt → Prop} (hK : vx_Back l R p e below s args y 3 W9 Pre Post PostX)
    {g : JFrame} (hg : g.method = m) (hsize : g.locals.size = c.maxLocals) {argsL rest : List Value} (hlen : ∀ sig, parseMethodDescriptor y.desc = some sig → argsL.length = sig.parameters.length)
    (hstack : g.stack = argsL.reverse ++ rest) (hW : 2 * g.monitorRoom + (rest.map fun v => v.category).sum ≤ W9) (hdg : decode c.code g.pc = .ok (.invokestatic index, 3))
    (hpre : ∀ vm₁, s.WarmedH vm₁ → Pre ⟨T.setVm vm₁, locs, cells, slots⟩ argsL.toArray) :
    (∃ (v : Option Value) (vm₁ : Vm) (B : Pt), s.WarmedH vm₁ ∧ Stand p l e R s m args below meth c B.U B.locs B.cells B.slots ∧ Post ⟨T.setVm vm₁, locs, cells, slots⟩ argsL.toArray v B ∧
      ∀ target, Steps p.tables e below (B.U.setTop { g with pc := g.pc + 3, stack := v.toList ++ rest }) target → Steps p.tables e below (T.setTop g) target) ∨
    (∃ (q : Addr) (vm₁ : Vm) (B : Pt), s.WarmedH vm₁ ∧ Stand p l e R s m args below meth c B.U B.locs B.cells B.slots ∧ PostX ⟨T.setVm vm₁, locs, cells, slots⟩ argsL.toArray q B ∧
      Steps p.tables e below (T.setTop g) ((B.U.setTop { g with stack := rest }).pushFrame (.throwing q))) := by
  obtain ⟨mk, methM, cM, hnamed, hmethM, -, -, -, -, -, -, hsigM⟩ := Cond.codeWith_spec hcode
  have hstatic : methM.isStatic = true := Cond.static_spec hnamed hmethM hstat
  obtain ⟨kP, hkP, -⟩ := className_of_methodNamed hnamed
  have hinitP : kP.init = .initialized := Cond.initialized_spec (findClass_of_methodNamed hnamed) hkP hinit
  obtain ⟨vm₁, X₁, hstep₁⟩ := X.invokestatic hexec hown hlink hnamed hmethM hstatic hkP hinitP hy (g := g) hg (argsL := argsL) (rest := rest) (hlen _ hsigM) hstack hdg
  rcases hK m meth c ⟨T.setVm vm₁, locs, cells, slots⟩ { g with stack := rest } (.invokestatic index) mk argsL.toArray X₁ hg hsize hdg hW (X₁.named hnamed) (hpre vm₁ X₁.warmed) with ⟨v, B, X', hpost, hsteps⟩ | ⟨q, B, X', hpost, hsteps⟩
  · exact Or.inl ⟨v, vm₁, B, X₁.warmed, X', hpost, fun target h => hstep₁ _ fun acts => by rw [doInvoke_state]; exact hsteps.trans h⟩
  · exact Or.inr ⟨q, vm₁, B, X₁.warmed, X', hpost, hstep₁ _ fun acts => by rw [doInvoke_state]; exact hsteps⟩
theorem vx_callVW (X : Stand p l e R s m args below meth c T locs cells slots) (hexec : p.tables.exec = Jvm.exec) {own C : String} {index : Nat} {y : MethodName} {bytes : ByteArray} {maxL : Nat} {ret : Option FieldType} {hh : List (Nat × Nat × Nat × Nat)}
    (hown : s.vm.findClass own = some m.cls) (hlink : (Cond.methodLink own index y).before args s = true) (hinst : (Cond.instanceMethod y).before args s = true) (hsel : (Cond.selects C y y).before args s = true)
    (hcode : (Cond.codeWith y bytes maxL ret hh).before args s = true) (hy : y.cls ≠ "java/lang/invoke/MethodHandle" ∧ y.cls ≠ "java/lang/invoke/VarHandle")
    {W9 : Nat} {Pre : Pt → Array Value → Prop} {Post : Pt → Array Value → Option Value → Pt → Prop} (hK : Back l R p e below s args y 3 W9 Pre Post)
    {b : Addr} {cellB : Cell} (hcell : T.heap[b]? = some cellB) (hobj : cellB.vm.isStatics = false) (hcls : s.vm.findClass C = some cellB.cls)
    {g : JFrame} (hg : g.method = m) (hsize : g.locals.size = c.maxLocals) {argsL rest : List Value} (hlen : ∀ sig, parseMethodDescriptor y.desc = some sig → argsL.length = sig.parameters.length)
    (hstack : g.stack = argsL.reverse ++ .ref b :: rest) (hW : 2 * g.monitorRoom + (rest.map fun v => v.category).sum ≤ W9) (hdg : decode c.code g.pc = .ok (.invokevirtual index, 3))
    (hpre : ∀ vm₁, s.WarmedH vm₁ → Pre ⟨T.setVm vm₁, locs, cells, slots⟩ (Value.ref b :: argsL).toArray) :
    ∃ (v : Option Value) (vm₁ : Vm) (B : Pt), s.WarmedH vm₁ ∧ Stand p l e R s m args below meth c B.U B.locs B.cells B.slots ∧ Post ⟨T.setVm vm₁, locs, cells, slots⟩ (Value.ref b :: argsL).toArray v B ∧
      ∀ target, Steps p.tables e below (B.U.setTop { g with pc := g.pc + 3, stack := v.toList ++ rest }) target → Steps p.tables e below (T.setTop g) target := by
  obtain ⟨mk, methM, hnamed, hmethM, hstM, habM⟩ := Cond.instanceMethod_spec hinst
  obtain ⟨m8, methM', cM, hn8, hmethM', -, -, -, -, -, -, hsigM⟩ := Cond.codeWith_spec hcode
  cases Option.some.inj (hn8.symm.trans hnamed)
  cases hmethM.symm.trans hmethM'
  obtain ⟨c2, r2, m2, q1, q2, q3, q4, kP, hkP, hkPi⟩ := Cond.selects_spec hsel
  cases hcls.symm.trans q1
  cases (State.methodFound?_of_named hnamed hy).symm.trans q2
  cases hnamed.symm.trans q3
  have hselP : selectMethod e.platform s.vm cellB.cls mk = .method mk := by rw [Launch.admits_selectMethod X.admits]; exact q4
  obtain ⟨vm₁, X₁, hstep₁⟩ := X.invokevirtual hexec hown hlink hnamed hmethM hstM hkP hkPi hy (a := b) (cell := cellB) hcell
    (fun z h => by rw [h] at hobj; cases hobj) hselP hmethM habM hkP hkPi (g := g) hg (argsL := argsL) (rest := rest) (hlen _ hsigM) hstack hdg
  obtain ⟨v, B, X', hpost, hsteps⟩ := hK m meth c ⟨T.setVm vm₁, locs, cells, slots⟩ { g with stack := rest } (.invokevirtual index) mk (Value.ref b :: argsL).toArray X₁ hg hsize hdg hW (X₁.named hnamed) (hpre vm₁ X₁.warmed)
  exact ⟨v, vm₁, B, X₁.warmed, X', hpost, fun target h => hstep₁ _ fun acts => by rw [doInvoke_state]; exact hsteps.trans h⟩
abbrev vx_CVW (R : Room) (s : State) (args : Array Value) (own C : String) (index : Nat) (y : MethodName) (bytes : ByteArray) (maxL : Nat) (ret : Option FieldType) (hh : List (Nat × Nat × Nat × Nat)) (ws : List Cond) (rm : Room) (mc ms n : Nat) : Prop :=
  (rm.cells = mc ∧ rm.slots = ms ∧ rm.frames + 1 ≤ R.frames ∧ 8 + (maxL + 11) + rm.locals ≤ R.locals ∧ (∀ w ∈ ws, ∀ (a' : Array Value) (U : State), s.WarmedH U.vm → w.before a' U = true) ∧ Cond.codeWith y bytes maxL ret hh ∈ ws) ∧
  (Cond.codeWith y bytes maxL ret hh).before args s = true ∧ (Cond.initialized y.cls).before args s = true ∧ (y.cls ≠ "java/lang/invoke/MethodHandle" ∧ y.cls ≠ "java/lang/invoke/VarHandle") ∧
  (∀ sig, parseMethodDescriptor y.desc = some sig → n = sig.parameters.length) ∧ (Cond.methodLink own index y).before args s = true ∧ (Cond.instanceMethod y).before args s = true ∧ (Cond.selects C y y).before args s = true
theorem vx_cwVW {own C : String} {index maxL mc ms : Nat} {y : MethodName} {bytes : ByteArray} {ret : Option FieldType} {hh : List (Nat × Nat × Nat × Nat)} {Ts ws ws' : List Cond} {rm : Room} (n : Nat) (ht : ∀ w ∈ Ts, w.before args s = true) (hT : GoodIn Ts (wsV own index C y ws)) (hw : ws = Cond.codeWith y bytes maxL ret hh :: ws') (hrc : rm.cells = mc) (hrs : rm.slots = ms)
    (hd : y.cls = C ∧ y.cls ≠ "java/lang/invoke/MethodHandle" ∧ y.cls ≠ "java/lang/invoke/VarHandle" ∧ (parseMethodDescriptor y.desc).map (fun d => d.parameters.length) = some n) (hR : rm.frames + 1 ≤ R.frames ∧ 8 + (maxL + 11) + rm.locals ≤ R.locals) :
    vx_CVW R s args own C index y bytes maxL ret hh ws rm mc ms n := by
  obtain ⟨hC, hd⟩ := hd
  subst hC
  have ok : ∀ w ∈ wsV own index y.cls y ws, w.before args s = true := fun w h => ht w (hT w h).1
  have hG : GoodIn Ts ws := fun w h => hT w (by unfold wsV; exact List.mem_append_right _ h)
  have hc : Cond.codeWith y bytes maxL ret hh ∈ ws := by rw [hw]; exact List.mem_cons_self
  refine ⟨⟨hrc, hrs, hR.1, hR.2, pay_in ht hG, hc⟩, ht _ (hG _ hc).1, ok _ (by simp [wsV]), ⟨hd.1, hd.2.1⟩, fun sig h => ?_, ok _ (by simp [wsV]), ok _ (by simp [wsV]), ok _ (by simp [wsV])⟩
  have h2 := hd.2.2
  rw [h] at h2
  exact (Option.some.inj h2).symm
theorem vx_runVW {y : MethodName} {bytes cc : ByteArray} {maxL nL mc ms n index : Nat} {ret : Option FieldType} {hh : List (Nat × Nat × Nat × Nat)} {ws : List Cond} {rm : Room} {Pc : Array Value → State → Prop} {Qc : Array Value → State → Outcome → State → Prop} {free : Addr → Prop} {Ts : List Cond} {own C : String} {b : Addr} {As rest : List Value} {g : JFrame}
    (S : CallFix p m c cc nL s args Ts own) (hM : Met l y ws rm Pc Qc mc ms free) (cw : vx_CVW R s args own C index y bytes maxL ret hh ws rm mc ms n) (hp : PreV s H C b Pc As)
    (hg : g.method = m) (hn : As.length = n) (hsize : g.locals.size = nL) (hstack : g.stack = As.reverse ++ .ref b :: rest) (hW : 2 * g.monitorRoom + (rest.map fun v => v.category).sum ≤ 8) (hdg : decode cc g.pc = .ok (.invokevirtual index, 3)) (hf : cells + mc ≤ R.cells ∧ slots + ms ≤ R.slots) :
    va_Run p l e R s m args below meth c H locs cells slots mc ms g rest (Qc (Value.ref b :: As).toArray) free := by
  obtain ⟨⟨hrc, hrs, hfr, hlo, hws, hcw⟩, hcode, hini, hy, hlen, hl, hin, hse⟩ := cw
  have hK : Back l R p e below s args y 3 8 (PreOf R mc ms Pc) (PostOf Qc mc ms free) := va_backW (hh := hh) (bytes := bytes) (maxL := maxL) (ret := ret) hM hp.1 hrc hrs hfr hlo hws hcw (fun a' U hW => word_at hW (Or.inl (by first | rfl | simp [Cond.onTables, Cond.keeps, Cond.steady])) hini)
  obtain ⟨hx, hb, hml, ho, -⟩ := S
  obtain ⟨-, ⟨cellB, hcB, hoB, hclB⟩, hPc⟩ := hp
  intro T hT X
  obtain ⟨v, vm₁, ⟨U', l2, c2, s2⟩, hW₁, X', ⟨g', mk, t, L, e1, e2, hq, h1, hL, h2, h3⟩, st⟩ := vx_callVW X hx (C := C) (hh := hh) (bytes := bytes) (maxL := maxL) (ret := ret) ho hl hin hse hcode hy hK (by rw [hT]; exact hcB) hoB hclB hg (hsize.trans hml.symm) (argsL := As) (rest := rest) (fun sig h => hn.trans (hlen sig h)) hstack hW (by rw [hb]; exact hdg)
    (fun vm₁ hW₁ => ⟨hf.1, hf.2, hPc (T.setVm vm₁) hT hW₁⟩)
  dsimp only [Pt.U, Pt.locs, Pt.cells, Pt.slots] at X' e1 e2 h1 h2 h3 st
  subst h1; subst h2; subst h3
  exact ⟨v, (T.setVm vm₁).calling g' mk (Value.ref b :: As).toArray, t, U', L, hT, X', hL, e1, e2, hq, st⟩
section
variable {y : MethodName} {bytes cc : ByteArray} {maxL nL mc ms n index : Nat} {ret : Option FieldType} {ws : List Cond} {rm : Room} {Pc : Array Value → State → Prop} {Qc : Array Value → State → Outcome → State → Prop} {XC : String → State → State → Prop} {free : Addr → Prop} {Ts : List Cond} {own C : String} {b : Addr} {As rest : List Value} {g : JFrame}
theorem vx_runVX {hh : List (Nat × Nat × Nat × Nat)} (S : CallFix p m c cc nL s args Ts own) (hM : vx_Met l y ws rm Pc Qc XC mc ms free) (cw : vx_CVW R s args own C index y bytes maxL ret hh ws rm mc ms n) (hp : PreV s H C b Pc As)
    (hg : g.method = m) (hn : As.length = n) (hsize : g.locals.size = nL) (hstack : g.stack = As.reverse ++ .ref b :: rest) (hW : 2 * g.monitorRoom + (rest.map fun v => v.category).sum ≤ 8) (hdg : decode cc g.pc = .ok (.invokevirtual index, 3)) (hf : cells + mc ≤ R.cells ∧ slots + ms ≤ R.slots) :
    vx_Run p l e R s m args below meth c H locs cells slots mc ms g rest (Qc (Value.ref b :: As).toArray) XC free := by
  obtain ⟨⟨hrc, hrs, hfr, hlo, hws, hcw⟩, hcode, hini, hy, hlen, hl, hin, hse⟩ := cw
  have hK : vx_Back l R p e below s args y 3 8 (PreOf R mc ms Pc) (PostOf Qc mc ms free) (vx_Post XC mc ms free) := vx_backW (hh := hh) (bytes := bytes) (maxL := maxL) (ret := ret) hM hp.1 hrc hrs hfr hlo hws hcw (fun a' U hW => word_at hW (Or.inl (by first | rfl | simp [Cond.onTables, Cond.keeps, Cond.steady])) hini)
  obtain ⟨hx, hb, hml, ho, -⟩ := S
  obtain ⟨-, ⟨cellB, hcB, hoB, hclB⟩, hPc⟩ := hp
  intro T hT X
  rcases vx_callVX X hx (C := C) (hh := hh) (bytes := bytes) (maxL := maxL) (ret := ret) ho hl hin hse hcode hy hK (by rw [hT]; exact hcB) hoB hclB hg (hsize.trans hml.symm) (argsL := As) (rest := rest) (fun sig h => hn.trans (hlen sig h)) hstack hW (by rw [hb]; exact hdg)
    (fun vm₁ hW₁ => ⟨hf.1, hf.2, hPc (T.setVm vm₁) hT hW₁⟩) with ⟨v, vm₁, ⟨U', l2, c2, s2⟩, hW₁, X', ⟨g', mk, t, L, e1, e2, hq, h1, hL, h2, h3⟩, st⟩ | ⟨q, vm₁, ⟨U', l2, c2, s2⟩, hW₁, X', ⟨g', mk, t, L, E, ce, e1, e2, hq, hce, hcv, hcl, h1, hL, h2, h3⟩, st⟩
  · dsimp only [Pt.U, Pt.locs, Pt.cells, Pt.slots] at X' e1 e2 h1 h2 h3 st
    subst h1; subst h2; subst h3
    exact Or.inl ⟨v, (T.setVm vm₁).calling g' mk (Value.ref b :: As).toArray, t, U', L, hT, X', hL, e1, e2, hq, st⟩
  · dsimp only [Pt.U, Pt.locs, Pt.cells, Pt.slots] at X' e1 e2 h1 h2 h3 st hcl
    subst h1; subst h2; subst h3
    exact Or.inr ⟨q, (T.setVm vm₁).calling g' mk (Value.ref b :: As).toArray, t, U', L, E, ce, hT, X', hL, e1, e2, hq, hce, hcv, vx_cls hW₁ hcl, st⟩
theorem vx_runSX {hh : List (Nat × Nat × Nat × Nat)} (S : CallFix p m c cc nL s args Ts own) (hM : vx_Met l y ws rm Pc Qc XC mc ms free) (cw : vx_CSW R s args own index y bytes maxL ret hh ws rm mc ms n) (hp : PreS s H Pc As)
    (hg : g.method = m) (hn : As.length = n) (hsize : g.locals.size = nL) (hstack : g.stack = As.reverse ++ rest) (hW : 2 * g.monitorRoom + (rest.map fun v => v.category).sum ≤ 8) (hdg : decode cc g.pc = .ok (.invokestatic index, 3)) (hf : cells + mc ≤ R.cells ∧ slots + ms ≤ R.slots) :
    vx_Run p l e R s m args below meth c H locs cells slots mc ms g rest (Qc As.toArray) XC free := by
  obtain ⟨⟨hrc, hrs, hfr, hlo, hws, hcw⟩, hcode, hini, hy, hlen, hl, hstt⟩ := cw
  have hK : vx_Back l R p e below s args y 3 8 (PreOf R mc ms Pc) (PostOf Qc mc ms free) (vx_Post XC mc ms free) := vx_backW (hh := hh) (bytes := bytes) (maxL := maxL) (ret := ret) hM hp.1 hrc hrs hfr hlo hws hcw (fun a' U hW => word_at hW (Or.inl (by first | rfl | simp [Cond.onTables, Cond.keeps, Cond.steady])) hini)
  obtain ⟨hx, hb, hml, ho, -⟩ := S
  intro T hT X
  rcases vx_callSX X hx (hh := hh) (bytes := bytes) (maxL := maxL) (ret := ret) ho hl hstt hini hcode hy hK hg (hsize.trans hml.symm) (argsL := As) (rest := rest) (fun sig h => hn.trans (hlen sig h)) hstack hW (by rw [hb]; exact hdg)
    (fun vm₁ hW₁ => ⟨hf.1, hf.2, hp.2 (T.setVm vm₁) hT hW₁⟩) with ⟨v, vm₁, ⟨U', l2, c2, s2⟩, hW₁, X', ⟨g', mk, t, L, e1, e2, hq, h1, hL, h2, h3⟩, st⟩ | ⟨q, vm₁, ⟨U', l2, c2, s2⟩, hW₁, X', ⟨g', mk, t, L, E, ce, e1, e2, hq, hce, hcv, hcl, h1, hL, h2, h3⟩, st⟩
  · dsimp only [Pt.U, Pt.locs, Pt.cells, Pt.slots] at X' e1 e2 h1 h2 h3 st
    subst h1; subst h2; subst h3
    exact Or.inl ⟨v, (T.setVm vm₁).calling g' mk As.toArray, t, U', L, hT, X', hL, e1, e2, hq, st⟩
  · dsimp only [Pt.U, Pt.locs, Pt.cells, Pt.slots] at X' e1 e2 h1 h2 h3 st hcl
    subst h1; subst h2; subst h3
    exact Or.inr ⟨q, (T.setVm vm₁).calling g' mk As.toArray, t, U', L, E, ce, hT, X', hL, e1, e2, hq, hce, hcv, vx_cls hW₁ hcl, st⟩
end
end VXH
theorem vx_ofWH {l : Launch} {y : MethodName} {ws ws' : List Cond} {rm : Room} {Pc : Array Value → State → Prop} {Qc : Array Value → State → Outcome → State → Prop} {XC : String → State → State → Prop} {mc ms : Nat} {free : Addr → Prop} {cc : ByteArray} {maxL : Nat} {ret : Option FieldType} {hh : List (Nat × Nat × Nat × Nat)}
    (hy : plainName y.cls = true) (hw : ws = Cond.codeWith y cc maxL ret hh :: ws')
    (body : ∀ p e s m args below meth c s₁, BodyLoose p l y (headSpec ws rm) cc maxL ret e s m args below meth c s₁ → c.maxLocals = maxL → Pc args s →
      W p l e (headSpec ws rm).room s m args below meth c s.heap [] 0 0 (vx_MQ below Qc XC args s mc ms free) (entryFrame m args maxL)) : vx_Met l y ws rm Pc Qc XC mc ms free := by
  refine MetFree.of_bodyS (code := cc) (maxLocals := maxL) (ret := ret) hy ?_ ?_
  · intro args s m h hn
    obtain ⟨m9, meth, c, hn9, h1, h2, h3, h4, -, h5, h6, -⟩ := Cond.codeWith_spec (atoms_spec (ws := ws) h _ (by rw [hw]; exact List.mem_cons_self))
    cases hn.symm.trans hn9
    exact ⟨meth, c, h1, h2, h3, h4, h5, h6⟩
  · intro p e s m args below meth c s₁ B hml hP _
    have hh0 : s₁.heap = s.heap := by rw [B.state]; rfl
    obtain ⟨t, a1, o, b1, b2, b3⟩ := body p e s m args below meth c s₁ B hml hP s₁ hh0 (Stand.of_body B)
    exact ⟨t, o, a1, b1, b2, b3⟩
/-! ===== END ===== -/
end
section
/- Part 03: the classes' tables, printed by wip/whole/tools/gen_tabs.py -/
def xTN : u_T := fun k => match k with
  | 0 => ("ChannelNet", "coins", "[I", true)
  | 1 => ("ChannelNet", "base", "[I", true)
  | 2 => ("ChannelNet", "parts", "[I", true)
  | 3 => ("ChannelNet", "delta", "[I", true)
  | 4 => ("ChannelNet", "watching", "[Z", true)
  | 5 => ("ChannelNet", "secrets", "LChannelNet$Secrets;", true)
  | 6 => ("ChannelNet", "channels", "Ljava/util/ArrayList;", true)
  | 7 => ("ChannelNet", "payments", "Ljava/util/ArrayList;", true)
  | 8 => ("ChannelNet", "latestRoute", "LChannelNet$Route;", true)
  | 9 => ("ChannelNet", "trail", "LChannelNet$Route;", true)
  | 10 => ("ChannelNet", "height", "I", false)
  | _ => ("", "", "", false)
def xTS : u_T := fun k => match k with
  | 0 => ("ChannelNet$Secrets", "locks", "[J", true)
  | 1 => ("ChannelNet$Secrets", "knowers", "[I", true)
  | 2 => ("ChannelNet$Secrets", "count", "I", false)
  | _ => ("", "", "", false)
def xTA : u_T := fun k => match k with
  | 0 => ("java/util/ArrayList", "elementData", "[Ljava/lang/Object;", false)
  | 1 => ("java/util/ArrayList", "size", "I", false)
  | 2 => ("java/util/AbstractList", "modCount", "I", false)
  | _ => ("", "", "", false)
def xTR : u_T := fun k => match k with
  | 0 => ("ChannelNet$Route", "channels", "[I", true)
  | 1 => ("ChannelNet$Route", "payers", "[I", true)
  | 2 => ("ChannelNet$Route", "amounts", "[I", true)
  | 3 => ("ChannelNet$Route", "length", "I", false)
  | _ => ("", "", "", false)
def xTC : u_T := fun k => match k with
  | 0 => ("ChannelNet$Channel", "first", "I", true)
  | 1 => ("ChannelNet$Channel", "second", "I", true)
  | 2 => ("ChannelNet$Channel", "firstBalances", "[I", true)
  | 3 => ("ChannelNet$Channel", "secondBalances", "[I", true)
  | 4 => ("ChannelNet$Channel", "promises", "Ljava/util/ArrayList;", true)
  | 5 => ("ChannelNet$Channel", "latest", "I", false)
  | 6 => ("ChannelNet$Channel", "status", "I", false)
  | 7 => ("ChannelNet$Channel", "held", "I", false)
  | 8 => ("ChannelNet$Channel", "publisher", "I", false)
  | 9 => ("ChannelNet$Channel", "published", "I", false)
  | 10 => ("ChannelNet$Channel", "publishedAt", "I", false)
  | 11 => ("ChannelNet$Channel", "settled", "Z", false)
  | _ => ("", "", "", false)
def xTP : u_T := fun k => match k with
  | 0 => ("ChannelNet$Promise", "payer", "I", true)
  | 1 => ("ChannelNet$Promise", "payee", "I", true)
  | 2 => ("ChannelNet$Promise", "amount", "I", true)
  | 3 => ("ChannelNet$Promise", "lock", "J", true)
  | 4 => ("ChannelNet$Promise", "deadline", "I", true)
  | 5 => ("ChannelNet$Promise", "madeIn", "I", true)
  | 6 => ("ChannelNet$Promise", "goneIn", "I", false)
  | 7 => ("ChannelNet$Promise", "paidOut", "Z", false)
  | _ => ("", "", "", false)
def xTY : u_T := fun k => match k with
  | 0 => ("ChannelNet$Payment", "receiver", "I", true)
  | 1 => ("ChannelNet$Payment", "lock", "J", true)
  | 2 => ("ChannelNet$Payment", "length", "I", true)
  | 3 => ("ChannelNet$Payment", "channels", "[I", true)
  | 4 => ("ChannelNet$Payment", "payers", "[I", true)
  | 5 => ("ChannelNet$Payment", "amounts", "[I", true)
  | 6 => ("ChannelNet$Payment", "deadlines", "[I", true)
  | 7 => ("ChannelNet$Payment", "promises", "[I", true)
  | 8 => ("ChannelNet$Payment", "status", "I", false)
  | 9 => ("ChannelNet$Payment", "outcome", "I", false)
  | 10 => ("ChannelNet$Payment", "made", "I", false)
  | 11 => ("ChannelNet$Payment", "left", "I", false)
  | 12 => ("ChannelNet$Payment", "ended", "I", false)
  | _ => ("", "", "", false)
def xTM : u_T := fun k => match k with
  | 0 => ("ChannelNetModel", "thrown", "I", false)
  | 1 => ("ChannelNetModel", "coins", "[I", true)
  | 2 => ("ChannelNetModel", "bases", "[I", true)
  | 3 => ("ChannelNetModel", "parts", "[I", true)
  | 4 => ("ChannelNetModel", "deltas", "[I", true)
  | 5 => ("ChannelNetModel", "watches", "[Z", true)
  | 6 => ("ChannelNetModel", "height", "I", false)
  | 7 => ("ChannelNetModel", "channels", "I", false)
  | 8 => ("ChannelNetModel", "firsts", "[I", true)
  | 9 => ("ChannelNetModel", "seconds", "[I", true)
  | 10 => ("ChannelNetModel", "status", "[I", true)
  | 11 => ("ChannelNetModel", "latest", "[I", true)
  | 12 => ("ChannelNetModel", "balances", "[I", true)
  | 13 => ("ChannelNetModel", "open", "[J", true)
  | 14 => ("ChannelNetModel", "held", "[I", true)
  | 15 => ("ChannelNetModel", "promises", "[I", true)
  | 16 => ("ChannelNetModel", "payers", "[I", true)
  | 17 => ("ChannelNetModel", "amounts", "[I", true)
  | 18 => ("ChannelNetModel", "locks", "[J", true)
  | 19 => ("ChannelNetModel", "deadlines", "[I", true)
  | 20 => ("ChannelNetModel", "published", "[I", true)
  | 21 => ("ChannelNetModel", "publishers", "[I", true)
  | 22 => ("ChannelNetModel", "publishedAt", "[I", true)
  | 23 => ("ChannelNetModel", "left", "[J", true)
  | 24 => ("ChannelNetModel", "settled", "[Z", true)
  | 25 => ("ChannelNetModel", "known", "I", false)
  | 26 => ("ChannelNetModel", "knownLocks", "[J", true)
  | 27 => ("ChannelNetModel", "knowers", "[I", true)
  | 28 => ("ChannelNetModel", "hops", "I", false)
  | 29 => ("ChannelNetModel", "route", "[I", true)
  | 30 => ("ChannelNetModel", "routeAmount", "I", false)
  | 31 => ("ChannelNetModel", "way", "[I", true)
  | 32 => ("ChannelNetModel", "wayAmounts", "[J", true)
  | 33 => ("ChannelNetModel", "wayNodes", "[I", true)
  | 34 => ("ChannelNetModel", "payments", "I", false)
  | 35 => ("ChannelNetModel", "kind", "[I", true)
  | 36 => ("ChannelNetModel", "turned", "[I", true)
  | 37 => ("ChannelNetModel", "made", "[I", true)
  | 38 => ("ChannelNetModel", "back", "[I", true)
  | 39 => ("ChannelNetModel", "ended", "[I", true)
  | 40 => ("ChannelNetModel", "lengths", "[I", true)
  | 41 => ("ChannelNetModel", "payTo", "[I", true)
  | 42 => ("ChannelNetModel", "payLocks", "[J", true)
  | 43 => ("ChannelNetModel", "payChannels", "[I", true)
  | 44 => ("ChannelNetModel", "payAmounts", "[I", true)
  | 45 => ("ChannelNetModel", "payDeadlines", "[I", true)
  | 46 => ("ChannelNetModel", "payPromises", "[I", true)
  | 47 => ("ChannelNetModel", "payPayers", "[I", true)
  | _ => ("", "", "", false)
def xTE8 : u_T := fun k => match k with
  | _ => ("", "", "", false)
def xTE9 : u_T := fun k => match k with
  | _ => ("", "", "", false)
def xTE10 : u_T := fun k => match k with
  | _ => ("", "", "", false)
def xcl : List vw_C := [("ChannelNet", xTN, 11), ("ChannelNet$Secrets", xTS, 3), ("java/util/ArrayList", xTA, 3), ("ChannelNet$Route", xTR, 4), ("ChannelNet$Channel", xTC, 12), ("ChannelNet$Promise", xTP, 8), ("ChannelNet$Payment", xTY, 13), ("ChannelNetModel", xTM, 48), ("java/lang/IndexOutOfBoundsException", xTE8, 0), ("java/lang/IllegalArgumentException", xTE9, 0), ("java/lang/IllegalStateException", xTE10, 0)]
def xtys : List (List FieldType) := [[.array (.int), .array (.int), .array (.int), .array (.int), .array (.boolean), .object "ChannelNet$Secrets", .object "java/util/ArrayList", .object "java/util/ArrayList", .object "ChannelNet$Route", .object "ChannelNet$Route", .int],
  [.array (.long), .array (.int), .int],
  [.array (.object "java/lang/Object"), .int, .int],
  [.array (.int), .array (.int), .array (.int), .int],
  [.int, .int, .array (.int), .array (.int), .object "java/util/ArrayList", .int, .int, .int, .int, .int, .int, .boolean],
  [.int, .int, .int, .long, .int, .int, .int, .boolean],
  [.int, .long, .int, .array (.int), .array (.int), .array (.int), .array (.int), .array (.int), .int, .int, .int, .int, .int],
  [.int, .array (.int), .array (.int), .array (.int), .array (.int), .array (.boolean), .int, .int, .array (.int), .array (.int), .array (.int), .array (.int), .array (.int), .array (.long), .array (.int), .array (.int), .array (.int), .array (.int), .array (.long), .array (.int), .array (.int), .array (.int), .array (.int), .array (.long), .array (.boolean), .int, .array (.long), .array (.int), .int, .array (.int), .int, .array (.int), .array (.long), .array (.int), .int, .array (.int), .array (.int), .array (.int), .array (.int), .array (.int), .array (.int), .array (.int), .array (.long), .array (.int), .array (.int), .array (.int), .array (.int), .array (.int)],
  [],
  [],
  []]
def xwis : List (List Nat) := [[113, 115, 117, 119, 121, 123, 125, 127, 129, 131, 133],
  [40, 42, 44],
  [69, 71, 73],
  [92, 94, 96, 98],
  [311, 313, 315, 317, 319, 321, 323, 325, 327, 329, 331, 333],
  [512, 514, 516, 518, 520, 522, 524, 526],
  [668, 670, 672, 674, 676, 678, 680, 682, 684, 686, 688, 690, 692],
  [909, 911, 913, 915, 917, 919, 921, 923, 925, 927, 929, 931, 933, 935, 937, 939, 941, 943, 945, 947, 949, 951, 953, 955, 957, 959, 961, 963, 965, 967, 969, 971, 973, 975, 977, 979, 981, 983, 985, 987, 989, 991, 993, 995, 997, 999, 1001, 1003],
  [],
  [],
  []]
def xsf : Nat := 68
end
section
/- Part 04: an abstract heap, positional locals, a table of instructions a method, and the judgement xV over the kit's W. -/
abbrev XC : Type := (Bool × FieldType × vp_A) ⊕ (Nat × List Value)
abbrev XH : Type := Nat × Nat × Nat × (Nat → Option XC)
abbrev XL : Type := List (Option Value)
/-- an instruction: its place, itself, its length, the next place, a target (or a field's place), a constant (or a class's place), the place of its word in tables_1 -/
abbrev XI : Type := Nat × Instr × Nat × Nat × Nat × Value × Nat
/-- a method: name, code, variables, answer's type, handlers, instructions -/
abbrev XM : Type := MethodName × ByteArray × Nat × Option FieldType × List (Nat × Nat × Nat × Nat) × List XI
def xget (h : XH) (a : Nat) : Option XC := h.2.2.2 a
def xput (h : XH) (a : Nat) (c : XC) : XH := (h.1, h.2.1, h.2.2.1, fun q => if q = a then some c else h.2.2.2 q)
def xnew (h : XH) (c : XC) (n : Nat) : XH := (h.1 + 1, h.2.1 + 1, h.2.2.1 + n, fun q => if q = h.1 then some c else h.2.2.2 q)
def xnth : XL → Nat → Option Value
  | [], _ => none
  | x :: _, 0 => x
  | _ :: t, n + 1 => xnth t n
def xupd : XL → Nat → Option Value → XL
  | [], _, _ => []
  | _ :: t, 0, v => v :: t
  | x :: t, n + 1, v => x :: xupd t n v
def xclr (lv : XL) (i : Nat) : XL := match i with
  | 0 => lv
  | j + 1 => match xnth lv j with
    | none => lv
    | some w => bif Nat.beq w.category 2 then xupd lv j none else lv
def xsto1 (lv : XL) (i : Nat) (v : Value) : XL := xupd (xclr lv i) i (some v)
def xsto2 (lv : XL) (i : Nat) (v : Value) : XL := xupd (xupd (xclr lv i) i (some v)) (i + 1) none
def xlook : List XI → Nat → Option XI
  | [], _ => none
  | e :: t, pc => bif Nat.beq e.1 pc then some e else xlook t pc
theorem xnth_upd (lv : XL) (i j : Nat) (v : Option Value) : xnth (xupd lv i v) j = if i = j then (if i < lv.length then v else none) else xnth lv j := by
  induction lv generalizing i j with
  | nil => simp [xupd, xnth]
  | cons x t ih =>
    cases i with
    | zero =>
      cases j with
      | zero => simp [xupd, xnth]
      | succ j => simp [xupd, xnth]
    | succ i =>
      cases j with
      | zero => simp [xupd, xnth]
      | succ j => simp [xupd, xnth, ih]
theorem xlen_upd (lv : XL) (i : Nat) (v : Option Value) : (xupd lv i v).length = lv.length := by
  induction lv generalizing i with
  | nil => simp [xupd]
  | cons x t ih =>
    cases i with
    | zero => simp [xupd]
    | succ i => simp [xupd, ih]
theorem xlen_clr (lv : XL) (i : Nat) : (xclr lv i).length = lv.length := by
  unfold xclr
  cases i with
  | zero => rfl
  | succ j =>
    simp only
    cases xnth lv j with
    | none => rfl
    | some w =>
      simp only
      cases h : Nat.beq w.category 2 <;> simp [h, xlen_upd]
theorem xnth_clr {lv : XL} {i j : Nat} {w : Value} (h : xnth (xclr lv i) j = some w) : xnth lv j = some w ∧ ¬ (j + 1 = i ∧ w.category = 2) := by
  unfold xclr at h
  cases i with
  | zero => exact ⟨h, by omega⟩
  | succ k =>
    simp only at h
    cases hk : xnth lv k with
    | none =>
      rw [hk] at h
      simp only at h
      refine ⟨h, fun q => ?_⟩
      have : j = k := by omega
      subst this
      rw [hk] at h; cases h
    | some w2 =>
      rw [hk] at h
      simp only at h
      cases hb : Nat.beq w2.category 2 with
      | true =>
        rw [hb] at h
        simp only [cond_true, xnth_upd] at h
        by_cases hkj : k = j
        · rw [if_pos hkj] at h
          split at h <;> cases h
        · rw [if_neg hkj] at h
          exact ⟨h, by omega⟩
      | false =>
        rw [hb] at h
        simp only [cond_false] at h
        refine ⟨h, fun q => ?_⟩
        have : j = k := by omega
        subst this
        have e2 : w2 = w := Option.some.inj (hk.symm.trans h)
        rw [e2, q.2] at hb
        cases hb
/-- the machine's variables hold what the list says -/
def xLs (nL : Nat) (lv : XL) (ls : Array Slot) : Prop := lv.length = nL ∧ ls.size = nL ∧ lv_wf ls ∧ ∀ (j : Nat) (w : Value), xnth lv j = some w → ls[j]? = some (.val w)
def xasc (lv : XL) : List (Nat × Value) := (List.range lv.length).filterMap (fun j => (xnth lv j).map (fun w => (j, w)))
theorem xnth_lt {lv : XL} {j : Nat} {w : Value} (h : xnth lv j = some w) : j < lv.length := by
  induction lv generalizing j with
  | nil => simp [xnth] at h
  | cons x t ih =>
    cases j with
    | zero => simp
    | succ j => simp [xnth] at h; have := ih h; simp; omega
theorem xasc_mem {lv : XL} {j : Nat} {w : Value} : (j, w) ∈ xasc lv ↔ xnth lv j = some w := by
  unfold xasc
  rw [List.mem_filterMap]
  constructor
  · rintro ⟨k, -, h⟩
    cases hk : xnth lv k with
    | none => rw [hk] at h; cases h
    | some u =>
      rw [hk] at h
      simp at h
      obtain ⟨rfl, rfl⟩ := h
      exact hk
  · intro h
    exact ⟨j, List.mem_range.mpr (xnth_lt h), by rw [h]; rfl⟩
theorem xLs.has {nL : Nat} {lv : XL} {ls : Array Slot} (h : xLs nL lv ls) : lv_has ls nL (xasc lv) :=
  ⟨h.2.1, h.2.2.1, fun q hq => h.2.2.2 q.1 q.2 (xasc_mem.mp hq)⟩
theorem xLs.sto1 {nL i : Nat} {lv : XL} {ls' : Array Slot} {v : Value} (hl : lv.length = nL) (h : lv_has ls' nL ((i, v) :: (xasc lv).filter (fun q => !(q.1 == i) && !(q.1 + 1 == i && q.2.category == 2)))) : xLs nL (xsto1 lv i v) ls' := by
  refine ⟨by rw [xsto1, xlen_upd, xlen_clr, hl], h.1, h.2.1, fun j w hj => ?_⟩
  rw [xsto1, xnth_upd] at hj
  by_cases hij : i = j
  · rw [if_pos hij] at hj
    split at hj
    · cases hj
      exact h.2.2 (j, v) (by rw [hij]; exact List.mem_cons_self)
    · cases hj
  · rw [if_neg hij] at hj
    obtain ⟨h1, h2⟩ := xnth_clr hj
    refine h.2.2 (j, w) (List.mem_cons_of_mem _ (List.mem_filter.mpr ⟨xasc_mem.mpr h1, ?_⟩))
    have h3 : ¬ j = i := fun q => hij q.symm
    simp only [Bool.and_eq_true, Bool.not_eq_true', beq_eq_false_iff_ne, ne_eq, h3, not_false_eq_true, true_and, Bool.and_eq_false_iff]
    by_cases h4 : j + 1 = i
    · exact Or.inr fun q => h2 ⟨h4, q⟩
    · exact Or.inl h4
theorem xLs.sto2 {nL i : Nat} {lv : XL} {ls' : Array Slot} {v : Value} (hl : lv.length = nL) (h : lv_has ls' nL ((i, v) :: (xasc lv).filter (fun q => !(q.1 == i) && (!(q.1 == i + 1) && !(q.1 + 1 == i && q.2.category == 2))))) : xLs nL (xsto2 lv i v) ls' := by
  refine ⟨by rw [xsto2, xlen_upd, xlen_upd, xlen_clr, hl], h.1, h.2.1, fun j w hj => ?_⟩
  rw [xsto2, xnth_upd] at hj
  by_cases hi1 : i + 1 = j
  · rw [if_pos hi1] at hj
    split at hj <;> cases hj
  rw [if_neg hi1, xnth_upd] at hj
  by_cases hij : i = j
  · rw [if_pos hij] at hj
    split at hj
    · cases hj
      exact h.2.2 (j, v) (by rw [hij]; exact List.mem_cons_self)
    · cases hj
  · rw [if_neg hij] at hj
    obtain ⟨h1, h2⟩ := xnth_clr hj
    refine h.2.2 (j, w) (List.mem_cons_of_mem _ (List.mem_filter.mpr ⟨xasc_mem.mpr h1, ?_⟩))
    have h3 : ¬ j = i := fun q => hij q.symm
    have h5 : ¬ j = i + 1 := fun q => hi1 q.symm
    simp only [Bool.and_eq_true, Bool.not_eq_true', beq_eq_false_iff_ne, ne_eq, h3, h5, not_false_eq_true, true_and, Bool.and_eq_false_iff]
    by_cases h4 : j + 1 = i
    · exact Or.inr fun q => h2 ⟨h4, q⟩
    · exact Or.inl h4
end
section
def xI1 {α : Type} (st : List Value) (f : Int32 → List Value → Option α) : Option α := match st with
  | .int x :: r => f x r
  | _ => none
def xI2 {α : Type} (st : List Value) (f : Int32 → Int32 → List Value → Option α) : Option α := match st with
  | .int y :: .int x :: r => f x y r
  | _ => none
def xL1 {α : Type} (st : List Value) (f : Int64 → List Value → Option α) : Option α := match st with
  | .long x :: r => f x r
  | _ => none
def xL2 {α : Type} (st : List Value) (f : Int64 → Int64 → List Value → Option α) : Option α := match st with
  | .long y :: .long x :: r => f x y r
  | _ => none
def xLI {α : Type} (st : List Value) (f : Int64 → Int32 → List Value → Option α) : Option α := match st with
  | .int y :: .long x :: r => f x y r
  | _ => none
def xA1 {α : Type} (st : List Value) (f : Value → List Value → Option α) : Option α := match st with
  | .ref a :: r => f (.ref a) r
  | .null :: r => f .null r
  | _ => none
def xV1 {α : Type} (st : List Value) (f : Value → List Value → Option α) : Option α := match st with
  | v :: r => bif Nat.beq v.category 1 then f v r else none
  | _ => none
def xV2 {α : Type} (st : List Value) (f : Value → Value → List Value → Option α) : Option α := match st with
  | v :: w :: r => bif (Nat.beq v.category 1 && Nat.beq w.category 1) then f v w r else none
  | _ => none
def xV3 {α : Type} (st : List Value) (f : Value → Value → Value → List Value → Option α) : Option α := match st with
  | v :: w :: u :: r => bif (Nat.beq v.category 1 && Nat.beq w.category 1 && Nat.beq u.category 1) then f v w u r else none
  | _ => none
def xLd {α : Type} (o : Option Value) (f : Value → Option α) : Option α := match o with
  | some v => f v
  | none => none
theorem xI1_inv {α : Type} {st : List Value} {f : Int32 → List Value → Option α} {z : α} (h : xI1 st f = some z) : ∃ (x : Int32) (r : List Value), st = .int x :: r ∧ f x r = some z := by
  unfold xI1 at h
  split at h
  · exact ⟨_, _, rfl, h⟩
  · cases h
theorem xI2_inv {α : Type} {st : List Value} {f : Int32 → Int32 → List Value → Option α} {z : α} (h : xI2 st f = some z) : ∃ (x y : Int32) (r : List Value), st = .int y :: .int x :: r ∧ f x y r = some z := by
  unfold xI2 at h
  split at h
  · exact ⟨_, _, _, rfl, h⟩
  · cases h
theorem xL1_inv {α : Type} {st : List Value} {f : Int64 → List Value → Option α} {z : α} (h : xL1 st f = some z) : ∃ (x : Int64) (r : List Value), st = .long x :: r ∧ f x r = some z := by
  unfold xL1 at h
  split at h
  · exact ⟨_, _, rfl, h⟩
  · cases h
theorem xL2_inv {α : Type} {st : List Value} {f : Int64 → Int64 → List Value → Option α} {z : α} (h : xL2 st f = some z) : ∃ (x y : Int64) (r : List Value), st = .long y :: .long x :: r ∧ f x y r = some z := by
  unfold xL2 at h
  split at h
  · exact ⟨_, _, _, rfl, h⟩
  · cases h
theorem xLI_inv {α : Type} {st : List Value} {f : Int64 → Int32 → List Value → Option α} {z : α} (h : xLI st f = some z) : ∃ (x : Int64) (y : Int32) (r : List Value), st = .int y :: .long x :: r ∧ f x y r = some z := by
  unfold xLI at h
  split at h
  · exact ⟨_, _, _, rfl, h⟩
  · cases h
theorem xA1_inv {α : Type} {st : List Value} {f : Value → List Value → Option α} {z : α} (h : xA1 st f = some z) : ∃ (r : List Value), (∃ a : Nat, st = .ref a :: r ∧ f (.ref a) r = some z) ∨ (st = .null :: r ∧ f .null r = some z) := by
  unfold xA1 at h
  split at h
  · exact ⟨_, Or.inl ⟨_, rfl, h⟩⟩
  · exact ⟨_, Or.inr ⟨rfl, h⟩⟩
  · cases h
theorem xbif {α : Type} {b : Bool} {x : Option α} {z : α} (h : (bif b then x else none) = some z) : b = true ∧ x = some z := by
  cases b
  · cases h
  · exact ⟨rfl, h⟩
theorem xV1_inv {α : Type} {st : List Value} {f : Value → List Value → Option α} {z : α} (h : xV1 st f = some z) : ∃ (v : Value) (r : List Value), st = v :: r ∧ v.category = 1 ∧ f v r = some z := by
  unfold xV1 at h
  split at h
  · obtain ⟨h1, h2⟩ := xbif h
    exact ⟨_, _, rfl, Nat.eq_of_beq_eq_true h1, h2⟩
  · cases h
theorem xV2_inv {α : Type} {st : List Value} {f : Value → Value → List Value → Option α} {z : α} (h : xV2 st f = some z) : ∃ (v w : Value) (r : List Value), st = v :: w :: r ∧ v.category = 1 ∧ w.category = 1 ∧ f v w r = some z := by
  unfold xV2 at h
  split at h
  · obtain ⟨h1, h2⟩ := xbif h
    rw [Bool.and_eq_true] at h1
    exact ⟨_, _, _, rfl, Nat.eq_of_beq_eq_true h1.1, Nat.eq_of_beq_eq_true h1.2, h2⟩
  · cases h
theorem xV3_inv {α : Type} {st : List Value} {f : Value → Value → Value → List Value → Option α} {z : α} (h : xV3 st f = some z) : ∃ (v w u : Value) (r : List Value), st = v :: w :: u :: r ∧ v.category = 1 ∧ w.category = 1 ∧ u.category = 1 ∧ f v w u r = some z := by
  unfold xV3 at h
  split at h
  · obtain ⟨h1, h2⟩ := xbif h
    rw [Bool.and_eq_true, Bool.and_eq_true] at h1
    exact ⟨_, _, _, _, rfl, Nat.eq_of_beq_eq_true h1.1.1, Nat.eq_of_beq_eq_true h1.1.2, Nat.eq_of_beq_eq_true h1.2, h2⟩
  · cases h
theorem xLd_inv {α : Type} {o : Option Value} {f : Value → Option α} {z : α} (h : xLd o f = some z) : ∃ v : Value, o = some v ∧ f v = some z := by
  cases o with
  | none => cases h
  | some v => exact ⟨v, rfl, h⟩
/-- an instruction that touches variables and operands alone -/
def xstep (q : XI) (lv : XL) (st : List Value) : Option (Nat × XL × List Value) := match q with
  | (_, i, _, nx, tg, cv, _) => match i with
    | .iconst _ => some (nx, lv, cv :: st)
    | .bipush _ => some (nx, lv, cv :: st)
    | .sipush _ => some (nx, lv, cv :: st)
    | .lconst _ => some (nx, lv, cv :: st)
    | .aconst_null => some (nx, lv, cv :: st)
    | .ldc_w _ => match cv with
      | .int v => some (nx, lv, .int v :: st)
      | _ => none
    | .ldc _ => match cv with
      | .int v => some (nx, lv, .int v :: st)
      | _ => none
    | .ldc2_w _ => match cv with
      | .long v => some (nx, lv, .long v :: st)
      | _ => none
    | .iload k => xLd (xnth lv k) fun v => match v with
      | .int x => some (nx, lv, .int x :: st)
      | _ => none
    | .iload_n k => xLd (xnth lv k) fun v => match v with
      | .int x => some (nx, lv, .int x :: st)
      | _ => none
    | .lload k => xLd (xnth lv k) fun v => match v with
      | .long x => some (nx, lv, .long x :: st)
      | _ => none
    | .lload_n k => xLd (xnth lv k) fun v => match v with
      | .long x => some (nx, lv, .long x :: st)
      | _ => none
    | .aload k => xLd (xnth lv k) fun v => match v with
      | .ref x => some (nx, lv, .ref x :: st)
      | .null => some (nx, lv, .null :: st)
      | _ => none
    | .aload_n k => xLd (xnth lv k) fun v => match v with
      | .ref x => some (nx, lv, .ref x :: st)
      | .null => some (nx, lv, .null :: st)
      | _ => none
    | .istore k => xI1 st fun x r => bif Nat.blt k lv.length then some (nx, xsto1 lv k (.int x), r) else none
    | .istore_n k => xI1 st fun x r => bif Nat.blt k lv.length then some (nx, xsto1 lv k (.int x), r) else none
    | .lstore k => xL1 st fun x r => bif Nat.blt (k + 1) lv.length then some (nx, xsto2 lv k (.long x), r) else none
    | .lstore_n k => xL1 st fun x r => bif Nat.blt (k + 1) lv.length then some (nx, xsto2 lv k (.long x), r) else none
    | .astore k => xA1 st fun x r => bif Nat.blt k lv.length then some (nx, xsto1 lv k x, r) else none
    | .astore_n k => xA1 st fun x r => bif Nat.blt k lv.length then some (nx, xsto1 lv k x, r) else none
    | .iinc k _ => xLd (xnth lv k) fun v => match v, cv with
      | .int x, .int y => bif Nat.blt k lv.length then some (nx, xsto1 lv k (.int (x + y)), st) else none
      | _, _ => none
    | .iadd => xI2 st fun x y r => some (nx, lv, .int (x + y) :: r)
    | .isub => xI2 st fun x y r => some (nx, lv, .int (x - y) :: r)
    | .imul => xI2 st fun x y r => some (nx, lv, .int (x * y) :: r)
    | .iand => xI2 st fun x y r => some (nx, lv, .int (x &&& y) :: r)
    | .ior => xI2 st fun x y r => some (nx, lv, .int (x ||| y) :: r)
    | .ixor => xI2 st fun x y r => some (nx, lv, .int (x ^^^ y) :: r)
    | .ishl => xI2 st fun x y r => some (nx, lv, .int (x <<< (y &&& 31)) :: r)
    | .ishr => xI2 st fun x y r => some (nx, lv, .int (x >>> (y &&& 31)) :: r)
    | .iushr => xI2 st fun x y r => some (nx, lv, .int ((x.toUInt32 >>> (y.toUInt32 &&& Int32.toUInt32 31)).toInt32) :: r)
    | .ladd => xL2 st fun x y r => some (nx, lv, .long (x + y) :: r)
    | .lsub => xL2 st fun x y r => some (nx, lv, .long (x - y) :: r)
    | .lmul => xL2 st fun x y r => some (nx, lv, .long (x * y) :: r)
    | .land => xL2 st fun x y r => some (nx, lv, .long (x &&& y) :: r)
    | .lor => xL2 st fun x y r => some (nx, lv, .long (x ||| y) :: r)
    | .lxor => xL2 st fun x y r => some (nx, lv, .long (x ^^^ y) :: r)
    | .lshl => xLI st fun x y r => some (nx, lv, .long (x <<< (y.toInt64 &&& 63)) :: r)
    | .lshr => xLI st fun x y r => some (nx, lv, .long (x >>> (y.toInt64 &&& 63)) :: r)
    | .lushr => xLI st fun x y r => some (nx, lv, .long ((x.toUInt64 >>> (y.toInt64.toUInt64 &&& Int64.toUInt64 63)).toInt64) :: r)
    | .ineg => xI1 st fun x r => some (nx, lv, .int (-x) :: r)
    | .i2l => xI1 st fun x r => some (nx, lv, .long x.toInt64 :: r)
    | .l2i => xL1 st fun x r => some (nx, lv, .int x.toInt32 :: r)
    | .lcmp => xL2 st fun x y r => some (nx, lv, .int (lg_cmp x y) :: r)
    | .dup => xV1 st fun v r => some (nx, lv, v :: v :: r)
    | .pop => xV1 st fun _ r => some (nx, lv, r)
    | .dup_x1 => xV2 st fun v w r => some (nx, lv, v :: w :: v :: r)
    | .dup_x2 => xV3 st fun v w u r => some (nx, lv, v :: w :: u :: v :: r)
    | .dup2 => xV2 st fun v w r => some (nx, lv, v :: w :: v :: w :: r)
    | .goto _ => some (tg, lv, st)
    | _ => none
/-- what is true of an instruction's entry, by computing -/
def xwt (i : Nat) (w : Jvm.Cond) : Bool := decide (tables_1[i]? = some w) && goodWord w
def xfk (wi : Nat) (own : String) (idx ci kf : Nat) : Bool := match xcl[ci]? with
  | some q => Nat.blt kf q.2.2 && (xwt wi (.fieldLink own idx q.1 (q.2.1 kf).2.1 (q.2.1 kf).2.2.1) && (decide ((q.2.1 kf).1 = q.1) || xwt xsf (.sameField q.1 (q.2.1 kf).1 (q.2.1 kf).2.1 (q.2.1 kf).2.2.1)))
  | none => false
def xpk (y : MethodName) (ci kf : Nat) : Bool := match xcl[ci]? with
  | some q => (q.2.1 kf).2.2.2 == false || (decide (y.name = "<init>") && decide ((q.2.1 kf).1 = y.cls))
  | none => false
def xchi (y : MethodName) (q : XI) : Bool := match q with
  | (pc, i, len, _, tg, cv, wi) => match i with
    | .iconst n => Nat.beq len 1 && decide (cv = .int (Int32.ofInt n))
    | .bipush n => Nat.beq len 2 && decide (cv = .int (Int8.ofInt n).toInt32)
    | .sipush n => Nat.beq len 3 && decide (cv = .int (Int16.ofInt n).toInt32)
    | .lconst n => Nat.beq len 1 && decide (cv = .long (Int64.ofNat n))
    | .aconst_null => Nat.beq len 1 && decide (cv = .null)
    | .ldc k => Nat.beq len 2 && (match cv with | .int v => xwt wi (.constant y.cls k v) | _ => true)
    | .ldc_w k => Nat.beq len 3 && (match cv with | .int v => xwt wi (.constant y.cls k v) | _ => true)
    | .ldc2_w k => Nat.beq len 3 && (match cv with | .long v => xwt wi (.constantLong y.cls k v) | _ => true)
    | .iload _ => Nat.beq len 2
    | .lload _ => Nat.beq len 2
    | .aload _ => Nat.beq len 2
    | .istore _ => Nat.beq len 2
    | .lstore _ => Nat.beq len 2
    | .astore _ => Nat.beq len 2
    | .iinc _ n => Nat.beq len 3 && decide (cv = .int (Int32.ofInt n))
    | .goto off => Nat.beq len 3 && decide ((pc : Int) + off = (tg : Int))
    | .ifCond _ off => Nat.beq len 3 && decide ((pc : Int) + off = (tg : Int))
    | .if_icmp _ off => Nat.beq len 3 && decide ((pc : Int) + off = (tg : Int))
    | .if_acmp _ off => Nat.beq len 3 && decide ((pc : Int) + off = (tg : Int))
    | .ifnull off => Nat.beq len 3 && decide ((pc : Int) + off = (tg : Int))
    | .ifnonnull off => Nat.beq len 3 && decide ((pc : Int) + off = (tg : Int))
    | .getfield k => Nat.beq len 3 && (match cv with | .ref ci => xfk wi y.cls k ci tg | _ => false)
    | .putfield k => Nat.beq len 3 && (match cv with | .ref ci => xfk wi y.cls k ci tg && xpk y ci tg | _ => false)
    | .getstatic _ => Nat.beq len 3
    | .invokevirtual _ => Nat.beq len 3
    | .invokespecial _ => Nat.beq len 3
    | .invokestatic _ => Nat.beq len 3
    | .new _ => Nat.beq len 3
    | .checkcast _ => Nat.beq len 3
    | .anewarray _ => Nat.beq len 3
    | .newarray _ => Nat.beq len 2
    | .lookupswitch _ _ => true
    | .tableswitch _ _ _ _ => true
    | _ => Nat.beq len 1
def xchk (y : MethodName) (bytes : ByteArray) (q : XI) : Bool := decide (decode bytes q.1 = .ok (q.2.1, q.2.2.1)) && (Nat.beq q.2.2.2.1 (q.1 + q.2.2.1) && xchi y q)
section XS
variable {p : Program} {l : Launch} {e : Env} {R : Room} {s : State} {m : MethodId} {args : Array Value} {below : List Frame} {meth : Method} {c : Code} {H : Heap} {locs : List Loc} {cells slots : Nat} {Q : State → Prop}
set_option maxRecDepth 100000 in
set_option maxHeartbeats 4000000 in
theorem xstep_W (hexec : p.tables.exec = Jvm.exec) {cc : ByteArray} (hb : c.code = cc) {y : MethodName} (hown : s.vm.findClass y.cls = some m.cls) (hw : ∀ (i : Nat) (w : Jvm.Cond), xwt i w = true → w.before args s = true)
    {q : XI} (hq : xchk y cc q = true) {nL : Nat} {lv lv' : XL} {st st' : List Value} {pc' : Nat} {ls : Array Slot} (hl : xLs nL lv ls) (hs : xstep q lv st = some (pc', lv', st'))
    (k : ∀ ls', xLs nL lv' ls' → W p l e R s m args below meth c H locs cells slots Q (F0 m pc' ls' st')) : W p l e R s m args below meth c H locs cells slots Q (F0 m q.1 ls st) := by
  obtain ⟨pc, i, len, nx, tg, cv, wi⟩ := q
  unfold xchk at hq
  rw [Bool.and_eq_true, Bool.and_eq_true] at hq
  obtain ⟨hd0, hn0, hi⟩ := hq
  have hd : decode cc pc = .ok (i, len) := of_decide_eq_true hd0
  have hn : nx = pc + len := Nat.eq_of_beq_eq_true hn0
  clear hd0 hn0
  subst hn
  show W p l e R s m args below meth c H locs cells slots Q (F0 m pc ls st)
  cases i
  case iconst n =>
    simp only [xchi, Bool.and_eq_true] at hi
    obtain ⟨hi, hc⟩ := hi
    obtain rfl := Nat.eq_of_beq_eq_true hi
    have hc := of_decide_eq_true hc
    subst hc
    simp only [xstep, Option.some.injEq, Prod.mk.injEq] at hs
    obtain ⟨rfl, rfl, rfl⟩ := hs
    exact lv_iconst hexec hb hd rfl (k ls hl)
  case bipush n =>
    simp only [xchi, Bool.and_eq_true] at hi
    obtain ⟨hi, hc⟩ := hi
    obtain rfl := Nat.eq_of_beq_eq_true hi
    have hc := of_decide_eq_true hc
    subst hc
    simp only [xstep, Option.some.injEq, Prod.mk.injEq] at hs
    obtain ⟨rfl, rfl, rfl⟩ := hs
    exact lv_bipush hexec hb hd rfl (k ls hl)
  case sipush n =>
    simp only [xchi, Bool.and_eq_true] at hi
    obtain ⟨hi, hc⟩ := hi
    obtain rfl := Nat.eq_of_beq_eq_true hi
    have hc := of_decide_eq_true hc
    subst hc
    simp only [xstep, Option.some.injEq, Prod.mk.injEq] at hs
    obtain ⟨rfl, rfl, rfl⟩ := hs
    exact lv_sipush hexec hb hd rfl (k ls hl)
  case lconst n =>
    simp only [xchi, Bool.and_eq_true] at hi
    obtain ⟨hi, hc⟩ := hi
    obtain rfl := Nat.eq_of_beq_eq_true hi
    have hc := of_decide_eq_true hc
    subst hc
    simp only [xstep, Option.some.injEq, Prod.mk.injEq] at hs
    obtain ⟨rfl, rfl, rfl⟩ := hs
    exact lv_lconst hexec hb hd rfl (k ls hl)
  case aconst_null =>
    simp only [xchi, Bool.and_eq_true] at hi
    obtain ⟨hi, hc⟩ := hi
    obtain rfl := Nat.eq_of_beq_eq_true hi
    have hc := of_decide_eq_true hc
    subst hc
    simp only [xstep, Option.some.injEq, Prod.mk.injEq] at hs
    obtain ⟨rfl, rfl, rfl⟩ := hs
    exact lv_null hexec hb hd (k ls hl)
  case ldc n =>
    simp only [xchi, Bool.and_eq_true] at hi
    obtain ⟨hi, hc⟩ := hi
    obtain rfl := Nat.eq_of_beq_eq_true hi
    cases cv
    case int v =>
      simp only [xstep, Option.some.injEq, Prod.mk.injEq] at hs
      obtain ⟨rfl, rfl, rfl⟩ := hs
      exact lv_ldc hexec hb hown (hw _ _ hc) hd (k ls hl)
    all_goals cases hs
  case ldc_w n =>
    simp only [xchi, Bool.and_eq_true] at hi
    obtain ⟨hi, hc⟩ := hi
    obtain rfl := Nat.eq_of_beq_eq_true hi
    cases cv
    case int v =>
      simp only [xstep, Option.some.injEq, Prod.mk.injEq] at hs
      obtain ⟨rfl, rfl, rfl⟩ := hs
      exact lv_ldcw hexec hb hown (hw _ _ hc) hd (k ls hl)
    all_goals cases hs
  case ldc2_w n =>
    simp only [xchi, Bool.and_eq_true] at hi
    obtain ⟨hi, hc⟩ := hi
    obtain rfl := Nat.eq_of_beq_eq_true hi
    cases cv
    case long v =>
      simp only [xstep, Option.some.injEq, Prod.mk.injEq] at hs
      obtain ⟨rfl, rfl, rfl⟩ := hs
      exact lv_ldc2 hexec hb hown (hw _ _ hc) hd (k ls hl)
    all_goals cases hs
  case iload j =>
    obtain rfl := Nat.eq_of_beq_eq_true hi
    simp only [xstep] at hs
    obtain ⟨v, hv, hs⟩ := xLd_inv hs
    cases v
    case int x =>
      simp only [Option.some.injEq, Prod.mk.injEq] at hs
      obtain ⟨rfl, rfl, rfl⟩ := hs
      exact lv_iload hexec hb hd (hl.2.2.2 _ _ hv) (k ls hl)
    all_goals cases hs
  case iload_n j =>
    obtain rfl := Nat.eq_of_beq_eq_true hi
    simp only [xstep] at hs
    obtain ⟨v, hv, hs⟩ := xLd_inv hs
    cases v
    case int x =>
      simp only [Option.some.injEq, Prod.mk.injEq] at hs
      obtain ⟨rfl, rfl, rfl⟩ := hs
      exact lv_iload_n hexec hb hd rfl (hl.2.2.2 _ _ hv) (k ls hl)
    all_goals cases hs
  case lload j =>
    obtain rfl := Nat.eq_of_beq_eq_true hi
    simp only [xstep] at hs
    obtain ⟨v, hv, hs⟩ := xLd_inv hs
    cases v
    case long x =>
      simp only [Option.some.injEq, Prod.mk.injEq] at hs
      obtain ⟨rfl, rfl, rfl⟩ := hs
      exact lv_lload hexec hb hd (hl.2.2.2 _ _ hv) (k ls hl)
    all_goals cases hs
  case lload_n j =>
    obtain rfl := Nat.eq_of_beq_eq_true hi
    simp only [xstep] at hs
    obtain ⟨v, hv, hs⟩ := xLd_inv hs
    cases v
    case long x =>
      simp only [Option.some.injEq, Prod.mk.injEq] at hs
      obtain ⟨rfl, rfl, rfl⟩ := hs
      exact lv_lload_n hexec hb hd rfl (hl.2.2.2 _ _ hv) (k ls hl)
    all_goals cases hs
  case aload j =>
    obtain rfl := Nat.eq_of_beq_eq_true hi
    simp only [xstep] at hs
    obtain ⟨v, hv, hs⟩ := xLd_inv hs
    cases v
    case ref x =>
      simp only [Option.some.injEq, Prod.mk.injEq] at hs
      obtain ⟨rfl, rfl, rfl⟩ := hs
      exact lv_aload hexec hb hd (hl.2.2.2 _ _ hv) (k ls hl)
    case null =>
      simp only [Option.some.injEq, Prod.mk.injEq] at hs
      obtain ⟨rfl, rfl, rfl⟩ := hs
      exact lv_aloadN hexec hb hd (hl.2.2.2 _ _ hv) (k ls hl)
    all_goals cases hs
  case aload_n j =>
    obtain rfl := Nat.eq_of_beq_eq_true hi
    simp only [xstep] at hs
    obtain ⟨v, hv, hs⟩ := xLd_inv hs
    cases v
    case ref x =>
      simp only [Option.some.injEq, Prod.mk.injEq] at hs
      obtain ⟨rfl, rfl, rfl⟩ := hs
      exact lv_aload_n hexec hb hd rfl (hl.2.2.2 _ _ hv) (k ls hl)
    case null =>
      simp only [Option.some.injEq, Prod.mk.injEq] at hs
      obtain ⟨rfl, rfl, rfl⟩ := hs
      exact lv_aload_nN hexec hb hd rfl (hl.2.2.2 _ _ hv) (k ls hl)
    all_goals cases hs
  case istore j =>
    obtain rfl := Nat.eq_of_beq_eq_true hi
    simp only [xstep] at hs
    obtain ⟨x, r, rfl, hs⟩ := xI1_inv hs
    obtain ⟨hlt, hs⟩ := xbif hs
    simp only [Option.some.injEq, Prod.mk.injEq] at hs
    obtain ⟨rfl, rfl, rfl⟩ := hs
    exact lv_istore hexec hb hd hl.has (by rw [← hl.1]; exact Nat.le_of_ble_eq_true hlt) rfl (fun ls' h' => k ls' (xLs.sto1 hl.1 h'))
  case istore_n j =>
    obtain rfl := Nat.eq_of_beq_eq_true hi
    simp only [xstep] at hs
    obtain ⟨x, r, rfl, hs⟩ := xI1_inv hs
    obtain ⟨hlt, hs⟩ := xbif hs
    simp only [Option.some.injEq, Prod.mk.injEq] at hs
    obtain ⟨rfl, rfl, rfl⟩ := hs
    exact lv_istore_n hexec hb hd rfl hl.has (by rw [← hl.1]; exact Nat.le_of_ble_eq_true hlt) rfl (fun ls' h' => k ls' (xLs.sto1 hl.1 h'))
  case lstore j =>
    obtain rfl := Nat.eq_of_beq_eq_true hi
    simp only [xstep] at hs
    obtain ⟨x, r, rfl, hs⟩ := xL1_inv hs
    obtain ⟨hlt, hs⟩ := xbif hs
    simp only [Option.some.injEq, Prod.mk.injEq] at hs
    obtain ⟨rfl, rfl, rfl⟩ := hs
    exact lv_lstore hexec hb hd hl.has (by rw [← hl.1]; exact Nat.le_of_ble_eq_true hlt) rfl (fun ls' h' => k ls' (xLs.sto2 hl.1 h'))
  case lstore_n j =>
    obtain rfl := Nat.eq_of_beq_eq_true hi
    simp only [xstep] at hs
    obtain ⟨x, r, rfl, hs⟩ := xL1_inv hs
    obtain ⟨hlt, hs⟩ := xbif hs
    simp only [Option.some.injEq, Prod.mk.injEq] at hs
    obtain ⟨rfl, rfl, rfl⟩ := hs
    exact lv_lstore_n hexec hb hd rfl hl.has (by rw [← hl.1]; exact Nat.le_of_ble_eq_true hlt) rfl (fun ls' h' => k ls' (xLs.sto2 hl.1 h'))
  case astore j =>
    obtain rfl := Nat.eq_of_beq_eq_true hi
    simp only [xstep] at hs
    obtain ⟨r, ⟨a, rfl, hs⟩ | ⟨rfl, hs⟩⟩ := xA1_inv hs
    · obtain ⟨hlt, hs⟩ := xbif hs
      simp only [Option.some.injEq, Prod.mk.injEq] at hs
      obtain ⟨rfl, rfl, rfl⟩ := hs
      exact lv_astore hexec hb hd hl.has (by rw [← hl.1]; exact Nat.le_of_ble_eq_true hlt) rfl (fun ls' h' => k ls' (xLs.sto1 hl.1 h'))
    · obtain ⟨hlt, hs⟩ := xbif hs
      simp only [Option.some.injEq, Prod.mk.injEq] at hs
      obtain ⟨rfl, rfl, rfl⟩ := hs
      exact lv_astoreN hexec hb hd hl.has (by rw [← hl.1]; exact Nat.le_of_ble_eq_true hlt) rfl (fun ls' h' => k ls' (xLs.sto1 hl.1 h'))
  case astore_n j =>
    obtain rfl := Nat.eq_of_beq_eq_true hi
    simp only [xstep] at hs
    obtain ⟨r, ⟨a, rfl, hs⟩ | ⟨rfl, hs⟩⟩ := xA1_inv hs
    · obtain ⟨hlt, hs⟩ := xbif hs
      simp only [Option.some.injEq, Prod.mk.injEq] at hs
      obtain ⟨rfl, rfl, rfl⟩ := hs
      exact lv_astore_n hexec hb hd rfl hl.has (by rw [← hl.1]; exact Nat.le_of_ble_eq_true hlt) rfl (fun ls' h' => k ls' (xLs.sto1 hl.1 h'))
    · obtain ⟨hlt, hs⟩ := xbif hs
      simp only [Option.some.injEq, Prod.mk.injEq] at hs
      obtain ⟨rfl, rfl, rfl⟩ := hs
      exact lv_astore_nN hexec hb hd rfl hl.has (by rw [← hl.1]; exact Nat.le_of_ble_eq_true hlt) rfl (fun ls' h' => k ls' (xLs.sto1 hl.1 h'))
  case iinc j n =>
    simp only [xchi, Bool.and_eq_true] at hi
    obtain ⟨hi, hc⟩ := hi
    obtain rfl := Nat.eq_of_beq_eq_true hi
    have hc := of_decide_eq_true hc
    subst hc
    simp only [xstep] at hs
    obtain ⟨v, hv, hs⟩ := xLd_inv hs
    cases v
    case int x =>
      obtain ⟨hlt, hs⟩ := xbif hs
      simp only [Option.some.injEq, Prod.mk.injEq] at hs
      obtain ⟨rfl, rfl, rfl⟩ := hs
      obtain ⟨z, hz⟩ := List.getElem?_of_mem (xasc_mem.mpr hv)
      exact lv_iinc hexec hb hd hl.has hz rfl (by rw [← hl.1]; exact Nat.le_of_ble_eq_true hlt) rfl (fun ls' h' => k ls' (xLs.sto1 hl.1 h'))
    all_goals cases hs
  case iadd =>
    obtain rfl := Nat.eq_of_beq_eq_true hi
    simp only [xstep] at hs
    obtain ⟨x, y, r, rfl, hz⟩ := xI2_inv hs
    simp only [Option.some.injEq, Prod.mk.injEq] at hz
    obtain ⟨rfl, rfl, rfl⟩ := hz
    exact lv_iadd hexec hb hd (k ls hl)
  case isub =>
    obtain rfl := Nat.eq_of_beq_eq_true hi
    simp only [xstep] at hs
    obtain ⟨x, y, r, rfl, hz⟩ := xI2_inv hs
    simp only [Option.some.injEq, Prod.mk.injEq] at hz
    obtain ⟨rfl, rfl, rfl⟩ := hz
    exact lv_isub hexec hb hd (k ls hl)
  case imul =>
    obtain rfl := Nat.eq_of_beq_eq_true hi
    simp only [xstep] at hs
    obtain ⟨x, y, r, rfl, hz⟩ := xI2_inv hs
    simp only [Option.some.injEq, Prod.mk.injEq] at hz
    obtain ⟨rfl, rfl, rfl⟩ := hz
    exact lv_imul hexec hb hd (k ls hl)
  case iand =>
    obtain rfl := Nat.eq_of_beq_eq_true hi
    simp only [xstep] at hs
    obtain ⟨x, y, r, rfl, hz⟩ := xI2_inv hs
    simp only [Option.some.injEq, Prod.mk.injEq] at hz
    obtain ⟨rfl, rfl, rfl⟩ := hz
    exact lv_iand hexec hb hd (k ls hl)
  case ior =>
    obtain rfl := Nat.eq_of_beq_eq_true hi
    simp only [xstep] at hs
    obtain ⟨x, y, r, rfl, hz⟩ := xI2_inv hs
    simp only [Option.some.injEq, Prod.mk.injEq] at hz
    obtain ⟨rfl, rfl, rfl⟩ := hz
    exact lv_ior hexec hb hd (k ls hl)
  case ixor =>
    obtain rfl := Nat.eq_of_beq_eq_true hi
    simp only [xstep] at hs
    obtain ⟨x, y, r, rfl, hz⟩ := xI2_inv hs
    simp only [Option.some.injEq, Prod.mk.injEq] at hz
    obtain ⟨rfl, rfl, rfl⟩ := hz
    exact lv_ixor hexec hb hd (k ls hl)
  case ishl =>
    obtain rfl := Nat.eq_of_beq_eq_true hi
    simp only [xstep] at hs
    obtain ⟨x, y, r, rfl, hz⟩ := xI2_inv hs
    simp only [Option.some.injEq, Prod.mk.injEq] at hz
    obtain ⟨rfl, rfl, rfl⟩ := hz
    exact lv_ishl hexec hb hd (k ls hl)
  case ishr =>
    obtain rfl := Nat.eq_of_beq_eq_true hi
    simp only [xstep] at hs
    obtain ⟨x, y, r, rfl, hz⟩ := xI2_inv hs
    simp only [Option.some.injEq, Prod.mk.injEq] at hz
    obtain ⟨rfl, rfl, rfl⟩ := hz
    exact lv_ishr hexec hb hd (k ls hl)
  case iushr =>
    obtain rfl := Nat.eq_of_beq_eq_true hi
    simp only [xstep] at hs
    obtain ⟨x, y, r, rfl, hz⟩ := xI2_inv hs
    simp only [Option.some.injEq, Prod.mk.injEq] at hz
    obtain ⟨rfl, rfl, rfl⟩ := hz
    exact lv_iushr hexec hb hd rfl (k ls hl)
  case ladd =>
    obtain rfl := Nat.eq_of_beq_eq_true hi
    simp only [xstep] at hs
    obtain ⟨x, y, r, rfl, hz⟩ := xL2_inv hs
    simp only [Option.some.injEq, Prod.mk.injEq] at hz
    obtain ⟨rfl, rfl, rfl⟩ := hz
    exact lv_ladd hexec hb hd (k ls hl)
  case lsub =>
    obtain rfl := Nat.eq_of_beq_eq_true hi
    simp only [xstep] at hs
    obtain ⟨x, y, r, rfl, hz⟩ := xL2_inv hs
    simp only [Option.some.injEq, Prod.mk.injEq] at hz
    obtain ⟨rfl, rfl, rfl⟩ := hz
    exact lv_lsub hexec hb hd (k ls hl)
  case lmul =>
    obtain rfl := Nat.eq_of_beq_eq_true hi
    simp only [xstep] at hs
    obtain ⟨x, y, r, rfl, hz⟩ := xL2_inv hs
    simp only [Option.some.injEq, Prod.mk.injEq] at hz
    obtain ⟨rfl, rfl, rfl⟩ := hz
    exact lv_lmul hexec hb hd (k ls hl)
  case land =>
    obtain rfl := Nat.eq_of_beq_eq_true hi
    simp only [xstep] at hs
    obtain ⟨x, y, r, rfl, hz⟩ := xL2_inv hs
    simp only [Option.some.injEq, Prod.mk.injEq] at hz
    obtain ⟨rfl, rfl, rfl⟩ := hz
    exact lv_land hexec hb hd (k ls hl)
  case lor =>
    obtain rfl := Nat.eq_of_beq_eq_true hi
    simp only [xstep] at hs
    obtain ⟨x, y, r, rfl, hz⟩ := xL2_inv hs
    simp only [Option.some.injEq, Prod.mk.injEq] at hz
    obtain ⟨rfl, rfl, rfl⟩ := hz
    exact lv_lor hexec hb hd (k ls hl)
  case lxor =>
    obtain rfl := Nat.eq_of_beq_eq_true hi
    simp only [xstep] at hs
    obtain ⟨x, y, r, rfl, hz⟩ := xL2_inv hs
    simp only [Option.some.injEq, Prod.mk.injEq] at hz
    obtain ⟨rfl, rfl, rfl⟩ := hz
    exact lv_lxor hexec hb hd (k ls hl)
  case lshl =>
    obtain rfl := Nat.eq_of_beq_eq_true hi
    simp only [xstep] at hs
    obtain ⟨x, y, r, rfl, hz⟩ := xLI_inv hs
    simp only [Option.some.injEq, Prod.mk.injEq] at hz
    obtain ⟨rfl, rfl, rfl⟩ := hz
    exact lv_lshl hexec hb hd rfl (k ls hl)
  case lshr =>
    obtain rfl := Nat.eq_of_beq_eq_true hi
    simp only [xstep] at hs
    obtain ⟨x, y, r, rfl, hz⟩ := xLI_inv hs
    simp only [Option.some.injEq, Prod.mk.injEq] at hz
    obtain ⟨rfl, rfl, rfl⟩ := hz
    exact lv_lshr hexec hb hd rfl (k ls hl)
  case lushr =>
    obtain rfl := Nat.eq_of_beq_eq_true hi
    simp only [xstep] at hs
    obtain ⟨x, y, r, rfl, hz⟩ := xLI_inv hs
    simp only [Option.some.injEq, Prod.mk.injEq] at hz
    obtain ⟨rfl, rfl, rfl⟩ := hz
    exact lv_lushr hexec hb hd rfl (k ls hl)
  case ineg =>
    obtain rfl := Nat.eq_of_beq_eq_true hi
    simp only [xstep] at hs
    obtain ⟨x, r, rfl, hz⟩ := xI1_inv hs
    simp only [Option.some.injEq, Prod.mk.injEq] at hz
    obtain ⟨rfl, rfl, rfl⟩ := hz
    exact lv_ineg hexec hb hd (k ls hl)
  case i2l =>
    obtain rfl := Nat.eq_of_beq_eq_true hi
    simp only [xstep] at hs
    obtain ⟨x, r, rfl, hz⟩ := xI1_inv hs
    simp only [Option.some.injEq, Prod.mk.injEq] at hz
    obtain ⟨rfl, rfl, rfl⟩ := hz
    exact lv_i2l hexec hb hd rfl (k ls hl)
  case l2i =>
    obtain rfl := Nat.eq_of_beq_eq_true hi
    simp only [xstep] at hs
    obtain ⟨x, r, rfl, hz⟩ := xL1_inv hs
    simp only [Option.some.injEq, Prod.mk.injEq] at hz
    obtain ⟨rfl, rfl, rfl⟩ := hz
    exact lv_l2i hexec hb hd rfl (k ls hl)
  case lcmp =>
    obtain rfl := Nat.eq_of_beq_eq_true hi
    simp only [xstep] at hs
    obtain ⟨x, y, r, rfl, hz⟩ := xL2_inv hs
    simp only [Option.some.injEq, Prod.mk.injEq] at hz
    obtain ⟨rfl, rfl, rfl⟩ := hz
    exact W.lcmp hexec hb hd (k ls hl)
  case dup =>
    obtain rfl := Nat.eq_of_beq_eq_true hi
    simp only [xstep] at hs
    obtain ⟨v, r, rfl, hv, hz⟩ := xV1_inv hs
    simp only [Option.some.injEq, Prod.mk.injEq] at hz
    obtain ⟨rfl, rfl, rfl⟩ := hz
    exact lv_dup hexec hb hd hv (k ls hl)
  case pop =>
    obtain rfl := Nat.eq_of_beq_eq_true hi
    simp only [xstep] at hs
    obtain ⟨v, r, rfl, hv, hz⟩ := xV1_inv hs
    simp only [Option.some.injEq, Prod.mk.injEq] at hz
    obtain ⟨rfl, rfl, rfl⟩ := hz
    exact lv_pop hexec hb hd hv (k ls hl)
  case dup_x1 =>
    obtain rfl := Nat.eq_of_beq_eq_true hi
    simp only [xstep] at hs
    obtain ⟨v, w, r, rfl, hv, hw2, hz⟩ := xV2_inv hs
    simp only [Option.some.injEq, Prod.mk.injEq] at hz
    obtain ⟨rfl, rfl, rfl⟩ := hz
    exact lv_dup_x1 hexec hb hd hv hw2 (k ls hl)
  case dup2 =>
    obtain rfl := Nat.eq_of_beq_eq_true hi
    simp only [xstep] at hs
    obtain ⟨v, w, r, rfl, hv, hw2, hz⟩ := xV2_inv hs
    simp only [Option.some.injEq, Prod.mk.injEq] at hz
    obtain ⟨rfl, rfl, rfl⟩ := hz
    exact lv_dup2_11 hexec hb hd hv hw2 (k ls hl)
  case dup_x2 =>
    obtain rfl := Nat.eq_of_beq_eq_true hi
    simp only [xstep] at hs
    obtain ⟨v, w, u, r, rfl, hv, hw2, hu, hz⟩ := xV3_inv hs
    simp only [Option.some.injEq, Prod.mk.injEq] at hz
    obtain ⟨rfl, rfl, rfl⟩ := hz
    exact lv_dup_x2 hexec hb hd hv hw2 hu (k ls hl)
  case goto off =>
    simp only [xchi, Bool.and_eq_true] at hi
    obtain ⟨hi, hc⟩ := hi
    obtain rfl := Nat.eq_of_beq_eq_true hi
    have hc := of_decide_eq_true hc
    simp only [xstep, Option.some.injEq, Prod.mk.injEq] at hs
    obtain ⟨rfl, rfl, rfl⟩ := hs
    exact lv_goto hexec hb hd hc (k ls hl)
  all_goals exact absurd hs (by simp [xstep])
end XS
end
section
/- Part 04: the judgement. -/
def xCmax : Nat := 601024
def xSmax : Nat := 7293034
def xOK (M : XM) : Bool := plainName M.1.cls && (decide (M.1.cls ≠ "java/lang/invoke/MethodHandle" ∧ M.1.cls ≠ "java/lang/invoke/VarHandle") && M.2.2.2.2.2.all (xchk M.1 M.2.1))
/-- a word that stays true as the tables warm, by the library's own word or by one of its own -/
def xgw (w : Jvm.Cond) : Bool := goodWord w || (match w with
  | .castable _ _ => true
  | .declares _ => true
  | .methodLinkNest _ _ _ _ => true
  | .arrayOver (.object _) => true
  | _ => false)
def xW (w : Jvm.Cond) : Prop := w ∈ lw_tbl ∧ xgw w = true
def xWS (s : State) : Prop := ∀ w : Jvm.Cond, xW w → ∀ args : Array Value, w.before args s = true
theorem xgw_move {s U : State} {w : Jvm.Cond} (hg : xgw w = true) (hW : s.WarmedH U.vm) (h : w.before #[] s = true) (a : Array Value) : w.before a U = true := by
  unfold xgw at hg
  rw [Bool.or_eq_true] at hg
  rcases hg with hg | hg
  · exact word_at hW (good_of_word hg) h
  · split at hg
    · exact va_Nw.use rfl (va_Nw.warmC hW h)
    · exact va_Nw.use rfl (va_Nw.warmD hW h)
    · exact va_Nw.use rfl (va_Nw.warmM hW h)
    · exact va_AO.use (va_AO.moved hW.alike (va_AO.of h))
    · cases hg
theorem xWS.moved {s U : State} (h : xWS s) (hW : s.WarmedH U.vm) : xWS U := fun w h1 a => xgw_move h1.2 hW (h w h1 #[]) a
theorem xW_tab {i : Nat} {w : Jvm.Cond} (h : tables_1[i]? = some w) (hg : xgw w = true) : xW w := ⟨List.mem_append_right _ (List.mem_of_getElem? h), hg⟩
theorem xW_sel {i : Nat} {w : Jvm.Cond} (h : (k2_sels lw_privs)[i]? = some w) (hg : xgw w = true) : xW w := ⟨List.mem_append_left _ (List.mem_of_getElem? h), hg⟩
theorem xwt_W {i : Nat} {w : Jvm.Cond} (h : xwt i w = true) : xW w := by
  unfold xwt at h
  rw [Bool.and_eq_true] at h
  exact xW_tab (of_decide_eq_true h.1) (by unfold xgw; rw [h.2]; rfl)
def xstrs : List (Nat × String) := [(287, "there is no such thing"), (290, "a number is not as said"), (294, "it can't be done as things are"), (172, "no such what")]
def xncs : List (String × String) := [("java/lang/IllegalArgumentException", "java/lang/IndexOutOfBoundsException"), ("java/lang/IllegalStateException", "java/lang/IndexOutOfBoundsException"), ("java/lang/IllegalStateException", "java/lang/IllegalArgumentException"), ("java/lang/IllegalArgumentException", "java/lang/IllegalStateException"), ("java/lang/IndexOutOfBoundsException", "java/lang/IllegalArgumentException"), ("java/lang/IndexOutOfBoundsException", "java/lang/IllegalStateException")]
/-- the class's texts are resolved; which exceptions are not which -/
def xWd (s : State) : Prop := (∀ q ∈ xstrs, ∃ sa : Nat, vk_R "ChannelNet" q.1 q.2 sa s) ∧ ∀ q ∈ xncs, va_Nc q.1 q.2 s
theorem xWd.moved {s U : State} (h : xWd s) (hW : s.WarmedH U.vm) : xWd U := ⟨fun q hq => (h.1 q hq).imp fun _ z => vk_R.warm hW z, fun q hq => (h.2 q hq).moved hW.alike⟩
def xCtx (D : va_G) (M : XM) (d : Nat) (p : Program) (l : Launch) (R : Room) (s : State) (m : MethodId) (meth : Method) (c : Code) : Prop :=
  p.tables.exec = Jvm.exec ∧ c.code = M.2.1 ∧ c.maxLocals = M.2.2.1 ∧ c.exceptionTable.toList = tableOf M.2.2.2.2.1 ∧ meth.locks = false ∧ meth.sig.returnType = M.2.2.2.1 ∧ meth.name = M.1.name ∧
  s.vm.findClass M.1.cls = some m.cls ∧ xWS s ∧ va_K D xcl [] s ∧ d ≤ R.frames ∧ d * 64 ≤ R.locals ∧ xOK M = true ∧ l.flags = pinnedFlags ++ [noTraceFlag] ∧ xWd s
def xro (c : XC) : Bool := match c with
  | .inl q => q.1
  | .inr _ => false
def xAt (D : va_G) (s : State) (a : Nat) (c : XC) (H : Heap) : Prop := match c with
  | .inl q => ∃ cA : ClassId, H[a]? = some (vp_cell cA q.2.2) ∧ ArrOfT s cA q.2.1 ∧ va_RA s cA q.2.1
  | .inr q => va_at D xcl (a, .inr q) H
/-- what the start's heap holds of the JDK's statics: cells older than N0, so unchanged -/
def xZs (N0 : Nat) (s : State) (H : Heap) : Prop := vx_Zq Bundle.tN "UNASSIGNED_STACK" Bundle.steD (fun q => N0 ≤ q) s H ∧ vx_Zq Bundle.tN "SUPPRESSED_SENTINEL" Bundle.listD (fun q => N0 ≤ q) s H
theorem xZs.moved {N0 : Nat} {u U : State} {H : Heap} (hal : u.vm.Alike U.vm) (h : xZs N0 u H) : xZs N0 U H := ⟨h.1.moved hal, h.2.moved hal⟩
theorem xZs.kept {N0 : Nat} {s : State} {H H1 : Heap} (h : xZs N0 s H) (ho : ∀ q : Nat, q < H.size → q < N0 → H1[q]? = H[q]?) : xZs N0 s H1 := ⟨h.1.kept (fun a h1 h2 => ho a h1 (Nat.not_le.mp h2)), h.2.kept (fun a h1 h2 => ho a h1 (Nat.not_le.mp h2))⟩
def xHp (D : va_G) (s : State) (N0 : Nat) (h : XH) (H : Heap) : Prop := H.size = h.1 ∧ (∀ (a : Nat) (c : XC), xget h a = some c → xAt D s a c H ∧ (xro c = false → N0 ≤ a)) ∧ N0 ≤ h.1 ∧ xZs N0 s H
def xRm (N0 : Nat) (R : Room) (h : XH) (locs : List Loc) (cells slots : Nat) : Prop :=
  (∀ q ∈ locs, N0 ≤ q.base) ∧ cells ≤ R.cells ∧ slots ≤ R.slots ∧ xCmax + cells ≤ R.cells + h.2.1 ∧ xSmax + slots ≤ R.slots + h.2.2.1
def xEnd (D : va_G) (N0 : Nat) (R : Room) (s : State) (below : List Frame) (Q : Outcome → XH → Prop) : State → Prop := fun t =>
  ∃ (o : Outcome) (h : XH) (L : List Loc) (k n : Nat), t.status = .running ∧ Ended t below o ∧ s.WarmedH t.vm ∧ s.sameButNew ({ t with vm := s.vm } : State) L k n ∧ xHp D s N0 h t.heap ∧ xRm N0 R h L k n ∧ Q o h
def xV (D : va_G) (N0 : Nat) (M : XM) (d pc : Nat) (lv : XL) (st : List Value) (h : XH) (Q : Outcome → XH → Prop) : Prop :=
  ∀ (p : Program) (l : Launch) (e : Env) (R : Room) (s : State) (m : MethodId) (args : Array Value) (below : List Frame) (meth : Method) (c : Code) (H : Heap) (locs : List Loc) (cells slots : Nat) (ls : Array Slot),
    xCtx D M d p l R s m meth c → xHp D s N0 h H → xRm N0 R h locs cells slots → xLs M.2.2.1 lv ls → W p l e R s m args below meth c H locs cells slots (xEnd D N0 R s below Q) (F0 m pc ls st)
/-- the same, where the object a is being thrown -/
def xT (D : va_G) (N0 : Nat) (M : XM) (d pc : Nat) (lv : XL) (a : Nat) (h : XH) (Q : Outcome → XH → Prop) : Prop :=
  ∀ (p : Program) (l : Launch) (e : Env) (R : Room) (s : State) (m : MethodId) (args : Array Value) (below : List Frame) (meth : Method) (c : Code) (T : State) (locs : List Loc) (cells slots : Nat) (ls : Array Slot) (st : List Value),
    xCtx D M d p l R s m meth c → xHp D s N0 h T.heap → xRm N0 R h locs cells slots → xLs M.2.2.1 lv ls → Stand p l e R s m args below meth c T locs cells slots →
    ∃ t, Steps p.tables e below ((T.setTop (F0 m pc ls st)).pushFrame (.throwing a)) t ∧ xEnd D N0 R s below Q t
def xgo (M : XM) (pc : Nat) (lv : XL) (st : List Value) : Option (Nat × XL × List Value) := match xlook M.2.2.2.2.2 pc with
  | some q => xstep q lv st
  | none => none
theorem xlook_spec {tab : List XI} {pc : Nat} {q : XI} (h : xlook tab pc = some q) : q ∈ tab ∧ q.1 = pc := by
  induction tab with
  | nil => cases h
  | cons e t ih =>
    unfold xlook at h
    cases hb : Nat.beq e.1 pc with
    | true =>
      rw [hb] at h
      cases h
      exact ⟨List.mem_cons_self, Nat.eq_of_beq_eq_true hb⟩
    | false =>
      rw [hb] at h
      obtain ⟨h1, h2⟩ := ih h
      exact ⟨List.mem_cons_of_mem _ h1, h2⟩
theorem xOK_at {M : XM} (h : xOK M = true) {pc : Nat} {q : XI} (hq : xlook M.2.2.2.2.2 pc = some q) : xchk M.1 M.2.1 q = true ∧ q.1 = pc := by
  unfold xOK at h
  rw [Bool.and_eq_true, Bool.and_eq_true] at h
  obtain ⟨h1, h2⟩ := xlook_spec hq
  exact ⟨List.all_eq_true.mp h.2.2 q h1, h2⟩
section XV
variable {D : va_G} {N0 : Nat} {M : XM} {d pc : Nat} {lv : XL} {st : List Value} {h : XH} {Q : Outcome → XH → Prop}
theorem xV.step {pc' : Nat} {lv' : XL} {st' : List Value} (hs : xgo M pc lv st = some (pc', lv', st')) (k : xV D N0 M d pc' lv' st' h Q) : xV D N0 M d pc lv st h Q := by
  intro p l e R s m args below meth c H locs cells slots ls C hH hR hL
  unfold xgo at hs
  cases hq : xlook M.2.2.2.2.2 pc with
  | none => rw [hq] at hs; cases hs
  | some q =>
    rw [hq] at hs
    obtain ⟨hk, rfl⟩ := xOK_at C.2.2.2.2.2.2.2.2.2.2.2.2.1 hq
    exact xstep_W C.1 C.2.1 C.2.2.2.2.2.2.2.1 (fun i w h1 => C.2.2.2.2.2.2.2.2.1 w (xwt_W h1) args) hk hL hs (fun ls' hl' => k p l e R s m args below meth c H locs cells slots ls' C hH hR hl')
theorem xV.mono {Q' : Outcome → XH → Prop} (hq : ∀ o u, Q' o u → Q o u) (k : xV D N0 M d pc lv st h Q') : xV D N0 M d pc lv st h Q := by
  intro p l e R s m args below meth c H locs cells slots ls C hH hR hL T hT X
  obtain ⟨t, h1, o, u, L, k1, n1, e1, e2, e3, e4, e5, e6, e7⟩ := k p l e R s m args below meth c H locs cells slots ls C hH hR hL T hT X
  exact ⟨t, h1, o, u, L, k1, n1, e1, e2, e3, e4, e5, e6, hq _ _ e7⟩
theorem xHp.lt {s : State} {H : Heap} (hH : xHp D s N0 h H) {a : Nat} {c : XC} (ha : xget h a = some c) : a < h.1 := by
  rw [← hH.1]
  obtain ⟨h1, -⟩ := hH.2.1 a c ha
  cases c with
  | inl q =>
    obtain ⟨cA, h2, -⟩ := h1
    exact (Array.getElem?_eq_some_iff.mp h2).1
  | inr q =>
    obtain ⟨r, -, cell, h2, -⟩ := h1
    exact (Array.getElem?_eq_some_iff.mp h2).1
theorem xV.wf (k : (∀ (a : Nat) (c : XC), xget h a = some c → a < h.1) → xV D N0 M d pc lv st h Q) : xV D N0 M d pc lv st h Q := by
  intro p l e R s m args below meth c H locs cells slots ls C hH hR hL
  exact k (fun a c ha => hH.lt ha) p l e R s m args below meth c H locs cells slots ls C hH hR hL
end XV
end
section
/- Part 05: calls, throws, returns. -/
def xargs (nL : Nat) (as : List Value) : XL := (lv_args 0 as).foldl (fun lv q => xupd lv q.1 (some q.2)) (List.replicate nL none)
theorem xargs_len (l : List (Nat × Value)) (lv : XL) : (l.foldl (fun lv q => xupd lv q.1 (some q.2)) lv).length = lv.length := by
  induction l generalizing lv with
  | nil => rfl
  | cons q t ih => rw [List.foldl_cons, ih, xlen_upd]
theorem xargs_nth (l : List (Nat × Value)) (lv : XL) {j : Nat} {w : Value} (h : xnth (l.foldl (fun lv q => xupd lv q.1 (some q.2)) lv) j = some w) : (j, w) ∈ l ∨ xnth lv j = some w := by
  induction l generalizing lv with
  | nil => exact Or.inr h
  | cons q t ih =>
    rw [List.foldl_cons] at h
    rcases ih _ h with h1 | h1
    · exact Or.inl (List.mem_cons_of_mem _ h1)
    · rw [xnth_upd] at h1
      by_cases hq : q.1 = j
      · rw [if_pos hq] at h1
        split at h1
        · cases h1
          subst hq
          exact Or.inl List.mem_cons_self
        · cases h1
      · rw [if_neg hq] at h1
        exact Or.inr h1
theorem xnth_rep (n j : Nat) : xnth (List.replicate n none) j = none := by
  induction n generalizing j with
  | zero => rfl
  | succ n ih =>
    cases j with
    | zero => rfl
    | succ j => exact ih j
theorem xLs_args {nL : Nat} (as : List Value) (hn : (lg_sl as).length ≤ nL) : xLs nL (xargs nL as) ((lg_sl as ++ List.replicate (nL - (lg_sl as).length) Slot.unset).toArray) := by
  obtain ⟨h1, h2, h3⟩ := lv_entry as hn
  refine ⟨by rw [xargs, xargs_len, List.length_replicate], h1, h2, fun j w hj => ?_⟩
  rcases xargs_nth _ _ hj with h4 | h4
  · exact h3 (j, w) h4
  · rw [xnth_rep] at h4; cases h4
def xcw (M : XM) : Jvm.Cond := match M.2.2.2.2.1 with
  | [] => .code M.1 M.2.1 M.2.2.1 M.2.2.2.1
  | hs => .codeWith M.1 M.2.1 M.2.2.1 M.2.2.2.1 hs
def xIs (M : XM) (s : State) (mk : MethodId) (meth : Method) (c : Code) : Prop :=
  s.methodNamed? M.1 = some mk ∧ s.vm.method? mk = some meth ∧ meth.code = some c ∧ c.code = M.2.1 ∧ c.maxLocals = M.2.2.1 ∧ c.exceptionTable.toList = tableOf M.2.2.2.2.1 ∧ meth.locks = false ∧ meth.sig.returnType = M.2.2.2.1 ∧ meth.name = M.1.name ∧ parseMethodDescriptor M.1.desc = some meth.sig
theorem xIs_of {M : XM} {args : Array Value} {s : State} (h : (xcw M).before args s = true) : ∃ mk meth c, xIs M s mk meth c := by
  unfold xcw at h
  split at h
  · rename_i hh
    obtain ⟨mk, hn⟩ := Cond.code_named h
    obtain ⟨meth, c, h1, h2, h3, h4, h5, h6, h7, h8⟩ := Cond.code_spec hn h
    refine ⟨mk, meth, c, hn, h1, h2, h3, h4, ?_, h6, h5, (name_of_methodNamed hn h1).1, h8⟩
    rw [hh]
    have h9 : c.exceptionTable.size = 0 := by simpa [Array.isEmpty] using h7
    exact List.eq_nil_of_length_eq_zero (by simpa using h9)
  · obtain ⟨mk, meth, c, hn, h1, h2, h3, h4, h5, h6, h7, h8⟩ := Cond.codeWith_spec h
    exact ⟨mk, meth, c, hn, h1, h2, h3, h4, by rw [← h5, table_eq], h7, h6, (name_of_methodNamed hn h1).1, h8⟩
section XC5
variable {D : va_G} {N0 : Nat} {M : XM} {d pc : Nat} {lv : XL} {st : List Value} {h : XH} {Q : Outcome → XH → Prop}
theorem xHp.moved {s U : State} {H : Heap} (hal : s.vm.Alike U.vm) (hH : xHp D s N0 h H) : xHp D U N0 h H := by
  refine ⟨hH.1, fun a c hc => ?_, hH.2.2.1, hH.2.2.2.moved hal⟩
  obtain ⟨h1, h2⟩ := hH.2.1 a c hc
  refine ⟨?_, h2⟩
  cases c with
  | inl q =>
    obtain ⟨cA, e1, e2, e3⟩ := h1
    exact ⟨cA, e1, arrOfT_moved hal e2, e3.moved hal⟩
  | inr q => exact h1
theorem xSteps_weaken {tb : Tables} {e : Env} {f : Frame} {below : List Frame} {s t : State} (hs : Steps tb e (f :: below) s t) : Steps tb e below s t := by
  obtain ⟨n, h1, h2⟩ := hs
  exact ⟨n, h1, fun k hk => Within.weaken (mid := [f]) (h2 k hk)⟩
set_option maxHeartbeats 4000000 in
theorem xcallW {M2 : XM} {rest as : List Value} {Q2 : Outcome → XH → Prop} {nx len : Nat} {ig : Instr} (hcon : xV D N0 M2 d 0 (xargs M2.2.2.1 as) [] h Q2)
    (kr : ∀ v u, Q2 (.returned v) u → xV D N0 M (d + 1) nx lv (v.toList ++ rest) u Q) (kt : ∀ a u, Q2 (.threw a) u → xT D N0 M (d + 1) pc lv a u Q)
    (hok2 : xOK M2 = true) (hsz : (lg_sl as).length ≤ M2.2.2.1) (hcat : (rest.map fun v => v.category).sum + (M2.2.2.1 + 11) ≤ 64)
    {p : Program} {l : Launch} {e : Env} {R : Room} {s : State} {m : MethodId} {args : Array Value} {below : List Frame} {meth : Method} {c : Code} {T : State} {locs : List Loc} {cells slots : Nat} {ls : Array Slot}
    (C : xCtx D M (d + 1) p l R s m meth c) (hH : xHp D s N0 h T.heap) (hR : xRm N0 R h locs cells slots) (hL : xLs M.2.2.1 lv ls) (X : Stand p l e R s m args below meth c T locs cells slots)
    (hdg : decode c.code pc = .ok (ig, len)) (hnx : nx = pc + len) {mk : MethodId} {methk : Method} {ck : Code} (hI : xIs M2 s mk methk ck) :
    ∃ t, Steps p.tables e below (doInvoke e (T.setTop (F0 m pc ls rest)) [] mk as.toArray).1 t ∧ xEnd D N0 R s below Q t := by
  obtain ⟨i1, i2, i3, i4, i5, i6, i7, i8, i9, i10⟩ := hI
  obtain ⟨c1, c2, c3, c4, c5, c6, c7, c8, c9, c10, c11, c12, c13, c14, c15⟩ := C
  obtain ⟨r1, r2, r3, r4, r5⟩ := hR
  have hmkT : T.vm.method? mk = some methk := by rw [X.warmed.alike.method?]; exact i2
  have hpl : T.plainMethod mk := by
    refine State.plainMethod.of_name ?_
    intro k hk
    obtain ⟨k', hk', hn⟩ := className_of_methodNamed (X.named i1)
    cases hk.symm.trans hk'
    rw [hn]
    unfold xOK at hok2
    rw [Bool.and_eq_true] at hok2
    exact hok2.1
  have hroomw : 2 * (F0 m pc ls rest).monitorRoom + ((F0 m pc ls rest).stack.map fun v => v.category).sum + (ck.maxLocals + 11) ≤ 64 := by
    show 2 * 0 + (rest.map fun v => v.category).sum + (ck.maxLocals + 11) ≤ 64
    rw [i5]; omega
  obtain ⟨Y, hdo⟩ := X.into (g := F0 m pc ls rest) rfl (by show ls.size = c.maxLocals; rw [c3]; exact hL.2.1) hdg as.toArray
    (R' := { frames := R.frames - 1, cells := R.cells - cells, slots := R.slots - slots, locals := R.locals - 64 }) hmkT i3 i7 hpl (by show R.frames - 1 + 1 ≤ R.frames; omega) (by show _ + (R.locals - 64) ≤ R.locals; omega) (by show cells + (R.cells - cells) ≤ R.cells; omega) (by show slots + (R.slots - slots) ≤ R.slots; omega)
  have hal : s.vm.Alike (T.calling (F0 m pc ls rest) mk as.toArray).vm := X.warmed.alike
  have hWs : s.WarmedH (T.calling (F0 m pc ls rest) mk as.toArray).vm := X.warmed
  have hfc : (T.calling (F0 m pc ls rest) mk as.toArray).vm.findClass M2.1.cls = some mk.cls := by
    have := findClass_of_methodNamed (X.named i1)
    exact this
  have hent : (entryFrame mk as.toArray ck.maxLocals) = F0 mk 0 ((lg_sl as ++ List.replicate (M2.2.2.1 - (lg_sl as).length) Slot.unset).toArray) [] := by
    rw [i5]
    exact lg_entry_eq mk as _
  obtain ⟨t, hst, o, u, L, k, n, e1, e2, e3, e4, e5, e6, e7⟩ := hcon p l e { frames := R.frames - 1, cells := R.cells - cells, slots := R.slots - slots, locals := R.locals - 64 } (T.calling (F0 m pc ls rest) mk as.toArray) mk as.toArray (.java (F0 m pc ls rest) :: below) methk ck T.heap [] 0 0 _
    ⟨c1, i4, i5, i6, i7, i8, i9, hfc, c9.moved hWs, c10.moved hal, by show d ≤ R.frames - 1; omega, by show d * 64 ≤ R.locals - 64; omega, hok2, c14, c15.moved hWs⟩ (hH.moved hal)
    ⟨fun q hq => (nomatch hq), Nat.zero_le _, Nat.zero_le _, by show xCmax + 0 ≤ R.cells - cells + h.2.1; omega, by show xSmax + 0 ≤ R.slots - slots + h.2.2.1; omega⟩ (xLs_args as hsz) ((T.setTop (F0 m pc ls rest)).pushFrame (.java (entryFrame mk as.toArray ck.maxLocals))) rfl Y
  rw [hdo [], hent]
  rw [hent] at hst
  have hst := xSteps_weaken hst
  obtain ⟨q1, q2, q3, q4, q5⟩ := e6
  cases o with
  | returned v =>
    obtain ⟨T', X', hW', -, ht⟩ := X.outOf (g := F0 m pc ls rest) (mk := mk) (a := as.toArray) rfl hdg e2 e3 e4
    have hheap : T'.heap = t.heap := by rw [ht]; rfl
    obtain ⟨t2, s2, E2⟩ := kr v u e7 p l e R s m args below meth c T'.heap (locs ++ L) (cells + k) (slots + n) ls ⟨c1, c2, c3, c4, c5, c6, c7, c8, c9, c10, c11, c12, c13, c14, c15⟩ (by rw [hheap]; exact e5.moved hal.symm)
      ⟨fun q hq => (List.mem_append.mp hq).elim (r1 q) (q1 q), by simp only at q2; omega, by simp only at q3; omega, by simp only at q4; omega, by simp only at q5; omega⟩ hL T' rfl X'
    refine ⟨t2, hst.trans ?_, E2⟩
    rw [ht]
    rw [hnx] at s2
    exact s2
  | threw a =>
    obtain ⟨T', X', hW', -, ht⟩ := X.outOfThrown (g := F0 m pc ls rest) (mk := mk) (a := as.toArray) rfl e2 e3 e4
    have hheap : T'.heap = t.heap := by rw [ht]; rfl
    obtain ⟨t2, s2, E2⟩ := kt a u e7 p l e R s m args below meth c T' (locs ++ L) (cells + k) (slots + n) ls rest ⟨c1, c2, c3, c4, c5, c6, c7, c8, c9, c10, c11, c12, c13, c14, c15⟩ (by rw [hheap]; exact e5.moved hal.symm)
      ⟨fun q hq => (List.mem_append.mp hq).elim (r1 q) (q1 q), by simp only at q2; omega, by simp only at q3; omega, by simp only at q4; omega, by simp only at q5; omega⟩ hL X'
    refine ⟨t2, hst.trans ?_, E2⟩
    rw [ht]
    exact s2
end XC5
end
section
/- Part 06: branches, returns. -/
def xbr (q : XI) (st : List Value) : Option (Prop × Nat × Nat × List Value) := match q with
  | (_, i, _, nx, tg, _, _) => match i with
    | .ifCond .eq _ => xI1 st fun x r => some (x = 0, tg, nx, r)
    | .ifCond .ne _ => xI1 st fun x r => some (x = 0, nx, tg, r)
    | .ifCond .lt _ => xI1 st fun x r => some (x < 0, tg, nx, r)
    | .ifCond .ge _ => xI1 st fun x r => some (0 ≤ x, tg, nx, r)
    | .ifCond .gt _ => xI1 st fun x r => some (0 < x, tg, nx, r)
    | .ifCond .le _ => xI1 st fun x r => some (x ≤ 0, tg, nx, r)
    | .if_icmp .eq _ => xI2 st fun x y r => some (x = y, tg, nx, r)
    | .if_icmp .ne _ => xI2 st fun x y r => some (x = y, nx, tg, r)
    | .if_icmp .lt _ => xI2 st fun x y r => some (x < y, tg, nx, r)
    | .if_icmp .ge _ => xI2 st fun x y r => some (y ≤ x, tg, nx, r)
    | .if_icmp .gt _ => xI2 st fun x y r => some (y < x, tg, nx, r)
    | .if_icmp .le _ => xI2 st fun x y r => some (x ≤ y, tg, nx, r)
    | .if_acmp .eq _ => match st with
      | .ref b :: .ref a :: r => some (a = b, tg, nx, r)
      | _ => none
    | .if_acmp .ne _ => match st with
      | .ref b :: .ref a :: r => some (a = b, nx, tg, r)
      | _ => none
    | .ifnull _ => match st with
      | .ref _ :: r => some (False, tg, nx, r)
      | .null :: r => some (True, tg, nx, r)
      | _ => none
    | .ifnonnull _ => match st with
      | .ref _ :: r => some (True, tg, nx, r)
      | .null :: r => some (False, tg, nx, r)
      | _ => none
    | _ => none
section XB
variable {p : Program} {l : Launch} {e : Env} {R : Room} {s : State} {m : MethodId} {args : Array Value} {below : List Frame} {meth : Method} {c : Code} {H : Heap} {locs : List Loc} {cells slots : Nat} {Q : State → Prop}
set_option maxRecDepth 100000 in
set_option maxHeartbeats 4000000 in
theorem xbr_W (hexec : p.tables.exec = Jvm.exec) {cc : ByteArray} (hb : c.code = cc) {y : MethodName}
    {q : XI} (hq : xchk y cc q = true) {st st' : List Value} {P : Prop} {t1 t2 : Nat} {ls : Array Slot} (hs : xbr q st = some (P, t1, t2, st'))
    (k1 : P → W p l e R s m args below meth c H locs cells slots Q (F0 m t1 ls st')) (k2 : ¬ P → W p l e R s m args below meth c H locs cells slots Q (F0 m t2 ls st')) : W p l e R s m args below meth c H locs cells slots Q (F0 m q.1 ls st) := by
  obtain ⟨pc, i, len, nx, tg, cv, wi⟩ := q
  unfold xchk at hq
  rw [Bool.and_eq_true, Bool.and_eq_true] at hq
  obtain ⟨hd0, hn0, hi⟩ := hq
  have hd : decode cc pc = .ok (i, len) := of_decide_eq_true hd0
  have hn : nx = pc + len := Nat.eq_of_beq_eq_true hn0
  clear hd0 hn0
  subst hn
  show W p l e R s m args below meth c H locs cells slots Q (F0 m pc ls st)
  cases i
  case ifCond cd off =>
    simp only [xchi, Bool.and_eq_true] at hi
    obtain ⟨hi, hc⟩ := hi
    obtain rfl := Nat.eq_of_beq_eq_true hi
    have hc := of_decide_eq_true hc
    cases cd
    case eq =>
      simp only [xbr] at hs
      obtain ⟨x, r, rfl, hz⟩ := xI1_inv hs
      simp only [Option.some.injEq, Prod.mk.injEq] at hz
      obtain ⟨rfl, rfl, rfl, rfl⟩ := hz
      exact lv_if_eq hexec hb hd hc k1 k2
    case ne =>
      simp only [xbr] at hs
      obtain ⟨x, r, rfl, hz⟩ := xI1_inv hs
      simp only [Option.some.injEq, Prod.mk.injEq] at hz
      obtain ⟨rfl, rfl, rfl, rfl⟩ := hz
      exact lv_if_ne hexec hb hd hc k2 k1
    case lt =>
      simp only [xbr] at hs
      obtain ⟨x, r, rfl, hz⟩ := xI1_inv hs
      simp only [Option.some.injEq, Prod.mk.injEq] at hz
      obtain ⟨rfl, rfl, rfl, rfl⟩ := hz
      exact lv_if_lt hexec hb hd hc k1 k2
    case ge =>
      simp only [xbr] at hs
      obtain ⟨x, r, rfl, hz⟩ := xI1_inv hs
      simp only [Option.some.injEq, Prod.mk.injEq] at hz
      obtain ⟨rfl, rfl, rfl, rfl⟩ := hz
      exact lv_if_ge hexec hb hd hc k1 k2
    case gt =>
      simp only [xbr] at hs
      obtain ⟨x, r, rfl, hz⟩ := xI1_inv hs
      simp only [Option.some.injEq, Prod.mk.injEq] at hz
      obtain ⟨rfl, rfl, rfl, rfl⟩ := hz
      exact lv_if_gt hexec hb hd hc k1 k2
    case le =>
      simp only [xbr] at hs
      obtain ⟨x, r, rfl, hz⟩ := xI1_inv hs
      simp only [Option.some.injEq, Prod.mk.injEq] at hz
      obtain ⟨rfl, rfl, rfl, rfl⟩ := hz
      exact lv_if_le hexec hb hd hc k1 k2
  case if_icmp cd off =>
    simp only [xchi, Bool.and_eq_true] at hi
    obtain ⟨hi, hc⟩ := hi
    obtain rfl := Nat.eq_of_beq_eq_true hi
    have hc := of_decide_eq_true hc
    cases cd
    case eq =>
      simp only [xbr] at hs
      obtain ⟨x, y, r, rfl, hz⟩ := xI2_inv hs
      simp only [Option.some.injEq, Prod.mk.injEq] at hz
      obtain ⟨rfl, rfl, rfl, rfl⟩ := hz
      exact lv_icmp_eq hexec hb hd hc k1 k2
    case ne =>
      simp only [xbr] at hs
      obtain ⟨x, y, r, rfl, hz⟩ := xI2_inv hs
      simp only [Option.some.injEq, Prod.mk.injEq] at hz
      obtain ⟨rfl, rfl, rfl, rfl⟩ := hz
      exact lv_icmp_ne hexec hb hd hc k2 k1
    case lt =>
      simp only [xbr] at hs
      obtain ⟨x, y, r, rfl, hz⟩ := xI2_inv hs
      simp only [Option.some.injEq, Prod.mk.injEq] at hz
      obtain ⟨rfl, rfl, rfl, rfl⟩ := hz
      exact lv_icmp_lt hexec hb hd hc k1 k2
    case ge =>
      simp only [xbr] at hs
      obtain ⟨x, y, r, rfl, hz⟩ := xI2_inv hs
      simp only [Option.some.injEq, Prod.mk.injEq] at hz
      obtain ⟨rfl, rfl, rfl, rfl⟩ := hz
      exact lv_icmp_ge hexec hb hd hc k1 k2
    case gt =>
      simp only [xbr] at hs
      obtain ⟨x, y, r, rfl, hz⟩ := xI2_inv hs
      simp only [Option.some.injEq, Prod.mk.injEq] at hz
      obtain ⟨rfl, rfl, rfl, rfl⟩ := hz
      exact lv_icmp_gt hexec hb hd hc k1 k2
    case le =>
      simp only [xbr] at hs
      obtain ⟨x, y, r, rfl, hz⟩ := xI2_inv hs
      simp only [Option.some.injEq, Prod.mk.injEq] at hz
      obtain ⟨rfl, rfl, rfl, rfl⟩ := hz
      exact lv_icmp_le hexec hb hd hc k1 k2
  case if_acmp cd off =>
    simp only [xchi, Bool.and_eq_true] at hi
    obtain ⟨hi, hc⟩ := hi
    obtain rfl := Nat.eq_of_beq_eq_true hi
    have hc := of_decide_eq_true hc
    cases cd
    case eq =>
      simp only [xbr] at hs
      split at hs
      · rename_i b a r
        simp only [Option.some.injEq, Prod.mk.injEq] at hs
        obtain ⟨rfl, rfl, rfl, rfl⟩ := hs
        exact lv_acmp_eq (rx := some a) (ry := some b) hexec hb hd hc (fun z => k1 (Option.some.inj z)) (fun z => k2 (fun w => z (congrArg some w)))
      · cases hs
    case ne =>
      simp only [xbr] at hs
      split at hs
      · rename_i b a r
        simp only [Option.some.injEq, Prod.mk.injEq] at hs
        obtain ⟨rfl, rfl, rfl, rfl⟩ := hs
        exact lv_acmp_ne (rx := some a) (ry := some b) hexec hb hd hc (fun z => k2 (fun w => z (congrArg some w))) (fun z => k1 (Option.some.inj z))
      · cases hs
  case ifnull off =>
    simp only [xchi, Bool.and_eq_true] at hi
    obtain ⟨hi, hc⟩ := hi
    obtain rfl := Nat.eq_of_beq_eq_true hi
    have hc := of_decide_eq_true hc
    simp only [xbr] at hs
    split at hs
    · simp only [Option.some.injEq, Prod.mk.injEq] at hs
      obtain ⟨rfl, rfl, rfl, rfl⟩ := hs
      exact lv_ifnull hexec hb hd (k2 (fun z => z))
    · simp only [Option.some.injEq, Prod.mk.injEq] at hs
      obtain ⟨rfl, rfl, rfl, rfl⟩ := hs
      exact lv_ifnullN hexec hb hd hc (k1 trivial)
    · cases hs
  case ifnonnull off =>
    simp only [xchi, Bool.and_eq_true] at hi
    obtain ⟨hi, hc⟩ := hi
    obtain rfl := Nat.eq_of_beq_eq_true hi
    have hc := of_decide_eq_true hc
    simp only [xbr] at hs
    split at hs
    · simp only [Option.some.injEq, Prod.mk.injEq] at hs
      obtain ⟨rfl, rfl, rfl, rfl⟩ := hs
      exact lv_ifnonnull hexec hb hd hc (k1 trivial)
    · simp only [Option.some.injEq, Prod.mk.injEq] at hs
      obtain ⟨rfl, rfl, rfl, rfl⟩ := hs
      exact lv_ifnonnullN hexec hb hd (k2 (fun z => z))
    · cases hs
  all_goals exact absurd hs (by simp [xbr])
end XB
def xbo (M : XM) (pc : Nat) (st : List Value) : Option (Prop × Nat × Nat × List Value) := match xlook M.2.2.2.2.2 pc with
  | some q => xbr q st
  | none => none
def xop (M : XM) (pc : Nat) : Option Instr := (xlook M.2.2.2.2.2 pc).map (fun q => q.2.1)
def xnx (M : XM) (pc : Nat) : Nat := match xlook M.2.2.2.2.2 pc with
  | some q => q.2.2.2.1
  | none => 0
theorem xop_spec {M : XM} {pc : Nat} {i : Instr} (hok : xOK M = true) (h : xop M pc = some i) : ∃ len tg cv wi, xchk M.1 M.2.1 (pc, i, len, xnx M pc, tg, cv, wi) = true := by
  unfold xop at h
  cases hq : xlook M.2.2.2.2.2 pc with
  | none => rw [hq] at h; cases h
  | some q =>
    rw [hq] at h
    obtain ⟨pc', i', len, nx, tg, cv, wi⟩ := q
    obtain ⟨hk, hp⟩ := xOK_at hok hq
    simp only [Option.map_some, Option.some.injEq] at h hp
    subst h; subst hp
    refine ⟨len, tg, cv, wi, ?_⟩
    unfold xnx
    rw [hq]
    exact hk
theorem xchk_dec {y : MethodName} {cc : ByteArray} {pc len nx tg wi : Nat} {i : Instr} {cv : Value} (h : xchk y cc (pc, i, len, nx, tg, cv, wi) = true) : decode cc pc = .ok (i, len) ∧ nx = pc + len ∧ xchi y (pc, i, len, nx, tg, cv, wi) = true := by
  unfold xchk at h
  rw [Bool.and_eq_true, Bool.and_eq_true] at h
  exact ⟨of_decide_eq_true h.1, Nat.eq_of_beq_eq_true h.2.1, h.2.2⟩
section XB6
variable {D : va_G} {N0 : Nat} {M : XM} {d pc : Nat} {lv : XL} {st : List Value} {h : XH} {Q : Outcome → XH → Prop}
theorem xV.br {P : Prop} {t1 t2 : Nat} {st' : List Value} (hs : xbo M pc st = some (P, t1, t2, st')) (k1 : P → xV D N0 M d t1 lv st' h Q) (k2 : ¬ P → xV D N0 M d t2 lv st' h Q) : xV D N0 M d pc lv st h Q := by
  intro p l e R s m args below meth c H locs cells slots ls C hH hR hL
  unfold xbo at hs
  cases hq : xlook M.2.2.2.2.2 pc with
  | none => rw [hq] at hs; cases hs
  | some q =>
    rw [hq] at hs
    obtain ⟨hk, rfl⟩ := xOK_at C.2.2.2.2.2.2.2.2.2.2.2.2.1 hq
    exact xbr_W C.1 C.2.1 hk hs (fun hP => k1 hP p l e R s m args below meth c H locs cells slots ls C hH hR hL) (fun hP => k2 hP p l e R s m args below meth c H locs cells slots ls C hH hR hL)
theorem xEnd_of {R : Room} {s : State} {args : Array Value} {below : List Frame} {locs : List Loc} {cells slots : Nat} {H : Heap} {o : Outcome} (hH : xHp D s N0 h H) (hR : xRm N0 R h locs cells slots) (hQ : Q o h) {t : State}
    (hM : MQ below (fun _ _ o' t => o' = o ∧ t.heap = H) args s cells slots (fun a => N0 ≤ a) t) : xEnd D N0 R s below Q t := by
  obtain ⟨o', h1, h2, ⟨rfl, h3⟩, L, ⟨-, h4, h5⟩, h6⟩ := hM
  exact ⟨o', h, L, cells, slots, h1, h2, h4, h5, by rw [h3]; exact hH, ⟨h6, hR.2⟩, hQ⟩
theorem xV.iret {v : Int32} {ty : FieldType} (hq : xop M pc = some .ireturn) (hr : M.2.2.2.1 = some ty) (hn : narrow ty (.int v) = .int v) (hQ : Q (.returned (some (.int v))) h) : xV D N0 M d pc lv [.int v] h Q := by
  intro p l e R s m args below meth c H locs cells slots ls C hH hR hL T hT X
  obtain ⟨len, tg, cv, wi, hk⟩ := xop_spec C.2.2.2.2.2.2.2.2.2.2.2.2.1 hq
  obtain ⟨hd, -, hi⟩ := xchk_dec hk
  obtain rfl := Nat.eq_of_beq_eq_true hi
  obtain ⟨t, a, b⟩ := W.zret (Qc := fun _ _ o' t => o' = .returned (some (.int v)) ∧ t.heap = H) (free := fun a => N0 ≤ a) (args := args) (below := below) (R := R) (l := l) (e := e) (cells := cells) (slots := slots) (locs := locs) (ls := ls) C.1 C.2.1 (by rw [C.2.2.2.2.2.1]; exact hr) hn (fun t ht _ => ⟨rfl, ht⟩) hR.1 hd C.2.2.2.2.1 T hT X
  exact ⟨t, a, xEnd_of hH hR hQ b⟩
theorem xV.lret {v : Int64} (hq : xop M pc = some .lreturn) (hr : M.2.2.2.1 = some .long) (hQ : Q (.returned (some (.long v))) h) : xV D N0 M d pc lv [.long v] h Q := by
  intro p l e R s m args below meth c H locs cells slots ls C hH hR hL T hT X
  obtain ⟨len, tg, cv, wi, hk⟩ := xop_spec C.2.2.2.2.2.2.2.2.2.2.2.2.1 hq
  obtain ⟨hd, -, hi⟩ := xchk_dec hk
  obtain rfl := Nat.eq_of_beq_eq_true hi
  obtain ⟨t, a, b⟩ := W.lret (Qc := fun _ _ o' t => o' = .returned (some (.long v)) ∧ t.heap = H) (free := fun a => N0 ≤ a) (args := args) (below := below) (R := R) (l := l) (e := e) (cells := cells) (slots := slots) (locs := locs) (ls := ls) C.1 C.2.1 (by rw [C.2.2.2.2.2.1]; exact hr) (fun t ht _ => ⟨rfl, ht⟩) hR.1 hd C.2.2.2.2.1 T hT X
  exact ⟨t, a, xEnd_of hH hR hQ b⟩
theorem xV.vret (hq : xop M pc = some .return_) (hr : M.2.2.2.1 = none) (hQ : Q (.returned none) h) : xV D N0 M d pc lv [] h Q := by
  intro p l e R s m args below meth c H locs cells slots ls C hH hR hL T hT X
  obtain ⟨len, tg, cv, wi, hk⟩ := xop_spec C.2.2.2.2.2.2.2.2.2.2.2.2.1 hq
  obtain ⟨hd, -, hi⟩ := xchk_dec hk
  obtain rfl := Nat.eq_of_beq_eq_true hi
  obtain ⟨t, a, b⟩ := W.vret (Qc := fun _ _ o' t => o' = .returned none ∧ t.heap = H) (free := fun a => N0 ≤ a) (args := args) (below := below) (R := R) (l := l) (e := e) (cells := cells) (slots := slots) (locs := locs) (ls := ls) C.1 C.2.1 (by rw [C.2.2.2.2.2.1]; exact hr) (fun t ht _ => ⟨rfl, ht⟩) hR.1 hd C.2.2.2.2.1 T hT X
  exact ⟨t, a, xEnd_of hH hR hQ b⟩
theorem xV.aret {v : Value} {ty : FieldType} (hq : xop M pc = some .areturn) (hr : M.2.2.2.1 = some ty) (hty : (∃ n, ty = .object n) ∨ ∃ t, ty = .array t) (hv : v = .null ∨ ∃ a, v = .ref a) (hQ : Q (.returned (some v)) h) : xV D N0 M d pc lv [v] h Q := by
  intro p l e R s m args below meth c H locs cells slots ls C hH hR hL T hT X
  obtain ⟨len, tg, cv, wi, hk⟩ := xop_spec C.2.2.2.2.2.2.2.2.2.2.2.2.1 hq
  obtain ⟨hd, -, hi⟩ := xchk_dec hk
  obtain rfl := Nat.eq_of_beq_eq_true hi
  obtain ⟨t, a, b⟩ := W.aret (Qc := fun _ _ o' t => o' = .returned (some v) ∧ t.heap = H) (free := fun a => N0 ≤ a) (args := args) (below := below) (R := R) (l := l) (e := e) (cells := cells) (slots := slots) (locs := locs) (ls := ls) C.1 C.2.1 (by rw [C.2.2.2.2.2.1]; exact hr) hty hv (fun t ht _ => ⟨rfl, ht⟩) hR.1 hd C.2.2.2.2.1 T hT X
  exact ⟨t, a, xEnd_of hH hR hQ b⟩
theorem xT.out {a : Nat} (hout : (tableOf M.2.2.2.2.1).all (fun x => !covers x pc) = true) (hQ : Q (.threw a) h) : xT D N0 M d pc lv a h Q := by
  intro p l e R s m args below meth c T locs cells slots ls st C hH hR hL X
  obtain ⟨h1, h2, h3, h4, h5⟩ := X.leaveThrown a (g := F0 m pc ls st) rfl rfl rfl (outside_of_table C.2.2.2.1 hout) C.2.2.2.2.1
  exact ⟨_, h1, .threw a, h, locs, cells, slots, h2, h3, h4, h5, hH, hR, hQ⟩
theorem xV.athrow {a : Nat} {r : List Value} (hq : xop M pc = some .athrow) (k : xT D N0 M d pc lv a h Q) : xV D N0 M d pc lv (.ref a :: r) h Q := by
  intro p l e R s m args below meth c H locs cells slots ls C hH hR hL T hT X
  obtain ⟨len, tg, cv, wi, hk⟩ := xop_spec C.2.2.2.2.2.2.2.2.2.2.2.2.1 hq
  obtain ⟨hd, -, hi⟩ := xchk_dec hk
  obtain rfl := Nat.eq_of_beq_eq_true hi
  subst hT
  obtain ⟨t, h1, h2⟩ := k p l e R s m args below meth c T locs cells slots ls r C hH hR hL X
  refine ⟨t, ?_, h2⟩
  have hexec := C.1
  have hb := C.2.1
  jvm_step X.here [X.here.top, hexec, hb, hd, Op.athrow.wp_sem]
  exact h1
end XB6
end
section
/- Part 07: the heap's rows. -/
def xct (ci : Nat) : List FieldType := xtys.getD ci []
/-- what is asked of the classes' tables, by computing -/
def xcl1 (ci : Nat) (q : vw_C) : Bool := (List.range q.2.2).all fun k => xwt ((xwis.getD ci []).getD k 0) (u_lay q.1 q.2.1 k) && ((decide (parseFieldDescriptor (q.2.1 k).2.2.1 = (xct ci)[k]?) && Nat.blt k (xct ci).length) && (List.range q.2.2).all fun j => decide (j = k ∨ (q.2.1 j).2.1 ≠ (q.2.1 k).2.1))
def xclOK : Bool := (List.range xcl.length).all fun ci => match xcl[ci]? with
  | some q => xcl1 ci q
  | none => true
theorem xcl1_of (hok : xclOK = true) {ci : Nat} {q : vw_C} (hc : xcl[ci]? = some q) : xcl1 ci q = true := by
  have h1 := List.all_eq_true.mp hok ci (List.mem_range.mpr (List.getElem?_eq_some_iff.mp hc).1)
  simp only [hc] at h1
  exact h1
theorem xcl1_k {ci : Nat} {q : vw_C} (h : xcl1 ci q = true) {k : Nat} (hk : k < q.2.2) : xW (u_lay q.1 q.2.1 k) ∧ parseFieldDescriptor (q.2.1 k).2.2.1 = (xct ci)[k]? ∧ k < (xct ci).length ∧ ∀ j, j < q.2.2 → j ≠ k → (q.2.1 j).2.1 ≠ (q.2.1 k).2.1 := by
  have h1 := List.all_eq_true.mp h k (List.mem_range.mpr hk)
  rw [Bool.and_eq_true, Bool.and_eq_true, Bool.and_eq_true] at h1
  obtain ⟨h2, ⟨h4, h7⟩, h5⟩ := h1
  refine ⟨xwt_W h2, of_decide_eq_true h4, Nat.le_of_ble_eq_true h7, fun j hj hne => ?_⟩
  have h6 := of_decide_eq_true (List.all_eq_true.mp h5 j (List.mem_range.mpr hj))
  exact h6.resolve_left hne
section X7
variable {D : va_G} {N0 : Nat} {M : XM} {d pc : Nat} {lv : XL} {st : List Value} {h : XH} {Q : Outcome → XH → Prop}
theorem xAt.kept {s : State} {a : Nat} {c : XC} {H H1 : Heap} (hh : xAt D s a c H) (he : H1[a]? = H[a]?) : xAt D s a c H1 := by
  cases c with
  | inl q =>
    obtain ⟨cA, e1, e2⟩ := hh
    exact ⟨cA, by rw [he]; exact e1, e2⟩
  | inr q =>
    obtain ⟨r, e1, e2⟩ := hh
    exact ⟨r, e1, e2.kept he⟩
theorem xget_put (h : XH) (a b : Nat) (c : XC) : xget (xput h a c) b = if b = a then some c else xget h b := rfl
theorem xget_new (h : XH) (c : XC) (n b : Nat) : xget (xnew h c n) b = if b = h.1 then some c else xget h b := rfl
theorem xHp.put {s : State} {H H1 : Heap} (hH : xHp D s N0 h H) {a : Nat} {c : XC} (hz : H1.size = H.size) (ho : ∀ q : Nat, q ≠ a → H1[q]? = H[q]?) (hc : xAt D s a c H1) (hn : N0 ≤ a) : xHp D s N0 (xput h a c) H1 := by
  refine ⟨hz.trans hH.1, fun b c2 hb => ?_, hH.2.2.1, hH.2.2.2.kept (fun q _ h2 => ho q (by omega))⟩
  rw [xget_put] at hb
  by_cases hba : b = a
  · rw [if_pos hba] at hb
    cases hb
    subst hba
    exact ⟨hc, fun _ => hn⟩
  · rw [if_neg hba] at hb
    obtain ⟨e1, e2⟩ := hH.2.1 b c2 hb
    exact ⟨e1.kept (ho b hba), e2⟩
theorem xHp.push {s : State} {H H1 : Heap} (hH : xHp D s N0 h H) {c : XC} {n : Nat} (hz : H1.size = H.size + 1) (ho : ∀ q : Nat, q < H.size → H1[q]? = H[q]?) (hc : xAt D s h.1 c H1) : xHp D s N0 (xnew h c n) H1 := by
  refine ⟨by show H1.size = h.1 + 1; rw [hz, hH.1], fun b c2 hb => ?_, Nat.le_succ_of_le hH.2.2.1, hH.2.2.2.kept (fun q h1 _ => ho q h1)⟩
  rw [xget_new] at hb
  by_cases hba : b = h.1
  · rw [if_pos hba] at hb
    cases hb
    subst hba
    exact ⟨hc, fun _ => hH.2.2.1⟩
  · rw [if_neg hba] at hb
    obtain ⟨e1, e2⟩ := hH.2.1 b c2 hb
    exact ⟨e1.kept (ho b (by rw [hH.1]; exact hH.lt hb)), e2⟩
theorem xRm.put {R : Room} {locs : List Loc} {cells slots : Nat} {h' : XH} (hR : xRm N0 R h locs cells slots) (h1 : h'.2.1 = h.2.1) (h2 : h'.2.2.1 = h.2.2.1) {a i : Nat} (ha : N0 ≤ a) : xRm N0 R h' (locs ++ [⟨a, i⟩]) cells slots := by
  obtain ⟨r1, r2, r3, r4, r5⟩ := hR
  refine ⟨fun q hq => ?_, r2, r3, by rw [h1]; exact r4, by rw [h2]; exact r5⟩
  rcases List.mem_append.mp hq with h3 | h3
  · exact r1 q h3
  · rw [List.mem_singleton] at h3
    rw [h3]; exact ha
def xfl (M : XM) (pc : Nat) : Option (Instr × Nat × Nat × Nat) := match xlook M.2.2.2.2.2 pc with
  | some (_, i, _, nx, kf, .ref ci, _) => some (i, nx, ci, kf)
  | _ => none
theorem xfl_spec {i : Instr} {nx ci kf : Nat} (hok : xOK M = true) (h : xfl M pc = some (i, nx, ci, kf)) : ∃ len wi, xchk M.1 M.2.1 (pc, i, len, nx, kf, .ref ci, wi) = true := by
  unfold xfl at h
  split at h
  · rename_i pc' i' len nx' kf' ci' wi hq
    obtain ⟨hk, hp⟩ := xOK_at hok hq
    simp only [Option.some.injEq, Prod.mk.injEq] at h hp
    obtain ⟨rfl, rfl, rfl, rfl⟩ := h
    subst hp
    exact ⟨len, wi, hk⟩
  · cases h
theorem xfk_spec {own : String} {wi idx ci kf : Nat} (hk : xfk wi own idx ci kf = true) : ∃ q : vw_C, xcl[ci]? = some q ∧ kf < q.2.2 ∧ xW (.fieldLink own idx q.1 (q.2.1 kf).2.1 (q.2.1 kf).2.2.1) ∧ ((q.2.1 kf).1 = q.1 ∨ xW (.sameField q.1 (q.2.1 kf).1 (q.2.1 kf).2.1 (q.2.1 kf).2.2.1)) := by
  unfold xfk at hk
  split at hk
  · rename_i q hq
    rw [Bool.and_eq_true, Bool.and_eq_true, Bool.or_eq_true] at hk
    exact ⟨q, hq, Nat.le_of_ble_eq_true hk.1, xwt_W hk.2.1, hk.2.2.imp of_decide_eq_true xwt_W⟩
  · cases hk
theorem xsame {s : State} {C O n ds : String} (hW : xWS s) (h : O = C ∨ xW (.sameField C O n ds)) : ∀ x, s.fieldFound? O n ds = some x → s.fieldFound? C n ds = some x := by
  rcases h with rfl | h
  · exact fun x hx => hx
  · exact fun x hx => u_same (hW _ h #[]) x hx
theorem xV.get (hcl : xclOK = true) {idx nx ci kf a : Nat} {fs r : List Value} {v : Value} (hq : xfl M pc = some (.getfield idx, nx, ci, kf)) (ha : xget h a = some (.inr (ci, fs))) (hv : fs[kf]? = some v) (k : xV D N0 M d nx lv (v :: r) h Q) : xV D N0 M d pc lv (.ref a :: r) h Q := by
  intro p l e R s m args below meth c H locs cells slots ls C hH hR hL
  obtain ⟨len, wi, hk⟩ := xfl_spec C.2.2.2.2.2.2.2.2.2.2.2.2.1 hq
  obtain ⟨hd, rfl, hi⟩ := xchk_dec hk
  simp only [xchi, Bool.and_eq_true] at hi
  obtain ⟨hl, hf⟩ := hi
  obtain rfl := Nat.eq_of_beq_eq_true hl
  obtain ⟨q, hc, hkf, hw, hsm⟩ := xfk_spec hf
  have hWS := C.2.2.2.2.2.2.2.2.1
  have hok := xcl1_of hcl hc
  have hts : ∀ w ∈ u_ws q.1 q.2.1 q.2.2, w.before args s = true := fun w hw => by
    obtain ⟨j, hj, rfl⟩ := List.mem_map.mp hw
    exact hWS _ (xcl1_k hok (List.mem_range.mp hj)).1 args
  have hP : va_P D xcl [(a, .inr (ci, fs))] H := fun j x hx => by
    have hj : j < 1 := (List.getElem?_eq_some_iff.mp hx).1
    rw [show j = 0 by omega] at hx
    cases hx
    exact (hH.2.1 a _ ha).1
  exact va_get (own := M.1.cls) (ref := q.1) (ws := [(a, .inr (ci, fs))]) (tys := []) C.1 C.2.1 hts (fun w h => h) C.2.2.2.2.2.2.2.1 C.2.2.2.2.2.2.2.2.2.1 hP 0 rfl hc kf hkf (hWS _ hw args) (xsame hWS hsm) hv hd (k p l e R s m args below meth c H locs cells slots ls C hH hR hL)
theorem xV.put (hcl : xclOK = true) {idx nx ci kf a : Nat} {fs r : List Value} {v : Value} {ty : FieldType} (hq : xfl M pc = some (.putfield idx, nx, ci, kf)) (ha : xget h a = some (.inr (ci, fs))) (hty : (xct ci)[kf]? = some ty) (hn : narrow ty v = v) (hft : fits ty v = true) (hlf : kf < fs.length)
    (k : xV D N0 M d nx lv r (xput h a (.inr (ci, fs.set kf v))) Q) : xV D N0 M d pc lv (v :: .ref a :: r) h Q := by
  intro p l e R s m args below meth c H locs cells slots ls C hH hR hL
  obtain ⟨len, wi, hk⟩ := xfl_spec C.2.2.2.2.2.2.2.2.2.2.2.2.1 hq
  obtain ⟨hd, rfl, hi⟩ := xchk_dec hk
  simp only [xchi, Bool.and_eq_true] at hi
  obtain ⟨hl, hf, hpk⟩ := hi
  obtain rfl := Nat.eq_of_beq_eq_true hl
  obtain ⟨q, hc, hkf, hw, hsm⟩ := xfk_spec hf
  have hWS := C.2.2.2.2.2.2.2.2.1
  have hok := xcl1_of hcl hc
  have hts : ∀ w ∈ u_ws q.1 q.2.1 q.2.2, w.before args s = true := fun w hw => by
    obtain ⟨j, hj, rfl⟩ := List.mem_map.mp hw
    exact hWS _ (xcl1_k hok (List.mem_range.mp hj)).1 args
  obtain ⟨hat, hN⟩ := hH.2.1 a _ ha
  have hN : N0 ≤ a := hN rfl
  have hKn := C.2.2.2.2.2.2.2.2.2.1
  have hap := va_apart (own := M.1.cls) hts (fun w h => h) (fun j => (xct ci).getD j .int) (fun j hj => by
    obtain ⟨-, g3, hlt, -⟩ := xcl1_k hok hj
    rw [g3]
    simp [List.getD_eq_getElem?_getD, hlt]) (fun x hx y hy hne => (xcl1_k hok hy).2.2.2 x hx hne) hKn hc
  obtain ⟨r1, h1, cell, q1, q2, q3, q4⟩ := hat
  have hr : r1 = q := Option.some.inj (h1.symm.trans hc)
  subst hr
  obtain ⟨hS, hfc, kC, hkC, hkind⟩ := hKn.1 ci _ hc
  obtain ⟨cf, kfl, fi, f, hfi, hsl⟩ := hS kf hkf
  have hd2 : parseFieldDescriptor (r1.2.1 kf).2.2.1 = some ty := by
    obtain ⟨-, g3, -⟩ := xcl1_k hok hkf
    rw [g3]; exact hty
  have hst := (u_facts hfc hkC (u_lays hts (fun w h => h) hkf) hfi).1
  have hlay := hts _ (u_in_lay hkf)
  have hfin : ∀ H' : Heap, H'[a]? = some (cell.setSlot f.slot v) → H'.size = H.size → (∀ q, q ≠ a → H'[q]? = H[q]?) → W p l e R s m args below meth c H' (locs ++ [⟨a, f.slot⟩]) cells slots (xEnd D N0 R s below Q) (F0 m (pc + 3) ls r) := by
    intro H' e1 e2 e3
    refine k p l e R s m args below meth c H' _ cells slots ls C (hH.put e2 e3 ?_ hN) (hR.put rfl rfl hN) hL
    rw [hsl] at e1
    exact ⟨_, hc, t_OB.to (V := updV (vp_V fs) kf v) ⟨_, e1, q2, q3, t_set q4 hap hkf v⟩ (fun j _ => vp_updV_set hlf v j)⟩
  unfold u_lay at hlay
  by_cases hF : (r1.2.1 kf).2.2.2 = true
  · rw [if_pos hF] at hlay
    have hpk2 : M.1.name = "<init>" ∧ (r1.2.1 kf).1 = M.1.cls := by
      unfold xpk at hpk
      rw [hc] at hpk
      simp only [hF] at hpk
      simpa using hpk
    have hcf : m.cls = cf := by
      obtain ⟨_, _, c', _, _, _, -, -, hf', -, -, -, hown2, -⟩ := Cond.laysFinal_spec hlay
      have e1 : c' = cf := by have := hfi.symm.trans hf'; simp at this; exact this.1.symm
      rw [hpk2.2] at hown2
      rw [← e1]; exact Option.some.inj (C.2.2.2.2.2.2.2.1.symm.trans hown2)
    have h6 := u_fits hfc hkC hkind (Or.inr hlay) hfi hd2 hn hft
    exact W.putFinK C.1 C.2.1 C.2.2.2.2.2.2.2.1 (hWS _ hw args) (xsame hWS hsm _ hfi) hst hcf (C.2.2.2.2.2.2.1.trans hpk2.1) (by rw [q2]; exact h6) q1 q3 (by rw [hsl]; exact k2_hasslot (q4 kf hkf)) rfl rfl hd hfin
  · rw [if_neg hF] at hlay
    have h6 := u_store hfc hkC hkind hlay hfi hd2 hn hft
    exact W.putK C.1 C.2.1 (f := f) ⟨C.2.2.2.2.2.2.2.1, hWS _ hw args, ⟨_, _, _, xsame hWS hsm _ hfi⟩, hst⟩ (by rw [q2]; exact h6) q1 q3 (by rw [hsl]; exact k2_hasslot (q4 kf hkf)) rfl rfl hd hfin
end X7
end
section
/- Part 08: arrays, new objects. -/
def xon (M : XM) (pc : Nat) : Option (Instr × Nat) := match xlook M.2.2.2.2.2 pc with
  | some (_, i, _, nx, _, _, _) => some (i, nx)
  | none => none
section X8
variable {D : va_G} {N0 : Nat} {M : XM} {d pc : Nat} {lv : XL} {st : List Value} {h : XH} {Q : Outcome → XH → Prop}
theorem xon_spec {i : Instr} {nx : Nat} (hok : xOK M = true) (h : xon M pc = some (i, nx)) : ∃ len tg cv wi, xchk M.1 M.2.1 (pc, i, len, nx, tg, cv, wi) = true := by
  unfold xon at h
  split at h
  · rename_i pc' i' len nx' tg cv wi hq
    obtain ⟨hk, hp⟩ := xOK_at hok hq
    simp only [Option.some.injEq, Prod.mk.injEq] at h hp
    obtain ⟨rfl, rfl⟩ := h
    subst hp
    exact ⟨len, tg, cv, wi, hk⟩
  · cases h
theorem xin_size {i : Int32} {n : Nat} (hin : vp_in i n) (cA : ClassId) (f : Nat → Value) : ¬ (i < 0 ∨ (arrV cA n f).slots.size ≤ i.toNatClampNeg) := by
  rw [arrV_size]; exact hin
theorem xin_lt {i : Int32} {n : Nat} (hin : vp_in i n) : i.toNatClampNeg < n := Nat.not_le.mp fun q => hin (Or.inr q)
theorem xV.alen {a nx : Nat} {b : Bool} {ty : FieldType} {x : vp_A} {r : List Value} (hq : xon M pc = some (.arraylength, nx)) (ha : xget h a = some (.inl (b, ty, x))) (k : xV D N0 M d nx lv (.int (Int32.ofNat x.1) :: r) h Q) : xV D N0 M d pc lv (.ref a :: r) h Q := by
  intro p l e R s m args below meth c H locs cells slots ls C hH hR hL
  obtain ⟨len, tg, cv, wi, hk⟩ := xon_spec C.2.2.2.2.2.2.2.2.2.2.2.2.1 hq
  obtain ⟨hd, rfl, hi⟩ := xchk_dec hk
  obtain rfl := Nat.eq_of_beq_eq_true hi
  obtain ⟨cA, h1, h2, -⟩ := (hH.2.1 a _ ha).1
  have kk := k p l e R s m args below meth c H locs cells slots ls C hH hR hL
  obtain ⟨n, f | f | f | f | f⟩ := x
  · exact W.alen (n := Int32.ofNat n) C.1 C.2.1 h1 (h2 n (fun j => .int (f j))) (by rw [vp_cell_i, arrV_size] <;> rfl) rfl rfl hd kk
  · exact W.alen (n := Int32.ofNat n) C.1 C.2.1 h1 (h2 n (fun j => .long (f j))) (by rw [vp_cell_l, arrV_size] <;> rfl) rfl rfl hd kk
  · exact W.alen (n := Int32.ofNat n) C.1 C.2.1 h1 (h2 n (fun j => .float (f j))) (by rw [vp_cell_f, arrV_size] <;> rfl) rfl rfl hd kk
  · exact W.alen (n := Int32.ofNat n) C.1 C.2.1 h1 (h2 n (fun j => .double (f j))) (by rw [vp_cell_d, arrV_size] <;> rfl) rfl rfl hd kk
  · exact W.alen (n := Int32.ofNat n) C.1 C.2.1 h1 (h2 n (fun j => va_rf (f j))) (by rw [vp_cell_q, arrV_size] <;> rfl) rfl rfl hd kk
theorem xV.iald {a n nx : Nat} {b : Bool} {f : Nat → Int32} {i : Int32} {r : List Value} (hq : xon M pc = some (.iaload, nx)) (ha : xget h a = some (.inl (b, .int, n, .inl f))) (hin : vp_in i n) (k : xV D N0 M d nx lv (.int (f i.toNatClampNeg) :: r) h Q) : xV D N0 M d pc lv (.int i :: .ref a :: r) h Q := by
  intro p l e R s m args below meth c H locs cells slots ls C hH hR hL
  obtain ⟨len, tg, cv, wi, hk⟩ := xon_spec C.2.2.2.2.2.2.2.2.2.2.2.2.1 hq
  obtain ⟨hd, rfl, hi⟩ := xchk_dec hk
  obtain rfl := Nat.eq_of_beq_eq_true hi
  obtain ⟨cA, h1, h2, -⟩ := (hH.2.1 a _ ha).1
  exact W.iald (v := .int (f i.toNatClampNeg)) C.1 C.2.1 h1 (h2 n (fun j => .int (f j))) (fun q => by cases q) (xin_size hin cA _) (by show (arrV _ _ _).slots[_]? = _; rw [arrV_read _ _ (xin_lt hin)]) rfl rfl hd (k p l e R s m args below meth c H locs cells slots ls C hH hR hL)
theorem xV.zald {a n nx : Nat} {b : Bool} {f : Nat → Int32} {i : Int32} {r : List Value} (hq : xon M pc = some (.baload, nx)) (ha : xget h a = some (.inl (b, .boolean, n, .inl f))) (hin : vp_in i n) (k : xV D N0 M d nx lv (.int (f i.toNatClampNeg) :: r) h Q) : xV D N0 M d pc lv (.int i :: .ref a :: r) h Q := by
  intro p l e R s m args below meth c H locs cells slots ls C hH hR hL
  obtain ⟨len, tg, cv, wi, hk⟩ := xon_spec C.2.2.2.2.2.2.2.2.2.2.2.2.1 hq
  obtain ⟨hd, rfl, hi⟩ := xchk_dec hk
  obtain rfl := Nat.eq_of_beq_eq_true hi
  obtain ⟨cA, h1, h2, -⟩ := (hH.2.1 a _ ha).1
  exact W.zald (v := .int (f i.toNatClampNeg)) C.1 C.2.1 h1 (h2 n (fun j => .int (f j))) (fun q => by cases q) (xin_size hin cA _) (by show (arrV _ _ _).slots[_]? = _; rw [arrV_read _ _ (xin_lt hin)]) rfl rfl hd (k p l e R s m args below meth c H locs cells slots ls C hH hR hL)
theorem xV.lald {a n nx : Nat} {b : Bool} {f : Nat → Int64} {i : Int32} {r : List Value} (hq : xon M pc = some (.laload, nx)) (ha : xget h a = some (.inl (b, .long, n, .inr (.inl f)))) (hin : vp_in i n) (k : xV D N0 M d nx lv (.long (f i.toNatClampNeg) :: r) h Q) : xV D N0 M d pc lv (.int i :: .ref a :: r) h Q := by
  intro p l e R s m args below meth c H locs cells slots ls C hH hR hL
  obtain ⟨len, tg, cv, wi, hk⟩ := xon_spec C.2.2.2.2.2.2.2.2.2.2.2.2.1 hq
  obtain ⟨hd, rfl, hi⟩ := xchk_dec hk
  obtain rfl := Nat.eq_of_beq_eq_true hi
  obtain ⟨cA, h1, h2, -⟩ := (hH.2.1 a _ ha).1
  exact W.lald (v := .long (f i.toNatClampNeg)) C.1 C.2.1 h1 (h2 n (fun j => .long (f j))) (fun q => by cases q) (xin_size hin cA _) (by show (arrV _ _ _).slots[_]? = _; rw [arrV_read _ _ (xin_lt hin)]) rfl rfl hd (k p l e R s m args below meth c H locs cells slots ls C hH hR hL)
theorem xV.aald {a n nx : Nat} {b : Bool} {E : String} {f : Nat → Option Nat} {i : Int32} {r : List Value} (hq : xon M pc = some (.aaload, nx)) (ha : xget h a = some (.inl (b, .object E, n, .inr (.inr (.inr (.inr f)))))) (hin : vp_in i n) (k : xV D N0 M d nx lv (va_rf (f i.toNatClampNeg) :: r) h Q) : xV D N0 M d pc lv (.int i :: .ref a :: r) h Q := by
  intro p l e R s m args below meth c H locs cells slots ls C hH hR hL
  obtain ⟨len, tg, cv, wi, hk⟩ := xon_spec C.2.2.2.2.2.2.2.2.2.2.2.2.1 hq
  obtain ⟨hd, rfl, hi⟩ := xchk_dec hk
  obtain rfl := Nat.eq_of_beq_eq_true hi
  obtain ⟨cA, h1, h2, -⟩ := (hH.2.1 a _ ha).1
  exact W.aald (v := va_rf (f i.toNatClampNeg)) (ty := .object E) C.1 C.2.1 h1 (h2 n (fun j => va_rf (f j))) rfl (fun q => by cases q) (xin_size hin cA _) (by show (arrV _ _ _).slots[_]? = _; rw [arrV_read _ _ (xin_lt hin)]) rfl rfl hd (k p l e R s m args below meth c H locs cells slots ls C hH hR hL)
theorem xupd_int (f : Nat → Int32) (j : Nat) (x : Int32) : updV (fun k => Value.int (f k)) j (.int x) = fun k => Value.int (upd f j x k) := by
  funext q
  by_cases hq : q = j
  · subst hq; simp [updV, upd]
  · simp [updV, upd, hq]
theorem xupd_long (f : Nat → Int64) (j : Nat) (x : Int64) : updV (fun k => Value.long (f k)) j (.long x) = fun k => Value.long (vp_updL f j x k) := by
  funext q
  by_cases hq : q = j
  · subst hq; simp [updV, vp_updL]
  · simp [updV, vp_updL, hq]
theorem xupd_ref (f : Nat → Option Nat) (j : Nat) (x : Option Nat) : updV (fun k => va_rf (f k)) j (va_rf x) = fun k => va_rf (va_up f j x k) := by
  funext q
  by_cases hq : q = j
  · subst hq; simp [updV, va_up]
  · simp [updV, va_up, hq]
theorem xV.iast {a n nx : Nat} {f : Nat → Int32} {i x : Int32} {r : List Value} (hq : xon M pc = some (.iastore, nx)) (ha : xget h a = some (.inl (false, .int, n, .inl f))) (hin : vp_in i n) (k : xV D N0 M d nx lv r (xput h a (.inl (false, .int, n, .inl (upd f i.toNatClampNeg x)))) Q) : xV D N0 M d pc lv (.int x :: .int i :: .ref a :: r) h Q := by
  intro p l e R s m args below meth c H locs cells slots ls C hH hR hL
  obtain ⟨len, tg, cv, wi, hk⟩ := xon_spec C.2.2.2.2.2.2.2.2.2.2.2.2.1 hq
  obtain ⟨hd, rfl, hi⟩ := xchk_dec hk
  obtain rfl := Nat.eq_of_beq_eq_true hi
  obtain ⟨⟨cA, h1, h2, h3⟩, hN⟩ := hH.2.1 a _ ha
  have hN : N0 ≤ a := hN rfl
  refine W.iast C.1 C.2.1 h1 (h2 n (fun j => .int (f j))) (fun q => by cases q) (xin_size hin cA _) rfl rfl hd fun H1 e1 z oq => ?_
  refine k p l e R s m args below meth c H1 _ cells slots ls C (hH.put z oq ⟨cA, ?_, h2, h3⟩ hN) (hR.put rfl rfl hN) hL
  rw [e1]
  simp only [vp_cell_i, arrV_store, xupd_int]
theorem xV.zast {a n nx : Nat} {f : Nat → Int32} {i x : Int32} {r : List Value} (hq : xon M pc = some (.bastore, nx)) (ha : xget h a = some (.inl (false, .boolean, n, .inl f))) (hin : vp_in i n) (hx : narrow .boolean (.int x) = .int x) (k : xV D N0 M d nx lv r (xput h a (.inl (false, .boolean, n, .inl (upd f i.toNatClampNeg x)))) Q) : xV D N0 M d pc lv (.int x :: .int i :: .ref a :: r) h Q := by
  intro p l e R s m args below meth c H locs cells slots ls C hH hR hL
  obtain ⟨len, tg, cv, wi, hk⟩ := xon_spec C.2.2.2.2.2.2.2.2.2.2.2.2.1 hq
  obtain ⟨hd, rfl, hi⟩ := xchk_dec hk
  obtain rfl := Nat.eq_of_beq_eq_true hi
  obtain ⟨⟨cA, h1, h2, h3⟩, hN⟩ := hH.2.1 a _ ha
  have hN : N0 ≤ a := hN rfl
  refine W.zast C.1 C.2.1 h1 (h2 n (fun j => .int (f j))) (fun q => by cases q) (xin_size hin cA _) rfl rfl hd fun H1 e1 z oq => ?_
  refine k p l e R s m args below meth c H1 _ cells slots ls C (hH.put z oq ⟨cA, ?_, h2, h3⟩ hN) (hR.put rfl rfl hN) hL
  rw [e1, hx]
  simp only [vp_cell_i, arrV_store, xupd_int]
theorem xV.last {a n nx : Nat} {f : Nat → Int64} {i : Int32} {x : Int64} {r : List Value} (hq : xon M pc = some (.lastore, nx)) (ha : xget h a = some (.inl (false, .long, n, .inr (.inl f)))) (hin : vp_in i n) (k : xV D N0 M d nx lv r (xput h a (.inl (false, .long, n, .inr (.inl (vp_updL f i.toNatClampNeg x))))) Q) : xV D N0 M d pc lv (.long x :: .int i :: .ref a :: r) h Q := by
  intro p l e R s m args below meth c H locs cells slots ls C hH hR hL
  obtain ⟨len, tg, cv, wi, hk⟩ := xon_spec C.2.2.2.2.2.2.2.2.2.2.2.2.1 hq
  obtain ⟨hd, rfl, hi⟩ := xchk_dec hk
  obtain rfl := Nat.eq_of_beq_eq_true hi
  obtain ⟨⟨cA, h1, h2, h3⟩, hN⟩ := hH.2.1 a _ ha
  have hN : N0 ≤ a := hN rfl
  refine W.last C.1 C.2.1 h1 (h2 n (fun j => .long (f j))) (fun q => by cases q) (xin_size hin cA _) rfl rfl hd fun H1 e1 z oq => ?_
  refine k p l e R s m args below meth c H1 _ cells slots ls C (hH.put z oq ⟨cA, ?_, h2, h3⟩ hN) (hR.put rfl rfl hN) hL
  rw [e1]
  simp only [vp_cell_l, arrV_store, xupd_long]
theorem xRm.new {R : Room} {locs : List Loc} {cells slots n : Nat} {c : XC} (hR : xRm N0 R h locs cells slots) (h1 : h.2.1 + 1 ≤ xCmax) (h2 : h.2.2.1 + n ≤ xSmax) : cells + 1 ≤ R.cells ∧ slots + n ≤ R.slots ∧ xRm N0 R (xnew h c n) locs (cells + 1) (slots + n) := by
  obtain ⟨r1, r2, r3, r4, r5⟩ := hR
  refine ⟨by omega, by omega, r1, by omega, by omega, ?_, ?_⟩
  · show xCmax + (cells + 1) ≤ R.cells + (h.2.1 + 1)
    omega
  · show xSmax + (slots + n) ≤ R.slots + (h.2.2.1 + n)
    omega
end X8
end
section
/- Part 09: new objects and arrays, calls. -/
def xsp : Nat → List Value → List Value → Option (List Value × List Value)
  | 0, st, acc => some (acc, st)
  | n + 1, v :: st, acc => xsp n st (v :: acc)
  | _ + 1, [], _ => none
theorem xsp_gen (n : Nat) : ∀ (st acc as rest : List Value), xsp n st acc = some (as, rest) → acc.reverse ++ st = as.reverse ++ rest ∧ as.length = n + acc.length := by
  induction n with
  | zero =>
    intro st acc as rest h
    simp only [xsp, Option.some.injEq, Prod.mk.injEq] at h
    obtain ⟨rfl, rfl⟩ := h
    exact ⟨rfl, by omega⟩
  | succ n ih =>
    intro st acc as rest h
    cases st with
    | nil => cases h
    | cons v t =>
      obtain ⟨h1, h2⟩ := ih t (v :: acc) as rest h
      refine ⟨?_, by rw [h2, List.length_cons]; omega⟩
      rw [← h1]; simp
theorem xsp_spec {n : Nat} {st as rest : List Value} (h : xsp n st [] = some (as, rest)) : st = as.reverse ++ rest ∧ as.length = n := by
  obtain ⟨h1, h2⟩ := xsp_gen n st [] as rest h
  exact ⟨by simpa using h1, by simpa using h2⟩
def xnp (y : MethodName) (n : Nat) : Bool := decide ((parseMethodDescriptor y.desc).map (fun g => g.parameters.length) = some n) && decide (y.cls ≠ "java/lang/invoke/MethodHandle" ∧ y.cls ≠ "java/lang/invoke/VarHandle")
def xcs (M M2 : XM) (idx n : Nat) : Prop := xW (.methodLink M.1.cls idx M2.1) ∧ xW (.static M2.1) ∧ xW (.initialized M2.1.cls) ∧ xW (xcw M2) ∧ xnp M2.1 n = true
def xcv (C : String) (M M2 : XM) (idx n : Nat) : Prop := xW (.methodLink M.1.cls idx M2.1) ∧ xW (.instanceMethod M2.1) ∧ xW (.selects C M2.1 M2.1) ∧ xW (xcw M2) ∧ xnp M2.1 n = true
def xci (M M2 : XM) (idx n : Nat) : Prop := xW (.methodLink M.1.cls idx M2.1) ∧ xW (.instanceMethod M2.1) ∧ xW (.code M2.1 M2.2.1 M2.2.2.1 none) ∧ (M2.2.2.2.1 = none ∧ M2.2.2.2.2.1 = [] ∧ M2.1.name = "<init>") ∧ xnp M2.1 n = true
theorem xnp_spec {y : MethodName} {n : Nat} (h : xnp y n = true) : (∀ sig, parseMethodDescriptor y.desc = some sig → n = sig.parameters.length) ∧ (y.cls ≠ "java/lang/invoke/MethodHandle" ∧ y.cls ≠ "java/lang/invoke/VarHandle") := by
  unfold xnp at h
  rw [Bool.and_eq_true] at h
  have h1 := of_decide_eq_true h.1
  refine ⟨fun sig hs => ?_, of_decide_eq_true h.2⟩
  rw [hs] at h1
  exact (Option.some.inj h1).symm
section X9
variable {D : va_G} {N0 : Nat} {M : XM} {d pc : Nat} {lv : XL} {st : List Value} {h : XH} {Q : Outcome → XH → Prop}
theorem xV.newa {at0 : ArrayType} {ty : FieldType} {n : Int32} {N nx : Nat} {A0 : vp_A} {r : List Value} (hq : xon M pc = some (.newarray at0, nx)) (hty : newarray.typeOf at0 = ty) (hw : xW (.arrayClass ty)) (hA : ∀ cA : ClassId, vp_cell cA A0 = arrV cA N (fun _ => defaultValue ty)) (hra : ∀ (U : State) (cA : ClassId), U.vm.findClass ("[" ++ ty.toString) = some cA → va_RA U cA ty)
    (hn : ¬ n < 0) (hN : n.toNatClampNeg = N) (hb : N * componentBytes ty ≤ 536870912) (hc1 : h.2.1 + 1 ≤ xCmax) (hc2 : h.2.2.1 + N ≤ xSmax) (k : xV D N0 M d nx lv (.ref h.1 :: r) (xnew h (.inl (false, ty, A0)) N) Q) : xV D N0 M d pc lv (.int n :: r) h Q := by
  intro p l e R s m args below meth c H locs cells slots ls C hH hR hL
  obtain ⟨len, tg, cv, wi, hk⟩ := xon_spec C.2.2.2.2.2.2.2.2.2.2.2.2.1 hq
  obtain ⟨hd, rfl, hi⟩ := xchk_dec hk
  obtain rfl := Nat.eq_of_beq_eq_true hi
  subst hty
  obtain ⟨r1, r2, r3⟩ := hR.new (c := .inl (false, newarray.typeOf at0, A0)) hc1 hc2
  refine va_newaK C.1 C.2.1 (C.2.2.2.2.2.2.2.2.1 _ hw args) rfl hd rfl hn hN hb r1 r2 hH.1 fun H1 cA e1 z1 o1 hAr hNm => ?_
  refine k p l e R s m args below meth c H1 locs _ _ ls C (hH.push (by rw [z1, hH.1]) (fun q hq => o1 q (by rw [← hH.1]; exact hq)) ⟨cA, ?_, hAr, hra s cA hNm⟩) r3 hL
  rw [e1, hA]
theorem xV.callS {M2 : XM} {idx nx n : Nat} {as rest : List Value} {Q2 : Outcome → XH → Prop} (hq : xon M pc = some (.invokestatic idx, nx)) (hst : xsp n st [] = some (as, rest)) (hw : xcs M M2 idx n) (hok2 : xOK M2 = true) (hsz : (lg_sl as).length ≤ M2.2.2.1) (hcat : (rest.map fun v => v.category).sum + (M2.2.2.1 + 11) ≤ 64)
    (hcon : xV D N0 M2 d 0 (xargs M2.2.2.1 as) [] h Q2) (kr : ∀ v u, Q2 (.returned v) u → xV D N0 M (d + 1) nx lv (v.toList ++ rest) u Q) (kt : ∀ a u, Q2 (.threw a) u → xT D N0 M (d + 1) pc lv a u Q) : xV D N0 M (d + 1) pc lv st h Q := by
  intro p l e R s m args below meth c H locs cells slots ls C hH hR hL T hT X
  obtain ⟨len, tg, cv, wi, hk⟩ := xon_spec C.2.2.2.2.2.2.2.2.2.2.2.2.1 hq
  obtain ⟨hd, hnx, hi⟩ := xchk_dec hk
  obtain rfl := Nat.eq_of_beq_eq_true hi
  obtain ⟨rfl, hlen⟩ := xsp_spec hst
  subst hT
  obtain ⟨w1, w2, w3, w4, w6⟩ := hw
  have hWS := C.2.2.2.2.2.2.2.2.1
  obtain ⟨mk, methk, ck, hI⟩ := xIs_of (hWS _ w4 args)
  obtain ⟨p1, p2⟩ := xnp_spec w6
  have hstat : methk.isStatic = true := Cond.static_spec hI.1 hI.2.1 (hWS _ w2 args)
  obtain ⟨kP, hkP, -⟩ := className_of_methodNamed hI.1
  have hinitP : kP.init = .initialized := Cond.initialized_spec (findClass_of_methodNamed hI.1) hkP (hWS _ w3 args)
  have hd' : decode c.code pc = .ok (.invokestatic idx, 3) := by rw [C.2.1]; exact hd
  obtain ⟨vm₁, X₁, hstep⟩ := X.invokestatic C.1 C.2.2.2.2.2.2.2.1 (hWS _ w1 args) hI.1 hI.2.1 hstat hkP hinitP p2 (g := F0 m pc ls (as.reverse ++ rest)) rfl (argsL := as) (rest := rest) (hlen.trans (p1 _ hI.2.2.2.2.2.2.2.2.2)) rfl hd'
  obtain ⟨t, h1, h2⟩ := xcallW (T := T.setVm vm₁) hcon kr kt hok2 hsz hcat C hH hR hL X₁ hd' hnx hI
  exact ⟨t, hstep t (fun acts => by rw [doInvoke_state]; exact h1), h2⟩
theorem xV.callV {M2 : XM} {idx nx n b ci : Nat} {q : vw_C} {fs as rest : List Value} {Q2 : Outcome → XH → Prop} (hq : xon M pc = some (.invokevirtual idx, nx)) (hst : xsp (n + 1) st [] = some (.ref b :: as, rest)) (hb : xget h b = some (.inr (ci, fs))) (hc : xcl[ci]? = some q) (hw : xcv q.1 M M2 idx n) (hok2 : xOK M2 = true) (hsz : (lg_sl (.ref b :: as)).length ≤ M2.2.2.1) (hcat : (rest.map fun v => v.category).sum + (M2.2.2.1 + 11) ≤ 64)
    (hcon : xV D N0 M2 d 0 (xargs M2.2.2.1 (.ref b :: as)) [] h Q2) (kr : ∀ v u, Q2 (.returned v) u → xV D N0 M (d + 1) nx lv (v.toList ++ rest) u Q) (kt : ∀ a u, Q2 (.threw a) u → xT D N0 M (d + 1) pc lv a u Q) : xV D N0 M (d + 1) pc lv st h Q := by
  intro p l e R s m args below meth c H locs cells slots ls C hH hR hL T hT X
  obtain ⟨len, tg, cv, wi, hk⟩ := xon_spec C.2.2.2.2.2.2.2.2.2.2.2.2.1 hq
  obtain ⟨hd, hnx, hi⟩ := xchk_dec hk
  obtain rfl := Nat.eq_of_beq_eq_true hi
  obtain ⟨rfl, hlen⟩ := xsp_spec hst
  subst hT
  obtain ⟨w1, w2, w3, w4, w6⟩ := hw
  have hWS := C.2.2.2.2.2.2.2.2.1
  have hKn := C.2.2.2.2.2.2.2.2.2.1
  obtain ⟨mk, methk, ck, hI⟩ := xIs_of (hWS _ w4 args)
  obtain ⟨p1, p2⟩ := xnp_spec w6
  obtain ⟨mk', methM, hnamed, hmethM, hstM, habM⟩ := Cond.instanceMethod_spec (hWS _ w2 args)
  cases hI.1.symm.trans hnamed
  cases hI.2.1.symm.trans hmethM
  obtain ⟨r1, g1, cell, g2, g3, g4, -⟩ := (hH.2.1 b _ hb).1
  have hcls : s.vm.findClass q.1 = some cell.cls := by rw [g3]; exact (hKn.1 ci q hc).2.1
  have hobj : cell.vm.isStatics = false := by rw [g4]; rfl
  obtain ⟨c2, r2, m2, q1, q2, q3, q4, kP, hkP, hkPi⟩ := Cond.selects_spec (hWS _ w3 args)
  cases hcls.symm.trans q1
  cases (State.methodFound?_of_named hnamed p2).symm.trans q2
  cases hnamed.symm.trans q3
  have hselP : selectMethod e.platform s.vm cell.cls mk = .method mk := by rw [Launch.admits_selectMethod X.admits]; exact q4
  have hd' : decode c.code pc = .ok (.invokevirtual idx, 3) := by rw [C.2.1]; exact hd
  obtain ⟨vm₁, X₁, hstep⟩ := X.invokevirtual C.1 C.2.2.2.2.2.2.2.1 (hWS _ w1 args) hnamed hmethM hstM hkP hkPi p2 (a := b) (cell := cell) g2
    (fun z h => by rw [h] at hobj; cases hobj) hselP hmethM habM hkP hkPi (g := F0 m pc ls ((Value.ref b :: as).reverse ++ rest)) rfl (argsL := as) (rest := rest) ((Nat.succ.inj (by simpa using hlen)).trans (p1 _ hI.2.2.2.2.2.2.2.2.2)) (by simp) hd'
  obtain ⟨t, h1, h2⟩ := xcallW (T := T.setVm vm₁) hcon kr kt hok2 hsz hcat C hH hR hL X₁ hd' hnx hI
  exact ⟨t, hstep t (fun acts => by rw [doInvoke_state]; exact h1), h2⟩
theorem xV.callI {M2 : XM} {idx nx n b : Nat} {as rest : List Value} {Q2 : Outcome → XH → Prop} (hq : xon M pc = some (.invokespecial idx, nx)) (hst : xsp (n + 1) st [] = some (.ref b :: as, rest)) (hw : xci M M2 idx n) (hok2 : xOK M2 = true) (hsz : (lg_sl (.ref b :: as)).length ≤ M2.2.2.1) (hcat : (rest.map fun v => v.category).sum + (M2.2.2.1 + 11) ≤ 64)
    (hcon : xV D N0 M2 d 0 (xargs M2.2.2.1 (.ref b :: as)) [] h Q2) (kr : ∀ v u, Q2 (.returned v) u → xV D N0 M (d + 1) nx lv (v.toList ++ rest) u Q) (kt : ∀ a u, Q2 (.threw a) u → xT D N0 M (d + 1) pc lv a u Q) : xV D N0 M (d + 1) pc lv st h Q := by
  intro p l e R s m args below meth c H locs cells slots ls C hH hR hL T hT X
  obtain ⟨len, tg, cv, wi, hk⟩ := xon_spec C.2.2.2.2.2.2.2.2.2.2.2.2.1 hq
  obtain ⟨hd, hnx, hi⟩ := xchk_dec hk
  obtain rfl := Nat.eq_of_beq_eq_true hi
  obtain ⟨rfl, hlen⟩ := xsp_spec hst
  subst hT
  obtain ⟨w1, w2, w4, ⟨v1, v2, v3⟩, w6⟩ := hw
  have hWS := C.2.2.2.2.2.2.2.2.1
  have hcw : xcw M2 = .code M2.1 M2.2.1 M2.2.2.1 none := by unfold xcw; rw [v2, v1]
  obtain ⟨mk, methk, ck, hI⟩ := xIs_of (M := M2) (by rw [hcw]; exact hWS _ w4 args)
  obtain ⟨p1, p2⟩ := xnp_spec w6
  have hpl : e.platform.magicAccessors = ({} : Platform).magicAccessors := by rw [X.admits.platform]
  have hd' : decode c.code pc = .ok (.invokespecial idx, 3) := by rw [C.2.1]; exact hd
  obtain ⟨mk', methM, cM, kP, vm₁, hnamed, hmethM, hcodeM, -, hlocalsM, -, hkP, -, hW₁, hstep⟩ := Steps.initColdArgs (e := e) X.here C.1 X.warmed hpl C.2.2.2.2.2.2.2.1 v3 p2 (hWS _ w1 args) (hWS _ w2 args) (hWS _ w4 args) (f := F0 m pc ls ((Value.ref b :: as).reverse ++ rest)) rfl (a := b) (argsL := as) (rest := rest) (fun sig hs => (Nat.succ.inj (by simpa using hlen)).trans (p1 sig hs)) (by simp) hd'
  cases hI.1.symm.trans hnamed
  have X₁ := X.noted hW₁
  obtain ⟨t, h1, h2⟩ := xcallW (T := T.setVm vm₁) hcon kr kt hok2 hsz hcat C hH hR hL X₁ hd' hnx hI
  exact ⟨t, hstep t (fun acts => by rw [doInvoke_state]; exact h1), h2⟩
theorem xV.obj {idx nx b : Nat} {r : List Value} (hq : xon M pc = some (.invokespecial idx, nx)) (hw : xW (.methodLink M.1.cls idx Lib.objectInit) ∧ xW (.instanceMethod Lib.objectInit) ∧ xW (.code Lib.objectInit ⟨#[0xb1]⟩ 1 none)) (hcat : (r.map fun v => v.category).sum + 12 ≤ 64) (k : xV D N0 M (d + 1) nx lv r h Q) : xV D N0 M (d + 1) pc lv (.ref b :: r) h Q := by
  intro p l e R s m args below meth c H locs cells slots ls C hH hR hL
  obtain ⟨len, tg, cv, wi, hk⟩ := xon_spec C.2.2.2.2.2.2.2.2.2.2.2.2.1 hq
  obtain ⟨hd, rfl, hi⟩ := xchk_dec hk
  obtain rfl := Nat.eq_of_beq_eq_true hi
  obtain ⟨w1, w2, w3⟩ := hw
  have hWS := C.2.2.2.2.2.2.2.2.1
  have c11 := C.2.2.2.2.2.2.2.2.2.2.1
  have c12 := C.2.2.2.2.2.2.2.2.2.2.2.1
  exact W.objInit C.1 C.2.1 C.2.2.2.2.2.2.2.1 (hWS _ w1 args) (hWS _ w2 args) (hWS _ w3 args) rfl (by show ls.size = c.maxLocals; rw [C.2.2.1]; exact hL.2.1) rfl hd (by omega) (by show 2 * 0 + _ + 12 ≤ R.locals; omega) (k p l e R s m args below meth c H locs cells slots ls C hH hR hL)
end X9
end
section
/- Part 11b: new objects, division, switches, casts, arrays of references, constructors of nest mates. -/
section X11
variable {D : va_G} {N0 : Nat} {M : XM} {d pc : Nat} {lv : XL} {st : List Value} {h : XH} {Q : Outcome → XH → Prop}
theorem xhts {s : State} (hcl : xclOK = true) (hWS : xWS s) {ci : Nat} {q : vw_C} (hc : xcl[ci]? = some q) (args : Array Value) : ∀ w ∈ u_ws q.1 q.2.1 q.2.2, w.before args s = true := fun w hw => by
  obtain ⟨j, hj, rfl⟩ := List.mem_map.mp hw
  exact hWS _ (xcl1_k (xcl1_of hcl hc) (List.mem_range.mp hj)).1 args
def xdf (ci : Nat) : List Value := (xct ci).map defaultValue
theorem xV.new (hcl : xclOK = true) {idx nx ci : Nat} {q : vw_C} (hq : xon M pc = some (.new idx, nx)) (hc : xcl[ci]? = some q) (hw : xW (.classLink M.1.cls idx q.1) ∧ xW (.instantiable q.1 q.2.2) ∧ xW (.initialized q.1))
    (hc1 : h.2.1 + 1 ≤ xCmax) (hc2 : h.2.2.1 + q.2.2 ≤ xSmax) (k : xV D N0 M d nx lv (.ref h.1 :: st) (xnew h (.inr (ci, xdf ci)) q.2.2) Q) : xV D N0 M d pc lv st h Q := by
  intro p l e R s m args below meth c H locs cells slots ls C hH hR hL
  obtain ⟨len, tg, cv, wi, hk⟩ := xon_spec C.2.2.2.2.2.2.2.2.2.2.2.2.1 hq
  obtain ⟨hd, rfl, hi⟩ := xchk_dec hk
  obtain rfl := Nat.eq_of_beq_eq_true hi
  have hWS := C.2.2.2.2.2.2.2.2.1
  have hKn := C.2.2.2.2.2.2.2.2.2.1.1 ci q hc
  have hok := xcl1_of hcl hc
  obtain ⟨r1, r2, r3⟩ := hR.new (c := .inr (ci, xdf ci)) hc1 hc2
  refine W.newcK C.1 C.2.1 C.2.2.2.2.2.2.2.1 (hWS _ hw.1 args) (hWS _ hw.2.1 args) (hWS _ hw.2.2 args) rfl hd r1 r2 hKn.2.1 hH.1 fun H1 kC hkC e1 z1 o1 => ?_
  refine k p l e R s m args below meth c H1 locs _ _ ls C (hH.push (by rw [z1, hH.1]) (fun q hq => o1 q (by rw [← hH.1]; exact hq)) ⟨q, hc, ?_⟩) r3 hL
  refine (u_born (fun j => (xct ci).getD j .int) (xhts hcl hWS hc args) (fun w h => h) hKn hkC e1 (fun j hj => ?_)).to (fun j hj => ?_)
  · obtain ⟨-, g3, hlt, -⟩ := xcl1_k hok hj
    rw [g3]
    simp [List.getD_eq_getElem?_getD, hlt]
  · obtain ⟨-, -, hlt, -⟩ := xcl1_k hok hj
    simp [vp_V, xdf, List.getD_eq_getElem?_getD, hlt]
theorem xV.ldiv {nx : Nat} {x y : Int64} {r : List Value} (hq : xon M pc = some (.ldiv, nx)) (hy : ¬ y = 0) (k : xV D N0 M d nx lv (.long (x / y) :: r) h Q) : xV D N0 M d pc lv (.long y :: .long x :: r) h Q := by
  intro p l e R s m args below meth c H locs cells slots ls C hH hR hL
  obtain ⟨len, tg, cv, wi, hk⟩ := xon_spec C.2.2.2.2.2.2.2.2.2.2.2.2.1 hq
  obtain ⟨hd, rfl, hi⟩ := xchk_dec hk
  obtain rfl := Nat.eq_of_beq_eq_true hi
  exact lv_ldiv C.1 C.2.1 hd hy (k p l e R s m args below meth c H locs cells slots ls C hH hR hL)
theorem xV.tIn {nx tgt : Nat} {dflt lo hi off : Int} {offs : Array Int} {x : Int32} {r : List Value} (hq : xon M pc = some (.tableswitch dflt lo hi offs, nx)) (h1 : ¬ x.toInt < lo) (h2 : ¬ hi < x.toInt) (ho : offs[(x.toInt - lo).toNat]? = some off) (ht : (pc : Int) + off = (tgt : Int)) (k : xV D N0 M d tgt lv r h Q) : xV D N0 M d pc lv (.int x :: r) h Q := by
  intro p l e R s m args below meth c H locs cells slots ls C hH hR hL
  obtain ⟨len, tg, cv, wi, hk⟩ := xon_spec C.2.2.2.2.2.2.2.2.2.2.2.2.1 hq
  obtain ⟨hd, -, hi⟩ := xchk_dec hk
  exact lv_tableIn C.1 C.2.1 hd h1 h2 ho ht (k p l e R s m args below meth c H locs cells slots ls C hH hR hL)
theorem xV.tOut {nx tgt : Nat} {dflt lo hi : Int} {offs : Array Int} {x : Int32} {r : List Value} (hq : xon M pc = some (.tableswitch dflt lo hi offs, nx)) (h1 : x.toInt < lo ∨ hi < x.toInt) (ht : (pc : Int) + dflt = (tgt : Int)) (k : xV D N0 M d tgt lv r h Q) : xV D N0 M d pc lv (.int x :: r) h Q := by
  intro p l e R s m args below meth c H locs cells slots ls C hH hR hL
  obtain ⟨len, tg, cv, wi, hk⟩ := xon_spec C.2.2.2.2.2.2.2.2.2.2.2.2.1 hq
  obtain ⟨hd, -, hi⟩ := xchk_dec hk
  exact lv_tableOut C.1 C.2.1 hd h1 ht (k p l e R s m args below meth c H locs cells slots ls C hH hR hL)
theorem xV.cast {idx nx a ci : Nat} {q : vw_C} {nm : String} {fs r : List Value} (hq : xon M pc = some (.checkcast idx, nx)) (ha : xget h a = some (.inr (ci, fs))) (hc : xcl[ci]? = some q) (hw : xW (.classLink M.1.cls idx nm) ∧ xW (.castable q.1 nm)) (k : xV D N0 M d nx lv (.ref a :: r) h Q) : xV D N0 M d pc lv (.ref a :: r) h Q := by
  intro p l e R s m args below meth c H locs cells slots ls C hH hR hL
  obtain ⟨len, tg, cv, wi, hk⟩ := xon_spec C.2.2.2.2.2.2.2.2.2.2.2.2.1 hq
  obtain ⟨hd, rfl, hi⟩ := xchk_dec hk
  obtain rfl := Nat.eq_of_beq_eq_true hi
  have hWS := C.2.2.2.2.2.2.2.2.1
  obtain ⟨r1, g1, cell, g2, g3, g4, -⟩ := (hH.2.1 a _ ha).1
  exact va_castY C.1 C.2.1 C.2.2.2.2.2.2.2.1 (hWS _ hw.1 args) (hWS _ hw.2 #[]) ⟨cell, g2, by rw [g4]; rfl, by rw [g3]; exact (C.2.2.2.2.2.2.2.2.2.1.1 ci q hc).2.1⟩ hd (k p l e R s m args below meth c H locs cells slots ls C hH hR hL)
theorem xV.aast {a n nx v ci : Nat} {E : String} {q : vw_C} {vs : List Value} {f : Nat → Option Nat} {i : Int32} {r : List Value} (hq : xon M pc = some (.aastore, nx)) (ha : xget h a = some (.inl (false, .object E, n, .inr (.inr (.inr (.inr f)))))) (hv : xget h v = some (.inr (ci, vs))) (hc : xcl[ci]? = some q) (hw : xW (.castable q.1 E)) (hin : vp_in i n)
    (k : xV D N0 M d nx lv r (xput h a (.inl (false, .object E, n, .inr (.inr (.inr (.inr (va_up f i.toNatClampNeg (some v)))))))) Q) : xV D N0 M d pc lv (.ref v :: .int i :: .ref a :: r) h Q := by
  intro p l e R s m args below meth c H locs cells slots ls C hH hR hL
  obtain ⟨len, tg, cv, wi, hk⟩ := xon_spec C.2.2.2.2.2.2.2.2.2.2.2.2.1 hq
  obtain ⟨hd, rfl, hi⟩ := xchk_dec hk
  obtain rfl := Nat.eq_of_beq_eq_true hi
  have hWS := C.2.2.2.2.2.2.2.2.1
  obtain ⟨⟨cA, h1, h2, h3⟩, hN⟩ := hH.2.1 a _ ha
  have hN : N0 ≤ a := hN rfl
  obtain ⟨r1, g0, cell, g1, g2, g3, -⟩ := (hH.2.1 v _ hv).1
  have hcls := (C.2.2.2.2.2.2.2.2.2.1.1 ci q hc).2
  obtain ⟨kA, comp, k1, k2, k3, k4⟩ := id h3
  obtain ⟨kE, hkE, -⟩ := Vm.findClass_spec k3
  obtain ⟨c0, t1, f1, f2, f3⟩ := Cond.castable_spec (hWS _ hw args)
  cases hcls.1.symm.trans f1
  cases k3.symm.trans f2
  obtain ⟨kC, hkC, -⟩ := hcls.2
  refine W.aast C.1 C.2.1 h1 (fun q h => by cases h) (fun h => by cases h) k1 k2 rfl hkE ⟨fun z => hin (Or.inl z), by show _ < (arrV _ _ _).slots.size; rw [arrV_size]; exact xin_lt hin⟩ g1 (fun q h => by rw [g3] at h; cases h) (by rw [g2]; exact hkC) (by rw [g2]; exact f3) rfl rfl hd fun H1 e1 z oq => ?_
  refine k p l e R s m args below meth c H1 _ cells slots ls C (hH.put z oq ⟨cA, ?_, h2, h3⟩ hN) (hR.put rfl rfl hN) hL
  rw [e1]
  simp only [vp_cell_q, arrV_store]
  rw [show Value.ref v = va_rf (some v) from rfl, xupd_ref]
theorem xV.anew {idx nx N : Nat} {E : String} {n : Int32} {r : List Value} (hq : xon M pc = some (.anewarray idx, nx)) (hw : xW (.classLink M.1.cls idx E) ∧ xW (.arrayOver (.object E))) (hn : ¬ n < 0) (hN : n.toNatClampNeg = N) (hb : N * 4 ≤ 536870912) (hc1 : h.2.1 + 1 ≤ xCmax) (hc2 : h.2.2.1 + N ≤ xSmax)
    (k : xV D N0 M d nx lv (.ref h.1 :: r) (xnew h (.inl (false, .object E, N, .inr (.inr (.inr (.inr (fun _ => none)))))) N) Q) : xV D N0 M d pc lv (.int n :: r) h Q := by
  intro p l e R s m args below meth c H locs cells slots ls C hH hR hL
  obtain ⟨len, tg, cv, wi, hk⟩ := xon_spec C.2.2.2.2.2.2.2.2.2.2.2.2.1 hq
  obtain ⟨hd, rfl, hi⟩ := xchk_dec hk
  obtain rfl := Nat.eq_of_beq_eq_true hi
  have hWS := C.2.2.2.2.2.2.2.2.1
  subst hN
  obtain ⟨r1, r2, r3⟩ := hR.new (c := .inl (false, .object E, n.toNatClampNeg, .inr (.inr (.inr (.inr (fun _ => none)))))) hc1 hc2
  refine W.anew C.1 C.2.1 C.2.2.2.2.2.2.2.1 (hWS _ hw.1 args) (hWS _ hw.2 args) rfl hd rfl hn hb r1 r2 fun cA kA comp f1 f2 f3 f4 => ?_
  generalize hH1 : H.push ({ cls := cA, slots := Array.replicate n.toNatClampNeg .null, vm := .none } : Cell) = H1
  have z1 : H1.size = H.size + 1 := by rw [← hH1, Array.size_push]
  have e1 : H1[H.size]? = some (arrV cA n.toNatClampNeg (fun _ => .null)) := by rw [← hH1, Array.getElem?_push_size, ← arrV_new]
  have o1 : ∀ q : Nat, q < H.size → H1[q]? = H[q]? := fun q hq => by rw [← hH1, Array.getElem?_push, if_neg (Nat.ne_of_lt hq)]
  have kk := k p l e R s m args below meth c H1 locs _ _ ls C (hH.push z1 o1 ⟨cA, (by rw [← hH.1]; exact e1), fun N z => ⟨(fun k h => by cases h), kA, f2, comp, f3⟩, kA, comp, f2, f3, f4, f1⟩) r3 hL
  rw [hH.1]
  exact kk
theorem xV.callN {M2 : XM} {idx nx n b : Nat} {host : String} {as rest : List Value} {Q2 : Outcome → XH → Prop} (hq : xon M pc = some (.invokespecial idx, nx)) (hst : xsp (n + 1) st [] = some (.ref b :: as, rest)) (hw : xW (.methodLinkNest M.1.cls idx M2.1 host) ∧ xW (.instanceMethod M2.1) ∧ xW (.code M2.1 M2.2.1 M2.2.2.1 none) ∧ (M2.2.2.2.1 = none ∧ M2.2.2.2.2.1 = [] ∧ M2.1.name = "<init>") ∧ xnp M2.1 n = true) (hok2 : xOK M2 = true) (hsz : (lg_sl (.ref b :: as)).length ≤ M2.2.2.1) (hcat : (rest.map fun v => v.category).sum + (M2.2.2.1 + 11) ≤ 64)
    (hcon : xV D N0 M2 d 0 (xargs M2.2.2.1 (.ref b :: as)) [] h Q2) (kr : ∀ v u, Q2 (.returned v) u → xV D N0 M (d + 1) nx lv (v.toList ++ rest) u Q) (kt : ∀ a u, Q2 (.threw a) u → xT D N0 M (d + 1) pc lv a u Q) : xV D N0 M (d + 1) pc lv st h Q := by
  intro p l e R s m args below meth c H locs cells slots ls C hH hR hL T hT X
  obtain ⟨len, tg, cv, wi, hk⟩ := xon_spec C.2.2.2.2.2.2.2.2.2.2.2.2.1 hq
  obtain ⟨hd, hnx, hi⟩ := xchk_dec hk
  obtain rfl := Nat.eq_of_beq_eq_true hi
  obtain ⟨rfl, hlen⟩ := xsp_spec hst
  subst hT
  obtain ⟨w1, w2, w4, ⟨v1, v2, v3⟩, w6⟩ := hw
  have hWS := C.2.2.2.2.2.2.2.2.1
  have hcw : xcw M2 = .code M2.1 M2.2.1 M2.2.2.1 none := by unfold xcw; rw [v2, v1]
  obtain ⟨mk, methk, ck, hI⟩ := xIs_of (M := M2) (by rw [hcw]; exact hWS _ w4 args)
  obtain ⟨p1, p2⟩ := xnp_spec w6
  have hpl : e.platform.magicAccessors = ({} : Platform).magicAccessors := by rw [X.admits.platform]
  have hd' : decode c.code pc = .ok (.invokespecial idx, 3) := by rw [C.2.1]; exact hd
  obtain ⟨mk', methM, cM, kP, vm₁, hnamed, hmethM, hcodeM, -, hlocalsM, -, hkP, -, hW₁, hstep⟩ := Steps.initColdArgsNest (e := e) X.here C.1 X.warmed hpl C.2.2.2.2.2.2.2.1 v3 p2 (hWS _ w1 args) (hWS _ w2 args) (hWS _ w4 args) (f := F0 m pc ls ((Value.ref b :: as).reverse ++ rest)) rfl (a := b) (argsL := as) (rest := rest) (fun sig hs => (Nat.succ.inj (by simpa using hlen)).trans (p1 sig hs)) (by simp) hd'
  cases hI.1.symm.trans hnamed
  have X₁ := X.noted hW₁
  obtain ⟨t, h1, h2⟩ := xcallW (T := T.setVm vm₁) hcon kr kt hok2 hsz hcat C hH hR hL X₁ hd' hnx hI
  exact ⟨t, hstep t (fun acts => by rw [doInvoke_state]; exact h1), h2⟩
end X11
end
section
/- Part 11c: throwing a new exception with a text; catching. -/
section X11c
variable {D : va_G} {N0 : Nat} {M : XM} {d pc : Nat} {lv : XL} {st : List Value} {h : XH} {Q : Outcome → XH → Prop}
theorem xT.catch {a ci : Nat} {q : vw_C} {fs : List Value} {nm : String} (pre : List ExceptionTableEntry) (x : ExceptionTableEntry) (suf : List ExceptionTableEntry) (hsplit : tableOf M.2.2.2.2.1 = pre ++ x :: suf) (ha : xget h a = some (.inr (ci, fs))) (hc : xcl[ci]? = some q)
    (hpass : ∀ z ∈ pre, covers z pc = false ∨ (z.catchType ≠ 0 ∧ ∃ n2 : String, xW (.classLink M.1.cls z.catchType n2) ∧ (q.1, n2) ∈ xncs)) (hx : covers x pc = true) (h0 : x.catchType ≠ 0) (hw : xW (.classLink M.1.cls x.catchType nm) ∧ xW (.castable q.1 nm))
    (k : xV D N0 M d x.handlerPc lv [.ref a] h Q) : xT D N0 M d pc lv a h Q := by
  intro p l e R s m args below meth c T locs cells slots ls st C hH hR hL X
  have hWS := C.2.2.2.2.2.2.2.2.1
  obtain ⟨r1, g0, cell, g1, g2, g3, -⟩ := (hH.2.1 a _ ha).1
  exact vx_catch (ls := ls) (rest := st) C.2.2.2.2.2.2.2.1 pre x suf (C.2.2.2.1.trans hsplit) (fun z hz => (hpass z hz).imp id fun ⟨z1, n2, z2, z3⟩ => ⟨z1, n2, hWS _ z2 args, C.2.2.2.2.2.2.2.2.2.2.2.2.2.2.2 _ z3⟩) hx h0 (hWS _ hw.1 args) (hWS _ hw.2 args) g1 g3
    (by rw [g2]; exact (C.2.2.2.2.2.2.2.2.2.1.1 ci q hc).2.1) (k p l e R s m args below meth c T.heap locs cells slots ls C hH hR hL) T rfl X
set_option maxHeartbeats 4000000 in
theorem xV.throw {ik is ic p1 p2 p3 p4 p5 ci : Nat} {cls text : String} {TE : u_T} {names : List String} {rest : List Value}
    (q0 : xon M pc = some (.new ik, p1)) (q1 : xon M p1 = some (.dup, p2)) (q2 : xon M p2 = some (.ldc is, p3) ∨ xon M p2 = some (.ldc_w is, p3)) (q3 : xon M p3 = some (.invokespecial ic, p4)) (q4 : xon M p4 = some (.athrow, p5))
    (hE : xcl[ci]? = some (cls, TE, 0)) (hcls : Bundle.fit cls = true) (hnames : ∀ n ∈ names, Bundle.fit n = true) (hk : xW (.classLink M.1.cls ik cls)) (hini : xW (.initialized cls)) (hat : ∀ w ∈ vx_atS M.1.cls ic cls names, xW w) (hown : M.1.cls = "ChannelNet") (hstr : (is, text) ∈ xstrs)
    (hout : (tableOf M.2.2.2.2.1).all (fun x => !covers x p4) = true) (hd : names.length + 4 ≤ d) (hcat : (rest.map fun v => v.category).sum ≤ 64) (hc1 : h.2.1 + 1 ≤ xCmax) (hc2 : h.2.2.1 + 6 ≤ xSmax)
    (hQ : Q (.threw h.1) (xnew h (.inr (ci, [])) 6)) : xV D N0 M d pc lv rest h Q := by
  intro p l e R s m args below meth c H locs cells slots ls C hH hR hL T hT X
  subst hT
  have hok := C.2.2.2.2.2.2.2.2.2.2.2.2.1
  obtain ⟨_, _, _, _, k0⟩ := xon_spec hok q0
  obtain ⟨d0, e0, i0⟩ := xchk_dec k0
  obtain rfl := Nat.eq_of_beq_eq_true i0
  obtain ⟨_, _, _, _, k1⟩ := xon_spec hok q1
  obtain ⟨d1, e1, i1⟩ := xchk_dec k1
  obtain rfl := Nat.eq_of_beq_eq_true i1
  obtain ⟨_, _, _, _, k3⟩ := xon_spec hok q3
  obtain ⟨d3, e3, i3⟩ := xchk_dec k3
  obtain rfl := Nat.eq_of_beq_eq_true i3
  obtain ⟨_, _, _, _, k4⟩ := xon_spec hok q4
  obtain ⟨d4, -, i4⟩ := xchk_dec k4
  obtain rfl := Nat.eq_of_beq_eq_true i4
  subst e0; subst e1; subst e3
  have hb := C.2.1
  have hexec := C.1
  have hWS := C.2.2.2.2.2.2.2.2.1
  have hlocks := C.2.2.2.2.1
  have hfr := C.2.2.2.2.2.2.2.2.2.2.1
  have hlo := C.2.2.2.2.2.2.2.2.2.2.2.1
  have htr : e.platform.stackTraces = false := Launch.traces_off C.2.2.2.2.2.2.2.2.2.2.2.2.2.1 X.admits
  obtain ⟨r1, r2, r3⟩ := hR.new (c := .inr (ci, [])) hc1 hc2
  have Y := vx_rebase X (R' := { frames := R.frames, locals := R.locals, cells := 1, slots := 6 }) (Nat.le_refl _) (Nat.le_refl _) r1 r2
  obtain ⟨s', hA⟩ : ∃ z, z = (T.setVm s.vm).setFrames (.invoking m args :: below) := ⟨_, rfl⟩
  rw [← hA] at Y
  have hvm : s'.vm = s.vm := by rw [hA]; rfl
  have hhp : s'.heap = T.heap := by rw [hA]; rfl
  have hW0 : s.WarmedH s'.vm := by rw [hvm]; exact State.WarmedH.refl s
  have hWS' : xWS s' := hWS.moved hW0
  obtain ⟨hU, hN⟩ : xZs N0 s' s'.heap := by rw [hhp]; exact hH.2.2.2.moved hW0.alike
  have hall : ∀ w ∈ Bundle.ownAtoms M.1.cls ic cls names, w.before args s' = true := vx_own (fun w hw => hWS' _ (hat w hw) args) (vx_isRefq hU.1) (vx_isRefq hN.1) hU.2.word hN.2.word
  have hown' : s'.vm.findClass M.1.cls = some m.cls := by rw [hvm]; exact C.2.2.2.2.2.2.2.1
  have hins : (Cond.instantiable cls 6).before args s' = true := hall _ (by simp [Bundle.ownAtoms])
  obtain ⟨vm₁, cX, kX, hfX, hkX, -, -, X₁, st1⟩ := Y.newCold hexec (own := M.1.cls) (C := cls) (index := ik) (n := 6) hown' (hWS' _ hk args) hins (hWS' _ hini args)
    (g := F0 m pc ls rest) rfl (by rw [hb]; exact d0) (Nat.le_refl _) (Nat.le_refl _)
  generalize hT1 : (T.setVm vm₁).pushCell { cls := cX, slots := kX.instanceTypes.map defaultValue, vm := .none } = T1 at X₁ st1
  have hcellA : T1.heap[T.heap.size]? = some (freshCell cX kX) := by rw [← hT1]; exact State.heap_pushCell_size _ _
  have d1' : decode c.code (pc + 3) = .ok (.dup, 1) := by rw [hb]; exact d1
  obtain ⟨sa, hsa⟩ := (C.2.2.2.2.2.2.2.2.2.2.2.2.2.2.moved hW0).1 _ hstr
  have hsa' : vk_R M.1.cls is text sa s' := by rw [hown]; exact hsa
  have hsize : ls.size = c.maxLocals := by rw [C.2.2.1]; exact hL.2.1
  obtain ⟨U, hsteps, hrun, hend, hW, hsame, ce, hce, hO⟩ := X₁.ctorThrowS hexec htr (own := M.1.cls) (cls := cls) (names := names) (ic := ic) hown' hcls hnames hall (fun x hx => nomatch hx) hfX hkX hcellA (by rw [hhp]; exact Nat.le_refl _) (msg := .ref sa) rfl
    (g := { method := m, pc := p3, locals := ls, stack := .ref sa :: .ref T.heap.size :: .ref T.heap.size :: rest, locked := none }) rfl hsize rfl rfl (rest := rest) rfl
    (by rw [hb]; exact d3) (by rw [hb]; exact d4) (outside_of_table C.2.2.2.1 hout) (by show names.length + 3 < R.frames; omega)
    (by show 2 * 0 + ((Value.ref T.heap.size :: rest).map fun v => v.category).sum + (13 * (names.length + 1) + 42) ≤ R.locals; simp only [List.map_cons, List.sum_cons]; have : (Value.ref T.heap.size).category = 1 := rfl; omega) hlocks
  obtain ⟨f1, f2⟩ := vx_frame hsame
  rw [hhp] at f1 f2
  have hWs : s.WarmedH U.vm := State.WarmedH.trans hW0 hW
  have hsz : U.heap.size = T.heap.size + 1 := by
    have g1 : U.heap.size ≤ s'.heap.size + (0 + 1) := hsame.2.2.1
    have g2 := (Array.getElem?_eq_some_iff.mp hce).1
    rw [hhp] at g1
    omega
  have hcl2 : ce.cls = D.1 ci := by
    have g1 := hO.cls
    rw [hvm] at g1
    exact Option.some.inj (g1.symm.trans (C.2.2.2.2.2.2.2.2.2.1.1 ci _ hE).2.1)
  have hall2 : s.sameButNew ({ U with vm := s.vm } : State) locs (cells + 1) (slots + 6) := by
    subst hA
    obtain ⟨z1, z2⟩ := hsame
    rw [State.setFrames_setFrames] at z1
    have h2 : (T.setVm s.vm).sameButNew ({ U with vm := s.vm } : State) [] (0 + 1) (0 + 6) := ⟨z1, z2⟩
    have h3 := X.same.trans h2
    rw [List.append_nil] at h3
    exact h3.mono (by omega) (by omega)
  have hHp : xHp D s N0 (xnew h (.inr (ci, [])) 6) U.heap := hH.push hsz (fun q hq => f2 q hq (fun z hz => nomatch hz)) ⟨_, hE, ce, by rw [← hH.1]; exact hce, hcl2, hO.vm, fun j hj => absurd hj (Nat.not_lt_zero j)⟩
  refine ⟨U, ?_, .threw h.1, _, locs, cells + 1, slots + 6, hrun, by rw [← hH.1]; exact hend, hWs, hall2, hHp, r3, hQ⟩
  refine st1 _ ?_
  show Steps p.tables e below (T1.setTop { method := m, pc := pc + 3, locals := ls, stack := .ref T.heap.size :: rest, locked := none }) _
  jvm_step X₁.here [X₁.here.top, hexec, d1', Value.category]
  rcases q2 with q2 | q2
  · obtain ⟨_, _, _, _, k2⟩ := xon_spec hok q2
    obtain ⟨d2, e2, i2⟩ := xchk_dec k2
    simp only [xchi, Bool.and_eq_true] at i2
    obtain rfl := Nat.eq_of_beq_eq_true i2.1
    subst e2
    exact X₁.ldcString hexec (own := M.1.cls) (text := text) (index := is) (a := sa) hown' hsa'.1 hsa'.2
      (g := { method := m, pc := pc + 3 + 1, locals := ls, stack := .ref T.heap.size :: .ref T.heap.size :: rest, locked := none }) rfl (by rw [hb]; exact d2) _ hsteps
  · obtain ⟨_, _, _, _, k2⟩ := xon_spec hok q2
    obtain ⟨d2, e2, i2⟩ := xchk_dec k2
    simp only [xchi, Bool.and_eq_true] at i2
    obtain rfl := Nat.eq_of_beq_eq_true i2.1
    subst e2
    exact X₁.ldcStringW hexec (own := M.1.cls) (text := text) (index := is) (a := sa) hown' hsa'.1 hsa'.2
      (g := { method := m, pc := pc + 3 + 1, locals := ls, stack := .ref T.heap.size :: .ref T.heap.size :: rest, locked := none }) rfl (by rw [hb]; exact d2) _ hsteps
end X11c
end
