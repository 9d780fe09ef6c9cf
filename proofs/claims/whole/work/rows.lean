section
-- ===== PART A: goes FIRST, ahead of the names: the tables' words, and 'selects' of the private methods out of them =====
/-- a private method of a class that the tables say can be made, by its rows of tables_1 -/
def lw_okq (q : MethodName × Nat) : Prop := (q.1.cls ≠ "java/lang/invoke/MethodHandle" ∧ q.1.cls ≠ "java/lang/invoke/VarHandle") ∧ Cond.instantiable q.1.cls q.2 ∈ tables_1 ∧ Cond.privateMethod q.1 ∈ tables_1 ∧ Cond.instanceMethod q.1 ∈ tables_1
theorem lw_p0 : lw_okq (⟨"java/lang/Throwable", "fillInStackTrace", "(I)Ljava/lang/Throwable;"⟩, 6) := ⟨⟨by decide +kernel, by decide +kernel⟩, List.mem_of_getElem? (i := 212) (by decide +kernel), List.mem_of_getElem? (i := 210) (by decide +kernel), List.mem_of_getElem? (i := 211) (by decide +kernel)⟩
theorem lw_p1 : lw_okq (⟨"java/util/ArrayList", "add", "(Ljava/lang/Object;[Ljava/lang/Object;I)V"⟩, 3) := ⟨⟨by decide +kernel, by decide +kernel⟩, List.mem_of_getElem? (i := 51) (by decide +kernel), List.mem_of_getElem? (i := 341) (by decide +kernel), List.mem_of_getElem? (i := 342) (by decide +kernel)⟩
theorem lw_p2 : lw_okq (⟨"java/util/ArrayList", "grow", "()[Ljava/lang/Object;"⟩, 3) := ⟨⟨by decide +kernel, by decide +kernel⟩, List.mem_of_getElem? (i := 51) (by decide +kernel), List.mem_of_getElem? (i := 345) (by decide +kernel), List.mem_of_getElem? (i := 346) (by decide +kernel)⟩
theorem lw_p3 : lw_okq (⟨"java/util/ArrayList", "grow", "(I)[Ljava/lang/Object;"⟩, 3) := ⟨⟨by decide +kernel, by decide +kernel⟩, List.mem_of_getElem? (i := 51) (by decide +kernel), List.mem_of_getElem? (i := 349) (by decide +kernel), List.mem_of_getElem? (i := 350) (by decide +kernel)⟩
theorem lw_p4 : lw_okq (⟨"ChannelNet", "channelAt", "(I)LChannelNet$Channel;"⟩, 11) := ⟨⟨by decide +kernel, by decide +kernel⟩, List.mem_of_getElem? (i := 24) (by decide +kernel), List.mem_of_getElem? (i := 439) (by decide +kernel), List.mem_of_getElem? (i := 440) (by decide +kernel)⟩
theorem lw_p5 : lw_okq (⟨"ChannelNet$Channel", "makeState", "(II)V"⟩, 12) := ⟨⟨by decide +kernel, by decide +kernel⟩, List.mem_of_getElem? (i := 280) (by decide +kernel), List.mem_of_getElem? (i := 484) (by decide +kernel), List.mem_of_getElem? (i := 485) (by decide +kernel)⟩
theorem lw_p6 : lw_okq (⟨"ChannelNet", "payBalances", "(LChannelNet$Channel;I)V"⟩, 11) := ⟨⟨by decide +kernel, by decide +kernel⟩, List.mem_of_getElem? (i := 24) (by decide +kernel), List.mem_of_getElem? (i := 565) (by decide +kernel), List.mem_of_getElem? (i := 566) (by decide +kernel)⟩
theorem lw_p7 : lw_okq (⟨"ChannelNet", "findRoute", "(III)V"⟩, 11) := ⟨⟨by decide +kernel, by decide +kernel⟩, List.mem_of_getElem? (i := 24) (by decide +kernel), List.mem_of_getElem? (i := 580) (by decide +kernel), List.mem_of_getElem? (i := 581) (by decide +kernel)⟩
theorem lw_p8 : lw_okq (⟨"ChannelNet", "searchBack", "(IIIII)V"⟩, 11) := ⟨⟨by decide +kernel, by decide +kernel⟩, List.mem_of_getElem? (i := 24) (by decide +kernel), List.mem_of_getElem? (i := 584) (by decide +kernel), List.mem_of_getElem? (i := 585) (by decide +kernel)⟩
theorem lw_p9 : lw_okq (⟨"ChannelNet", "goOnFrom", "(IIIII)V"⟩, 11) := ⟨⟨by decide +kernel, by decide +kernel⟩, List.mem_of_getElem? (i := 24) (by decide +kernel), List.mem_of_getElem? (i := 593) (by decide +kernel), List.mem_of_getElem? (i := 594) (by decide +kernel)⟩
theorem lw_p10 : lw_okq (⟨"ChannelNet", "feeOf", "(II)I"⟩, 11) := ⟨⟨by decide +kernel, by decide +kernel⟩, List.mem_of_getElem? (i := 24) (by decide +kernel), List.mem_of_getElem? (i := 597) (by decide +kernel), List.mem_of_getElem? (i := 598) (by decide +kernel)⟩
theorem lw_p11 : lw_okq (⟨"ChannelNet", "fixDeadlines", "(LChannelNet$Payment;I)V"⟩, 11) := ⟨⟨by decide +kernel, by decide +kernel⟩, List.mem_of_getElem? (i := 24) (by decide +kernel), List.mem_of_getElem? (i := 696) (by decide +kernel), List.mem_of_getElem? (i := 697) (by decide +kernel)⟩
theorem lw_p12 : lw_okq (⟨"ChannelNet", "paymentAt", "(I)LChannelNet$Payment;"⟩, 11) := ⟨⟨by decide +kernel, by decide +kernel⟩, List.mem_of_getElem? (i := 24) (by decide +kernel), List.mem_of_getElem? (i := 707) (by decide +kernel), List.mem_of_getElem? (i := 708) (by decide +kernel)⟩
theorem lw_p13 : lw_okq (⟨"ChannelNet", "stepBack", "(LChannelNet$Payment;)V"⟩, 11) := ⟨⟨by decide +kernel, by decide +kernel⟩, List.mem_of_getElem? (i := 24) (by decide +kernel), List.mem_of_getElem? (i := 711) (by decide +kernel), List.mem_of_getElem? (i := 712) (by decide +kernel)⟩
theorem lw_p14 : lw_okq (⟨"ChannelNet", "canEnd", "(LChannelNet$Channel;LChannelNet$Promise;I)Z"⟩, 11) := ⟨⟨by decide +kernel, by decide +kernel⟩, List.mem_of_getElem? (i := 24) (by decide +kernel), List.mem_of_getElem? (i := 715) (by decide +kernel), List.mem_of_getElem? (i := 716) (by decide +kernel)⟩
theorem lw_p15 : lw_okq (⟨"ChannelNet", "endAs", "(LChannelNet$Channel;LChannelNet$Promise;I)V"⟩, 11) := ⟨⟨by decide +kernel, by decide +kernel⟩, List.mem_of_getElem? (i := 24) (by decide +kernel), List.mem_of_getElem? (i := 719) (by decide +kernel), List.mem_of_getElem? (i := 720) (by decide +kernel)⟩
def lw_privs_1 : List (MethodName × Nat) := [(⟨"java/lang/Throwable", "fillInStackTrace", "(I)Ljava/lang/Throwable;"⟩, 6), (⟨"java/util/ArrayList", "add", "(Ljava/lang/Object;[Ljava/lang/Object;I)V"⟩, 3), (⟨"java/util/ArrayList", "grow", "()[Ljava/lang/Object;"⟩, 3), (⟨"java/util/ArrayList", "grow", "(I)[Ljava/lang/Object;"⟩, 3), (⟨"ChannelNet", "channelAt", "(I)LChannelNet$Channel;"⟩, 11), (⟨"ChannelNet$Channel", "makeState", "(II)V"⟩, 12), (⟨"ChannelNet", "payBalances", "(LChannelNet$Channel;I)V"⟩, 11), (⟨"ChannelNet", "findRoute", "(III)V"⟩, 11), (⟨"ChannelNet", "searchBack", "(IIIII)V"⟩, 11), (⟨"ChannelNet", "goOnFrom", "(IIIII)V"⟩, 11), (⟨"ChannelNet", "feeOf", "(II)I"⟩, 11), (⟨"ChannelNet", "fixDeadlines", "(LChannelNet$Payment;I)V"⟩, 11), (⟨"ChannelNet", "paymentAt", "(I)LChannelNet$Payment;"⟩, 11), (⟨"ChannelNet", "stepBack", "(LChannelNet$Payment;)V"⟩, 11), (⟨"ChannelNet", "canEnd", "(LChannelNet$Channel;LChannelNet$Promise;I)Z"⟩, 11), (⟨"ChannelNet", "endAs", "(LChannelNet$Channel;LChannelNet$Promise;I)V"⟩, 11)]
theorem lw_r1 : ∀ q ∈ lw_privs_1, lw_okq q := List.forall_mem_cons.mpr ⟨lw_p0, List.forall_mem_cons.mpr ⟨lw_p1, List.forall_mem_cons.mpr ⟨lw_p2, List.forall_mem_cons.mpr ⟨lw_p3, List.forall_mem_cons.mpr ⟨lw_p4, List.forall_mem_cons.mpr ⟨lw_p5, List.forall_mem_cons.mpr ⟨lw_p6, List.forall_mem_cons.mpr ⟨lw_p7, List.forall_mem_cons.mpr ⟨lw_p8, List.forall_mem_cons.mpr ⟨lw_p9, List.forall_mem_cons.mpr ⟨lw_p10, List.forall_mem_cons.mpr ⟨lw_p11, List.forall_mem_cons.mpr ⟨lw_p12, List.forall_mem_cons.mpr ⟨lw_p13, List.forall_mem_cons.mpr ⟨lw_p14, List.forall_mem_cons.mpr ⟨lw_p15, fun _ h => absurd h List.not_mem_nil⟩⟩⟩⟩⟩⟩⟩⟩⟩⟩⟩⟩⟩⟩⟩⟩
theorem lw_p16 : lw_okq (⟨"ChannelNet", "stepForward", "(LChannelNet$Payment;)V"⟩, 11) := ⟨⟨by decide +kernel, by decide +kernel⟩, List.mem_of_getElem? (i := 24) (by decide +kernel), List.mem_of_getElem? (i := 727) (by decide +kernel), List.mem_of_getElem? (i := 728) (by decide +kernel)⟩
theorem lw_p17 : lw_okq (⟨"ChannelNet", "payPunisher", "(LChannelNet$Channel;)V"⟩, 11) := ⟨⟨by decide +kernel, by decide +kernel⟩, List.mem_of_getElem? (i := 24) (by decide +kernel), List.mem_of_getElem? (i := 765) (by decide +kernel), List.mem_of_getElem? (i := 766) (by decide +kernel)⟩
theorem lw_p18 : lw_okq (⟨"ChannelNet", "payPromise", "(LChannelNet$Channel;LChannelNet$Promise;I)V"⟩, 11) := ⟨⟨by decide +kernel, by decide +kernel⟩, List.mem_of_getElem? (i := 24) (by decide +kernel), List.mem_of_getElem? (i := 783) (by decide +kernel), List.mem_of_getElem? (i := 784) (by decide +kernel)⟩
theorem lw_p19 : lw_okq (⟨"ChannelNet", "punishAsWatched", "()I"⟩, 11) := ⟨⟨by decide +kernel, by decide +kernel⟩, List.mem_of_getElem? (i := 24) (by decide +kernel), List.mem_of_getElem? (i := 819) (by decide +kernel), List.mem_of_getElem? (i := 820) (by decide +kernel)⟩
theorem lw_p20 : lw_okq (⟨"ChannelNetModel", "hasRoom", "(J)Z"⟩, 48) := ⟨⟨by decide +kernel, by decide +kernel⟩, List.mem_of_getElem? (i := 855) (by decide +kernel), List.mem_of_getElem? (i := 1026) (by decide +kernel), List.mem_of_getElem? (i := 1027) (by decide +kernel)⟩
theorem lw_p21 : lw_okq (⟨"ChannelNetModel", "find", "(J)I"⟩, 48) := ⟨⟨by decide +kernel, by decide +kernel⟩, List.mem_of_getElem? (i := 855) (by decide +kernel), List.mem_of_getElem? (i := 1030) (by decide +kernel), List.mem_of_getElem? (i := 1031) (by decide +kernel)⟩
theorem lw_p22 : lw_okq (⟨"ChannelNetModel", "learn", "(JI)V"⟩, 48) := ⟨⟨by decide +kernel, by decide +kernel⟩, List.mem_of_getElem? (i := 855) (by decide +kernel), List.mem_of_getElem? (i := 1034) (by decide +kernel), List.mem_of_getElem? (i := 1035) (by decide +kernel)⟩
theorem lw_p23 : lw_okq (⟨"ChannelNetModel", "isKnown", "(IJ)Z"⟩, 48) := ⟨⟨by decide +kernel, by decide +kernel⟩, List.mem_of_getElem? (i := 855) (by decide +kernel), List.mem_of_getElem? (i := 1046) (by decide +kernel), List.mem_of_getElem? (i := 1047) (by decide +kernel)⟩
theorem lw_p24 : lw_okq (⟨"ChannelNetModel", "isChannel", "(I)Z"⟩, 48) := ⟨⟨by decide +kernel, by decide +kernel⟩, List.mem_of_getElem? (i := 855) (by decide +kernel), List.mem_of_getElem? (i := 1065) (by decide +kernel), List.mem_of_getElem? (i := 1066) (by decide +kernel)⟩
theorem lw_p25 : lw_okq (⟨"ChannelNetModel", "sideOf", "(II)I"⟩, 48) := ⟨⟨by decide +kernel, by decide +kernel⟩, List.mem_of_getElem? (i := 855) (by decide +kernel), List.mem_of_getElem? (i := 1069) (by decide +kernel), List.mem_of_getElem? (i := 1070) (by decide +kernel)⟩
theorem lw_p26 : lw_okq (⟨"ChannelNetModel", "now", "(I)J"⟩, 48) := ⟨⟨by decide +kernel, by decide +kernel⟩, List.mem_of_getElem? (i := 855) (by decide +kernel), List.mem_of_getElem? (i := 1073) (by decide +kernel), List.mem_of_getElem? (i := 1074) (by decide +kernel)⟩
theorem lw_p27 : lw_okq (⟨"ChannelNetModel", "hasState", "(I)Z"⟩, 48) := ⟨⟨by decide +kernel, by decide +kernel⟩, List.mem_of_getElem? (i := 855) (by decide +kernel), List.mem_of_getElem? (i := 1080) (by decide +kernel), List.mem_of_getElem? (i := 1081) (by decide +kernel)⟩
theorem lw_p28 : lw_okq (⟨"ChannelNetModel", "balance", "(II)I"⟩, 48) := ⟨⟨by decide +kernel, by decide +kernel⟩, List.mem_of_getElem? (i := 855) (by decide +kernel), List.mem_of_getElem? (i := 1084) (by decide +kernel), List.mem_of_getElem? (i := 1085) (by decide +kernel)⟩
theorem lw_p29 : lw_okq (⟨"ChannelNetModel", "addPromise", "(IIIJI)I"⟩, 48) := ⟨⟨by decide +kernel, by decide +kernel⟩, List.mem_of_getElem? (i := 855) (by decide +kernel), List.mem_of_getElem? (i := 1088) (by decide +kernel), List.mem_of_getElem? (i := 1089) (by decide +kernel)⟩
theorem lw_p30 : lw_okq (⟨"ChannelNetModel", "next", "(IIIJ)V"⟩, 48) := ⟨⟨by decide +kernel, by decide +kernel⟩, List.mem_of_getElem? (i := 855) (by decide +kernel), List.mem_of_getElem? (i := 1092) (by decide +kernel), List.mem_of_getElem? (i := 1093) (by decide +kernel)⟩
theorem lw_p31 : lw_okq (⟨"ChannelNetModel", "keepPromise", "(II)V"⟩, 48) := ⟨⟨by decide +kernel, by decide +kernel⟩, List.mem_of_getElem? (i := 855) (by decide +kernel), List.mem_of_getElem? (i := 1103) (by decide +kernel), List.mem_of_getElem? (i := 1104) (by decide +kernel)⟩
def lw_privs_2 : List (MethodName × Nat) := [(⟨"ChannelNet", "stepForward", "(LChannelNet$Payment;)V"⟩, 11), (⟨"ChannelNet", "payPunisher", "(LChannelNet$Channel;)V"⟩, 11), (⟨"ChannelNet", "payPromise", "(LChannelNet$Channel;LChannelNet$Promise;I)V"⟩, 11), (⟨"ChannelNet", "punishAsWatched", "()I"⟩, 11), (⟨"ChannelNetModel", "hasRoom", "(J)Z"⟩, 48), (⟨"ChannelNetModel", "find", "(J)I"⟩, 48), (⟨"ChannelNetModel", "learn", "(JI)V"⟩, 48), (⟨"ChannelNetModel", "isKnown", "(IJ)Z"⟩, 48), (⟨"ChannelNetModel", "isChannel", "(I)Z"⟩, 48), (⟨"ChannelNetModel", "sideOf", "(II)I"⟩, 48), (⟨"ChannelNetModel", "now", "(I)J"⟩, 48), (⟨"ChannelNetModel", "hasState", "(I)Z"⟩, 48), (⟨"ChannelNetModel", "balance", "(II)I"⟩, 48), (⟨"ChannelNetModel", "addPromise", "(IIIJI)I"⟩, 48), (⟨"ChannelNetModel", "next", "(IIIJ)V"⟩, 48), (⟨"ChannelNetModel", "keepPromise", "(II)V"⟩, 48)]
theorem lw_r2 : ∀ q ∈ lw_privs_2, lw_okq q := List.forall_mem_cons.mpr ⟨lw_p16, List.forall_mem_cons.mpr ⟨lw_p17, List.forall_mem_cons.mpr ⟨lw_p18, List.forall_mem_cons.mpr ⟨lw_p19, List.forall_mem_cons.mpr ⟨lw_p20, List.forall_mem_cons.mpr ⟨lw_p21, List.forall_mem_cons.mpr ⟨lw_p22, List.forall_mem_cons.mpr ⟨lw_p23, List.forall_mem_cons.mpr ⟨lw_p24, List.forall_mem_cons.mpr ⟨lw_p25, List.forall_mem_cons.mpr ⟨lw_p26, List.forall_mem_cons.mpr ⟨lw_p27, List.forall_mem_cons.mpr ⟨lw_p28, List.forall_mem_cons.mpr ⟨lw_p29, List.forall_mem_cons.mpr ⟨lw_p30, List.forall_mem_cons.mpr ⟨lw_p31, fun _ h => absurd h List.not_mem_nil⟩⟩⟩⟩⟩⟩⟩⟩⟩⟩⟩⟩⟩⟩⟩⟩
theorem lw_p32 : lw_okq (⟨"ChannelNetModel", "nodeOf", "(II)I"⟩, 48) := ⟨⟨by decide +kernel, by decide +kernel⟩, List.mem_of_getElem? (i := 855) (by decide +kernel), List.mem_of_getElem? (i := 1108) (by decide +kernel), List.mem_of_getElem? (i := 1109) (by decide +kernel)⟩
theorem lw_p33 : lw_okq (⟨"ChannelNetModel", "dropPromise", "(II)V"⟩, 48) := ⟨⟨by decide +kernel, by decide +kernel⟩, List.mem_of_getElem? (i := 855) (by decide +kernel), List.mem_of_getElem? (i := 1116) (by decide +kernel), List.mem_of_getElem? (i := 1117) (by decide +kernel)⟩
theorem lw_p34 : lw_okq (⟨"ChannelNetModel", "shut", "(I)V"⟩, 48) := ⟨⟨by decide +kernel, by decide +kernel⟩, List.mem_of_getElem? (i := 855) (by decide +kernel), List.mem_of_getElem? (i := 1124) (by decide +kernel), List.mem_of_getElem? (i := 1125) (by decide +kernel)⟩
theorem lw_p35 : lw_okq (⟨"ChannelNetModel", "isProper", "(III)Z"⟩, 48) := ⟨⟨by decide +kernel, by decide +kernel⟩, List.mem_of_getElem? (i := 855) (by decide +kernel), List.mem_of_getElem? (i := 1132) (by decide +kernel), List.mem_of_getElem? (i := 1133) (by decide +kernel)⟩
theorem lw_p36 : lw_okq (⟨"ChannelNetModel", "search", "(III)V"⟩, 48) := ⟨⟨by decide +kernel, by decide +kernel⟩, List.mem_of_getElem? (i := 855) (by decide +kernel), List.mem_of_getElem? (i := 1137) (by decide +kernel), List.mem_of_getElem? (i := 1138) (by decide +kernel)⟩
theorem lw_p37 : lw_okq (⟨"ChannelNetModel", "carries", "(IIJ)Z"⟩, 48) := ⟨⟨by decide +kernel, by decide +kernel⟩, List.mem_of_getElem? (i := 855) (by decide +kernel), List.mem_of_getElem? (i := 1141) (by decide +kernel), List.mem_of_getElem? (i := 1142) (by decide +kernel)⟩
theorem lw_p38 : lw_okq (⟨"ChannelNetModel", "isBetter", "(I)Z"⟩, 48) := ⟨⟨by decide +kernel, by decide +kernel⟩, List.mem_of_getElem? (i := 855) (by decide +kernel), List.mem_of_getElem? (i := 1145) (by decide +kernel), List.mem_of_getElem? (i := 1146) (by decide +kernel)⟩
theorem lw_p39 : lw_okq (⟨"ChannelNetModel", "forward", "(I)I"⟩, 48) := ⟨⟨by decide +kernel, by decide +kernel⟩, List.mem_of_getElem? (i := 855) (by decide +kernel), List.mem_of_getElem? (i := 1163) (by decide +kernel), List.mem_of_getElem? (i := 1164) (by decide +kernel)⟩
theorem lw_p40 : lw_okq (⟨"ChannelNetModel", "turn", "(II)I"⟩, 48) := ⟨⟨by decide +kernel, by decide +kernel⟩, List.mem_of_getElem? (i := 855) (by decide +kernel), List.mem_of_getElem? (i := 1167) (by decide +kernel), List.mem_of_getElem? (i := 1168) (by decide +kernel)⟩
theorem lw_p41 : lw_okq (⟨"ChannelNetModel", "backward", "(I)I"⟩, 48) := ⟨⟨by decide +kernel, by decide +kernel⟩, List.mem_of_getElem? (i := 855) (by decide +kernel), List.mem_of_getElem? (i := 1171) (by decide +kernel), List.mem_of_getElem? (i := 1172) (by decide +kernel)⟩
theorem lw_p42 : lw_okq (⟨"ChannelNetModel", "mayPunish", "(I)Z"⟩, 48) := ⟨⟨by decide +kernel, by decide +kernel⟩, List.mem_of_getElem? (i := 855) (by decide +kernel), List.mem_of_getElem? (i := 1187) (by decide +kernel), List.mem_of_getElem? (i := 1188) (by decide +kernel)⟩
theorem lw_p43 : lw_okq (⟨"ChannelNetModel", "punished", "(I)V"⟩, 48) := ⟨⟨by decide +kernel, by decide +kernel⟩, List.mem_of_getElem? (i := 855) (by decide +kernel), List.mem_of_getElem? (i := 1191) (by decide +kernel), List.mem_of_getElem? (i := 1192) (by decide +kernel)⟩
theorem lw_p44 : lw_okq (⟨"ChannelNetModel", "other", "(I)I"⟩, 48) := ⟨⟨by decide +kernel, by decide +kernel⟩, List.mem_of_getElem? (i := 855) (by decide +kernel), List.mem_of_getElem? (i := 1195) (by decide +kernel), List.mem_of_getElem? (i := 1196) (by decide +kernel)⟩
theorem lw_p45 : lw_okq (⟨"ChannelNetModel", "isLeft", "(II)Z"⟩, 48) := ⟨⟨by decide +kernel, by decide +kernel⟩, List.mem_of_getElem? (i := 855) (by decide +kernel), List.mem_of_getElem? (i := 1203) (by decide +kernel), List.mem_of_getElem? (i := 1204) (by decide +kernel)⟩
theorem lw_p46 : lw_okq (⟨"ChannelNetModel", "goes", "(III)I"⟩, 48) := ⟨⟨by decide +kernel, by decide +kernel⟩, List.mem_of_getElem? (i := 855) (by decide +kernel), List.mem_of_getElem? (i := 1207) (by decide +kernel), List.mem_of_getElem? (i := 1208) (by decide +kernel)⟩
def lw_privs_3 : List (MethodName × Nat) := [(⟨"ChannelNetModel", "nodeOf", "(II)I"⟩, 48), (⟨"ChannelNetModel", "dropPromise", "(II)V"⟩, 48), (⟨"ChannelNetModel", "shut", "(I)V"⟩, 48), (⟨"ChannelNetModel", "isProper", "(III)Z"⟩, 48), (⟨"ChannelNetModel", "search", "(III)V"⟩, 48), (⟨"ChannelNetModel", "carries", "(IIJ)Z"⟩, 48), (⟨"ChannelNetModel", "isBetter", "(I)Z"⟩, 48), (⟨"ChannelNetModel", "forward", "(I)I"⟩, 48), (⟨"ChannelNetModel", "turn", "(II)I"⟩, 48), (⟨"ChannelNetModel", "backward", "(I)I"⟩, 48), (⟨"ChannelNetModel", "mayPunish", "(I)Z"⟩, 48), (⟨"ChannelNetModel", "punished", "(I)V"⟩, 48), (⟨"ChannelNetModel", "other", "(I)I"⟩, 48), (⟨"ChannelNetModel", "isLeft", "(II)Z"⟩, 48), (⟨"ChannelNetModel", "goes", "(III)I"⟩, 48)]
theorem lw_r3 : ∀ q ∈ lw_privs_3, lw_okq q := List.forall_mem_cons.mpr ⟨lw_p32, List.forall_mem_cons.mpr ⟨lw_p33, List.forall_mem_cons.mpr ⟨lw_p34, List.forall_mem_cons.mpr ⟨lw_p35, List.forall_mem_cons.mpr ⟨lw_p36, List.forall_mem_cons.mpr ⟨lw_p37, List.forall_mem_cons.mpr ⟨lw_p38, List.forall_mem_cons.mpr ⟨lw_p39, List.forall_mem_cons.mpr ⟨lw_p40, List.forall_mem_cons.mpr ⟨lw_p41, List.forall_mem_cons.mpr ⟨lw_p42, List.forall_mem_cons.mpr ⟨lw_p43, List.forall_mem_cons.mpr ⟨lw_p44, List.forall_mem_cons.mpr ⟨lw_p45, List.forall_mem_cons.mpr ⟨lw_p46, fun _ h => absurd h List.not_mem_nil⟩⟩⟩⟩⟩⟩⟩⟩⟩⟩⟩⟩⟩⟩⟩
def lw_privs : List (MethodName × Nat) := lw_privs_1 ++ (lw_privs_2 ++ (lw_privs_3))
def lw_tbl : List Cond := k2_sels lw_privs ++ tables_1
theorem lw_privs_ok : ∀ q ∈ lw_privs, lw_okq q := by
  show ∀ q ∈ lw_privs_1 ++ (lw_privs_2 ++ (lw_privs_3)), lw_okq q
  exact List.forall_mem_append.mpr ⟨lw_r1, List.forall_mem_append.mpr ⟨lw_r2, lw_r3⟩⟩
-- ===== end of PART A; then your names; then what follows =====
end
section
/-! ===== BEGIN words of one list among another's, by their places ===== -/
theorem goodIn_r {big : List Cond} (ws : List Cond) (ps : List Nat) (hp : ws = ps.filterMap (fun i => big[i]?)) (h : ws.all goodWord = true) : GoodIn big ws := by
  intro w hw
  have h1 := List.all_eq_true.mp h w hw
  rw [hp] at hw
  obtain ⟨i, -, hi⟩ := List.mem_filterMap.mp hw
  have hm : w ∈ big := by first | exact List.mem_of_getElem? hi | exact List.getElem?_mem hi
  exact ⟨hm, good_of_word h1⟩
theorem goodIn_app {big a b : List Cond} (ha : GoodIn big a) (hb : GoodIn big b) : GoodIn big (a ++ b) := fun w h => (List.mem_append.mp h).elim (ha w) (hb w)
theorem goodIn_ca {big a b : List Cond} {c : Cond} (ha : GoodIn big (c :: a)) (hb : GoodIn big b) : GoodIn big (c :: (a ++ b)) := fun w h => (List.mem_cons.mp h).elim (fun e => ha w (List.mem_cons.mpr (Or.inl e))) (fun h => (List.mem_append.mp h).elim (fun h => ha w (List.mem_cons.mpr (Or.inr h))) (hb w))
theorem goodIn_sub {big ws : List Cond} (hm : ∀ w ∈ ws, w ∈ big) (h : ws.all goodWord = true) : GoodIn big ws := fun w hw => ⟨hm w hw, good_of_word (List.all_eq_true.mp h w hw)⟩
/-! ===== END ===== -/

/-! ===== BEGIN exceptions that leave a method, and their catching by the caller (launches without stack traces) ===== -/
section VXA
/-! The laws vx_back, vx_callV, vx_callS, vx_callSW, vx_throw0, vx_throwS follow proofs of the library, with one case more: JvmDerived/Free/Laws.lean (Back.of_free), Shelf42/LK1.lean (callV, callS), Shelf/KitTraced.lean (throwNew0V, throwNewS). -/
/-- where a method has thrown q: the class by its name, the cell, what was written, the world -/
def vx_T (XC : String → State → State → Prop) (st : State) (q : Addr) (t : State) (mc ms : Nat) (free : Addr → Prop) : Prop :=
  ∃ (E : String) (ce : Cell) (L : List Loc), XC E st t ∧ t.heap[q]? = some ce ∧ ce.vm = .none ∧ st.vm.findClass E = some ce.cls ∧ st.WarmedH t.vm ∧ st.sameButNew ({ t with vm := st.vm } : State) L mc ms ∧ ∀ z ∈ L, free z.base
def vx_Q (Qc : Array Value → State → Outcome → State → Prop) (XC : String → State → State → Prop) (mc ms : Nat) (free : Addr → Prop) : Array Value → State → Outcome → State → Prop := fun a st o t =>
  (Qc a st o t ∧ ∃ L, FrameEnd st o t L mc ms ∧ ∀ q ∈ L, free q.base) ∨ ∃ q, o = .threw q ∧ vx_T XC st q t mc ms free
/-- a callee that returns or throws -/
def vx_Met (l : Launch) (y : MethodName) (ws : List Cond) (rm : Room) (Pc : Array Value → State → Prop) (Qc : Array Value → State → Outcome → State → Prop) (XC : String → State → State → Prop) (mc ms : Nat) (free : Addr → Prop) : Prop :=
  MetFree l y (headSpec ws rm) Pc (fun _ _ _ _ _ => True) (vx_Q Qc XC mc ms free)
def vx_Post (XC : String → State → State → Prop) (mc ms : Nat) (free : Addr → Prop) : Pt → Array Value → Addr → Pt → Prop := fun A a q B =>
  ∃ (g : JFrame) (mk : MethodId) (t : State) (L : List Loc) (E : String) (ce : Cell), B.U.heap = t.heap ∧ B.U.vm = t.vm ∧ XC E (A.U.calling g mk a) t ∧ t.heap[q]? = some ce ∧ ce.vm = .none ∧ A.U.vm.findClass E = some ce.cls ∧ B.locs = A.locs ++ L ∧ (∀ z ∈ L, free z.base) ∧ B.cells = A.cells + mc ∧ B.slots = A.slots + ms
def vx_Back (l : Launch) (R : Room) (p : Program) (e : Env) (below : List Frame) (s : State) (sargs : Array Value) (y : MethodName) (len W9 : Nat)
    (Pre : Pt → Array Value → Prop) (Post : Pt → Array Value → Option Value → Pt → Prop) (PostX : Pt → Array Value → Addr → Pt → Prop) : Prop :=
  ∀ (m : MethodId) (meth : Method) (c : Code) (A : Pt) (g : JFrame) (ig : Instr) (mk : MethodId) (a : Array Value),
    Stand p l e R s m sargs below meth c A.U A.locs A.cells A.slots → g.method = m → g.locals.size = c.maxLocals → decode c.code g.pc = .ok (ig, len) →
    2 * g.monitorRoom + (g.stack.map fun v => v.category).sum ≤ W9 → A.U.methodNamed? y = some mk → Pre A a →
    (∃ (v : Option Value) (B : Pt), Stand p l e R s m sargs below meth c B.U B.locs B.cells B.slots ∧ Post A a v B ∧
      Steps p.tables e below (doInvoke e (A.U.setTop g) [] mk a).1 (B.U.setTop { g with pc := g.pc + len, stack := v.toList ++ g.stack })) ∨
    (∃ (q : Addr) (B : Pt), Stand p l e R s m sargs below meth c B.U B.locs B.cells B.slots ∧ PostX A a q B ∧
      Steps p.tables e below (doInvoke e (A.U.setTop g) [] mk a).1 ((B.U.setTop g).pushFrame (.throwing q)))
section Payer
variable {l : Launch} {R : Room} {p : Program} {e : Env} {below : List Frame} {s : State} {sargs : Array Value} {y : MethodName} {len W9 : Nat}
theorem vx_back {ws : List Cond} {rm : Room} {Pc : Array Value → State → Prop} {Qc : Array Value → State → Outcome → State → Prop} {XC : String → State → State → Prop} {mc ms : Nat} {free : Addr → Prop} {bytes : ByteArray} {maxL : Nat} {ret : Option FieldType}
    (hM : vx_Met l y ws rm Pc Qc XC mc ms free) (hblind : FrameBlind Pc) (hrc : rm.cells = mc) (hrs : rm.slots = ms)
    (hframes : rm.frames + 1 ≤ R.frames) (hlocals : W9 + (maxL + 11) + rm.locals ≤ R.locals)
    (hws : ∀ w ∈ ws, ∀ a' U, s.WarmedH U.vm → w.before a' U = true) (hcode : Cond.code y bytes maxL ret ∈ ws) (hinit : ∀ a' U, s.WarmedH U.vm → (Cond.initialized y.cls).before a' U = true) :
    vx_Back l R p e below s sargs y len W9 (PreOf R mc ms Pc) (PostOf Qc mc ms free) (vx_Post XC mc ms free) := by
  intro m meth c A g ig mk a X hg hsize hdg hW hn hp
  have h1 : (headSpec ws rm).pre.before a A.U = true := atoms_intro fun w hw => hws w hw _ _ X.warmed
  have h2 : (Cond.code y bytes maxL ret).before a A.U = true := hws _ hcode _ _ X.warmed
  have h3 : (Cond.initialized y.cls).before a A.U = true := hinit _ _ X.warmed
  have h4 : A.cells + (headSpec ws rm).room.cells ≤ R.cells := by rw [show (headSpec ws rm).room.cells = mc from hrc]; exact hp.1
  have h5 : A.slots + (headSpec ws rm).room.slots ≤ R.slots := by rw [show (headSpec ws rm).room.slots = ms from hrs]; exact hp.2.1
  have hPc : Pc a (A.U.calling g mk a) := hblind _ _ _ _ hp.2.2
  obtain ⟨U, Ls, c0, s0⟩ := A
  dsimp only [Pt.U, Pt.locs, Pt.cells, Pt.slots] at h1 h2 h3 h4 h5 X hn hPc ⊢
  obtain ⟨methY, cY, hmY, hcY, -, hlY, -, -, -, -⟩ := Cond.code_spec hn h2
  obtain ⟨kY, hkY, -⟩ := className_of_methodNamed hn
  have hinitY : kY.init = .initialized := Cond.initialized_spec (findClass_of_methodNamed hn) hkY h3
  have h : At U g.method c below := by rw [hg]; exact X.here
  have hlocals9 : W9 + (maxL + 11) + (headSpec ws rm).room.locals ≤ R.locals := hlocals
  have happ : (headSpec ws rm).appliesLoose y e.platform (U.calling g mk a) = true :=
    Spec.appliesLoose_calling (g := g) h hdg hn hkY hinitY
      (X.room_calling (g := g) (R' := (headSpec ws rm).room) hsize hmY hcY hframes (by rw [hlY]; omega) h4 h5) h1
  obtain ⟨mid, hmid⟩ := h.above
  have hfr : (U.setTop g).frames = (.java g :: mid) ++ below := by rw [State.frames_setTop' g h.top, hmid]; rfl
  obtain ⟨o, s₂, hsteps, -, hend, hq⟩ := Steps.callFree hM p X.admits X.cas X.clock (acts := []) hfr happ hPc trivial
  have hq' : vx_Q Qc XC mc ms free a (U.calling g mk a) o s₂ := hq
  rw [State.frames_setTop' g h.top] at hend
  obtain ⟨g₀, hg0⟩ := Option.isSome_iff_exists.mp h.top
  obtain ⟨r, hr⟩ := State.topJava?_eq_some.mp hg0
  have hr' : (({ U with heap := s₂.heap, slotsUsed := s₂.slotsUsed } : State).setVm s₂.vm).frames = .java g₀ :: r := hr
  rcases hq' with ⟨hqc, L, hfe, hL⟩ | ⟨q, rfl, E, ce, L, hx, hce, hcv, hcl, hW₂, hsm, hL⟩
  · obtain ⟨⟨v, rfl⟩, hW₂, e2, q2, q3, q4, q5, q6⟩ := id hfe
    have e3 : s₂ = ({ (U.calling g mk a).setFrames s₂.frames with heap := s₂.heap, slotsUsed := s₂.slotsUsed } : State).setVm s₂.vm := by
      have : s₂ = ({ s₂ with vm := (U.calling g mk a).vm } : State).setVm s₂.vm := rfl
      rw [e2] at this
      exact this
    obtain ⟨c₂, i₂, len₂, hc₂, hd₂, hf₂⟩ := hend
    have hW' : U.WarmedH s₂.vm := hW₂
    have hcc : c₂ = c := by
      have h1 : s₂.code? g.method = U.code? g.method := by
        rw [State.code?_eq, State.code?_eq, hW'.alike.method?]
      exact Option.some.inj (hc₂.symm.trans (h1.trans h.code))
    subst hcc
    have hlen : len₂ = len := by rw [hdg] at hd₂; cases hd₂; rfl
    subst hlen
    have hs₂ : s₂ = (({ U with heap := s₂.heap, slotsUsed := s₂.slotsUsed } : State).setVm s₂.vm).setTop { g with pc := g.pc + len₂, stack := v.toList ++ g.stack } := by
      refine e3.trans ?_
      rw [hf₂, State.calling_eq h.top, State.setFrames_setFrames, State.setTop_of_frames _ hr', hr]
      rfl
    have hsame : U.sameButNew ({ U with heap := s₂.heap, slotsUsed := s₂.slotsUsed } : State) L mc ms := by
      refine ⟨?_, q2, q3, q4, q5, q6⟩
      obtain ⟨t, ht, -⟩ := State.frames_cons hr
      show ({ U with heap := s₂.heap, slotsUsed := s₂.slotsUsed } : State) = { U.setFrames U.frames with heap := s₂.heap, slotsUsed := s₂.slotsUsed }
      rw [State.setFrames_self ht]
    subst hg
    refine Or.inl ⟨v, ⟨(({ U with heap := s₂.heap, slotsUsed := s₂.slotsUsed } : State).setVm s₂.vm), Ls ++ L, c0 + mc, s0 + ms⟩,
      ⟨X.admits, X.cas, X.clock, X.frames, X.room, X.hears, X.method, X.code, (X.here.setHeapUsed s₂.heap s₂.slotsUsed).setVm hW'.alike, X.tail, State.WarmedH.trans X.warmed hW', X.limits, X.bytes, X.same.trans (hsame.setVm s.vm)⟩,
      ⟨g, mk, s₂, L, rfl, rfl, hqc, rfl, hL, rfl, rfl⟩, ?_⟩
    show Steps p.tables e below _ ((({ U with heap := s₂.heap, slotsUsed := s₂.slotsUsed } : State).setVm s₂.vm).setTop { g with pc := g.pc + len₂, stack := v.toList ++ g.stack })
    rw [← hs₂]
    exact hsteps
  · obtain ⟨e2, q2, q3, q4, q5, q6⟩ := id hsm
    have e3 : s₂ = ({ (U.calling g mk a).setFrames s₂.frames with heap := s₂.heap, slotsUsed := s₂.slotsUsed } : State).setVm s₂.vm := by
      have : s₂ = ({ s₂ with vm := (U.calling g mk a).vm } : State).setVm s₂.vm := rfl
      rw [e2] at this
      exact this
    have hf₂ : s₂.frames = .throwing q :: .java g :: U.frames.tail := hend
    have hW' : U.WarmedH s₂.vm := hW₂
    have hs₂ : s₂ = ((({ U with heap := s₂.heap, slotsUsed := s₂.slotsUsed } : State).setVm s₂.vm).setTop g).pushFrame (.throwing q) := by
      refine e3.trans ?_
      rw [hf₂, State.calling_eq h.top, State.setFrames_setFrames, State.pushFrame, State.frames_setTop _ hr', State.setTop_of_frames _ hr', State.setFrames_setFrames, hr]
      rfl
    have hsame : U.sameButNew ({ U with heap := s₂.heap, slotsUsed := s₂.slotsUsed } : State) L mc ms := by
      refine ⟨?_, q2, q3, q4, q5, q6⟩
      obtain ⟨t, ht, -⟩ := State.frames_cons hr
      show ({ U with heap := s₂.heap, slotsUsed := s₂.slotsUsed } : State) = { U.setFrames U.frames with heap := s₂.heap, slotsUsed := s₂.slotsUsed }
      rw [State.setFrames_self ht]
    subst hg
    refine Or.inr ⟨q, ⟨(({ U with heap := s₂.heap, slotsUsed := s₂.slotsUsed } : State).setVm s₂.vm), Ls ++ L, c0 + mc, s0 + ms⟩,
      ⟨X.admits, X.cas, X.clock, X.frames, X.room, X.hears, X.method, X.code, (X.here.setHeapUsed s₂.heap s₂.slotsUsed).setVm hW'.alike, X.tail, State.WarmedH.trans X.warmed hW', X.limits, X.bytes, X.same.trans (hsame.setVm s.vm)⟩,
      ⟨g, mk, s₂, L, E, ce, rfl, rfl, hx, hce, hcv, hcl, rfl, hL, rfl, rfl⟩, ?_⟩
    show Steps p.tables e below _ (((({ U with heap := s₂.heap, slotsUsed := s₂.slotsUsed } : State).setVm s₂.vm).setTop g).pushFrame (.throwing q))
    rw [← hs₂]
    exact hsteps
end Payer
section Calls
variable {p : Program} {l : Launch} {e : Env} {R : Room} {s : State} {m : MethodId} {args : Array Value} {below : List Frame} {meth : Method} {c : Code} {T : State} {locs : List Loc} {cells slots : Nat}
theorem vx_callV (X : Stand p l e R s m args below meth c T locs cells slots) (hexec : p.tables.exec = Jvm.exec) {own C : String} {index : Nat} {y : MethodName} {bytes : ByteArray} {maxL : Nat} {ret : Option FieldType}
    (hown : s.vm.findClass own = some m.cls) (hlink : (Cond.methodLink own index y).before args s = true) (hinst : (Cond.instanceMethod y).before args s = true) (hsel : (Cond.selects C y y).before args s = true)
    (hcode : (Cond.code y bytes maxL ret).before args s = true) (hy : y.cls ≠ "java/lang/invoke/MethodHandle" ∧ y.cls ≠ "java/lang/invoke/VarHandle")
    {W9 : Nat} {Pre : Pt → Array Value → Prop} {Post : Pt → Array Value → Option Value → Pt → Prop} {PostX : Pt → Array Value → Addr → Pt → Prop} (hK : vx_Back l R p e below s args y 3 W9 Pre Post PostX)
    {b : Addr} {cellB : Cell} (hcell : T.heap[b]? = some cellB) (hobj : cellB.vm.isStatics = false) (hcls : s.vm.findClass C = some cellB.cls)
    {g : JFrame} (hg : g.method = m) (hsize : g.locals.size = c.maxLocals) {argsL rest : List Value} (hlen : ∀ sig, parseMethodDescriptor y.desc = some sig → argsL.length = sig.parameters.length)
    (hstack : g.stack = argsL.reverse ++ .ref b :: rest) (hW : 2 * g.monitorRoom + (rest.map fun v => v.category).sum ≤ W9) (hdg : decode c.code g.pc = .ok (.invokevirtual index, 3))
    (hpre : ∀ vm₁, s.WarmedH vm₁ → Pre ⟨T.setVm vm₁, locs, cells, slots⟩ (Value.ref b :: argsL).toArray) :
    (∃ (v : Option Value) (vm₁ : Vm) (B : Pt), s.WarmedH vm₁ ∧ Stand p l e R s m args below meth c B.U B.locs B.cells B.slots ∧ Post ⟨T.setVm vm₁, locs, cells, slots⟩ (Value.ref b :: argsL).toArray v B ∧
      ∀ target, Steps p.tables e below (B.U.setTop { g with pc := g.pc + 3, stack := v.toList ++ rest }) target → Steps p.tables e below (T.setTop g) target) ∨
    (∃ (q : Addr) (vm₁ : Vm) (B : Pt), s.WarmedH vm₁ ∧ Stand p l e R s m args below meth c B.U B.locs B.cells B.slots ∧ PostX ⟨T.setVm vm₁, locs, cells, slots⟩ (Value.ref b :: argsL).toArray q B ∧
      Steps p.tables e below (T.setTop g) ((B.U.setTop { g with stack := rest }).pushFrame (.throwing q))) := by
  obtain ⟨mk, methM, hnamed, hmethM, hstM, habM⟩ := Cond.instanceMethod_spec hinst
  obtain ⟨methM', cM, hmethM', -, -, -, -, -, -, hsigM⟩ := Cond.code_spec hnamed hcode
  cases hmethM.symm.trans hmethM'
  obtain ⟨c2, r2, m2, q1, q2, q3, q4, kP, hkP, hkPi⟩ := Cond.selects_spec hsel
  cases hcls.symm.trans q1
  cases (State.methodFound?_of_named hnamed hy).symm.trans q2
  cases hnamed.symm.trans q3
  have hselP : selectMethod e.platform s.vm cellB.cls mk = .method mk := by rw [Launch.admits_selectMethod X.admits]; exact q4
  obtain ⟨vm₁, X₁, hstep₁⟩ := X.invokevirtual hexec hown hlink hnamed hmethM hstM hkP hkPi hy (a := b) (cell := cellB) hcell
    (fun z h => by rw [h] at hobj; cases hobj) hselP hmethM habM hkP hkPi (g := g) hg (argsL := argsL) (rest := rest) (hlen _ hsigM) hstack hdg
  rcases hK m meth c ⟨T.setVm vm₁, locs, cells, slots⟩ { g with stack := rest } (.invokevirtual index) mk (Value.ref b :: argsL).toArray X₁ hg hsize hdg hW (X₁.named hnamed) (hpre vm₁ X₁.warmed) with ⟨v, B, X', hpost, hsteps⟩ | ⟨q, B, X', hpost, hsteps⟩
  · exact Or.inl ⟨v, vm₁, B, X₁.warmed, X', hpost, fun target h => hstep₁ _ fun acts => by rw [doInvoke_state]; exact hsteps.trans h⟩
  · exact Or.inr ⟨q, vm₁, B, X₁.warmed, X', hpost, hstep₁ _ fun acts => by rw [doInvoke_state]; exact hsteps⟩
theorem vx_callS (X : Stand p l e R s m args below meth c T locs cells slots) (hexec : p.tables.exec = Jvm.exec) {own : String} {index : Nat} {y : MethodName} {bytes : ByteArray} {maxL : Nat} {ret : Option FieldType}
    (hown : s.vm.findClass own = some m.cls) (hlink : (Cond.methodLink own index y).before args s = true) (hstat : (Cond.static y).before args s = true) (hinit : (Cond.initialized y.cls).before args s = true)
    (hcode : (Cond.code y bytes maxL ret).before args s = true) (hy : y.cls ≠ "java/lang/invoke/MethodHandle" ∧ y.cls ≠ "java/lang/invoke/VarHandle")
    {W9 : Nat} {Pre : Pt → Array Value → Prop} {Post : Pt → Array Value → Option Value → Pt → Prop} {PostX : Pt → Array Value → Addr → Pt → Prop} (hK : vx_Back l R p e below s args y 3 W9 Pre Post PostX)
    {g : JFrame} (hg : g.method = m) (hsize : g.locals.size = c.maxLocals) {argsL rest : List Value} (hlen : ∀ sig, parseMethodDescriptor y.desc = some sig → argsL.length = sig.parameters.length)
    (hstack : g.stack = argsL.reverse ++ rest) (hW : 2 * g.monitorRoom + (rest.map fun v => v.category).sum ≤ W9) (hdg : decode c.code g.pc = .ok (.invokestatic index, 3))
    (hpre : ∀ vm₁, s.WarmedH vm₁ → Pre ⟨T.setVm vm₁, locs, cells, slots⟩ argsL.toArray) :
    (∃ (v : Option Value) (vm₁ : Vm) (B : Pt), s.WarmedH vm₁ ∧ Stand p l e R s m args below meth c B.U B.locs B.cells B.slots ∧ Post ⟨T.setVm vm₁, locs, cells, slots⟩ argsL.toArray v B ∧
      ∀ target, Steps p.tables e below (B.U.setTop { g with pc := g.pc + 3, stack := v.toList ++ rest }) target → Steps p.tables e below (T.setTop g) target) ∨
    (∃ (q : Addr) (vm₁ : Vm) (B : Pt), s.WarmedH vm₁ ∧ Stand p l e R s m args below meth c B.U B.locs B.cells B.slots ∧ PostX ⟨T.setVm vm₁, locs, cells, slots⟩ argsL.toArray q B ∧
      Steps p.tables e below (T.setTop g) ((B.U.setTop { g with stack := rest }).pushFrame (.throwing q))) := by
  obtain ⟨mk, hnamed⟩ := Cond.code_named hcode
  obtain ⟨methM, cM, hmethM, -, -, -, -, -, -, hsigM⟩ := Cond.code_spec hnamed hcode
  have hstatic : methM.isStatic = true := Cond.static_spec hnamed hmethM hstat
  obtain ⟨kP, hkP, -⟩ := className_of_methodNamed hnamed
  have hinitP : kP.init = .initialized := Cond.initialized_spec (findClass_of_methodNamed hnamed) hkP hinit
  obtain ⟨vm₁, X₁, hstep₁⟩ := X.invokestatic hexec hown hlink hnamed hmethM hstatic hkP hinitP hy (g := g) hg (argsL := argsL) (rest := rest) (hlen _ hsigM) hstack hdg
  rcases hK m meth c ⟨T.setVm vm₁, locs, cells, slots⟩ { g with stack := rest } (.invokestatic index) mk argsL.toArray X₁ hg hsize hdg hW (X₁.named hnamed) (hpre vm₁ X₁.warmed) with ⟨v, B, X', hpost, hsteps⟩ | ⟨q, B, X', hpost, hsteps⟩
  · exact Or.inl ⟨v, vm₁, B, X₁.warmed, X', hpost, fun target h => hstep₁ _ fun acts => by rw [doInvoke_state]; exact hsteps.trans h⟩
  · exact Or.inr ⟨q, vm₁, B, X₁.warmed, X', hpost, hstep₁ _ fun acts => by rw [doInvoke_state]; exact hsteps⟩
end Calls
theorem vx_cls {s : State} {T : State} {vm₁ : Vm} {E : String} {k : ClassId} (hW : s.WarmedH vm₁) (h : (T.setVm vm₁).vm.findClass E = some k) : s.vm.findClass E = some k := by
  have h1 : vm₁.findClass E = some k := h
  rw [hW.alike.findClass] at h1
  exact h1
/-- the method's frame g, with q thrown over it -/
def vx_W (p : Program) (l : Launch) (e : Env) (R : Room) (s : State) (m : MethodId) (args : Array Value) (below : List Frame) (meth : Method) (c : Code) (H : Heap) (locs : List Loc) (cells slots : Nat) (Q : State → Prop) (g : JFrame) (q : Addr) : Prop :=
  ∀ T : State, T.heap = H → Stand p l e R s m args below meth c T locs cells slots → ∃ t, Steps p.tables e below ((T.setTop g).pushFrame (.throwing q)) t ∧ Q t
def vx_Run (p : Program) (l : Launch) (e : Env) (R : Room) (s : State) (m : MethodId) (args : Array Value) (below : List Frame) (meth : Method) (c : Code) (H : Heap) (locs : List Loc) (cells slots mc ms : Nat) (g : JFrame) (rest : List Value) (Qa : State → Outcome → State → Prop) (XC : String → State → State → Prop) (free : Addr → Prop) : Prop :=
  ∀ T : State, T.heap = H → Stand p l e R s m args below meth c T locs cells slots →
    (∃ (v : Option Value) (st₀ t T' : State) (L : List Loc), st₀.heap = H ∧ Stand p l e R s m args below meth c T' (locs ++ L) (cells + mc) (slots + ms) ∧ (∀ q ∈ L, free q.base) ∧ T'.heap = t.heap ∧ T'.vm = t.vm ∧ Qa st₀ (.returned v) t ∧
      Goes p e below T g T' { g with pc := g.pc + 3, stack := v.toList ++ rest }) ∨
    (∃ (q : Addr) (st₀ t T' : State) (L : List Loc) (E : String) (ce : Cell), st₀.heap = H ∧ Stand p l e R s m args below meth c T' (locs ++ L) (cells + mc) (slots + ms) ∧ (∀ z ∈ L, free z.base) ∧ T'.heap = t.heap ∧ T'.vm = t.vm ∧ XC E st₀ t ∧ t.heap[q]? = some ce ∧ ce.vm = .none ∧ s.vm.findClass E = some ce.cls ∧
      Steps p.tables e below (T.setTop g) ((T'.setTop { g with stack := rest }).pushFrame (.throwing q)))
def vx_X {S : Type} (px : S → Prop) (B : String → S → State → Prop) (A : Nat → Prop) : String → State → State → Prop := fun E st t => ∃ u : S, px u ∧ B E u t ∧ va_F A st t
section Runs
variable {p : Program} {l : Launch} {e : Env} {R : Room} {s : State} {m : MethodId} {args : Array Value} {below : List Frame} {meth : Method} {c : Code} {H : Heap} {locs : List Loc} {cells slots : Nat}
variable {y : MethodName} {bytes cc : ByteArray} {maxL nL mc ms n index : Nat} {ret : Option FieldType} {ws : List Cond} {rm : Room} {Pc : Array Value → State → Prop} {Qc : Array Value → State → Outcome → State → Prop} {XC : String → State → State → Prop} {free : Addr → Prop} {Ts : List Cond} {own C : String} {b : Addr} {As rest : List Value} {g : JFrame}
theorem vx_callBack (cb : CallB R s args own index y bytes maxL ret ws rm mc ms n) (hM : vx_Met l y ws rm Pc Qc XC mc ms free) (hbl : FrameBlind Pc) : vx_Back l R p e below s args y 3 8 (PreOf R mc ms Pc) (PostOf Qc mc ms free) (vx_Post XC mc ms free) := by
  obtain ⟨hrc, hrs, hfr, hlo, hws, hcw, -, hini, -⟩ := cb
  exact vx_back (bytes := bytes) (maxL := maxL) (ret := ret) hM hbl hrc hrs hfr hlo hws hcw (fun a' U hW => word_at hW (Or.inl (by first | rfl | simp [Cond.onTables, Cond.keeps, Cond.steady])) hini)
theorem vx_runV (S : CallFix p m c cc nL s args Ts own) (hM : vx_Met l y ws rm Pc Qc XC mc ms free) (cw : CallW R s args own C index y bytes maxL ret ws rm mc ms n) (hp : PreV s H C b Pc As)
    (hg : g.method = m) (hn : As.length = n) (hsize : g.locals.size = nL) (hstack : g.stack = As.reverse ++ .ref b :: rest) (hW : 2 * g.monitorRoom + (rest.map fun v => v.category).sum ≤ 8) (hdg : decode cc g.pc = .ok (.invokevirtual index, 3)) (hf : cells + mc ≤ R.cells ∧ slots + ms ≤ R.slots) :
    vx_Run p l e R s m args below meth c H locs cells slots mc ms g rest (Qc (Value.ref b :: As).toArray) XC free := by
  have hK : vx_Back l R p e below s args y 3 8 (PreOf R mc ms Pc) (PostOf Qc mc ms free) (vx_Post XC mc ms free) := vx_callBack cw.1 hM hp.1
  obtain ⟨⟨-, -, -, -, -, -, hcode, -, hy, hlen, hl⟩, hin, hse⟩ := cw
  obtain ⟨hx, hb, hml, ho, -⟩ := S
  obtain ⟨-, ⟨cellB, hcB, hoB, hclB⟩, hPc⟩ := hp
  intro T hT X
  rcases vx_callV X hx (C := C) (bytes := bytes) (maxL := maxL) (ret := ret) ho hl hin hse hcode hy hK (by rw [hT]; exact hcB) hoB hclB hg (hsize.trans hml.symm) (argsL := As) (rest := rest) (fun sig h => hn.trans (hlen sig h)) hstack hW (by rw [hb]; exact hdg)
    (fun vm₁ hW₁ => ⟨hf.1, hf.2, hPc (T.setVm vm₁) hT hW₁⟩) with ⟨v, vm₁, ⟨U', l2, c2, s2⟩, hW₁, X', ⟨g', mk, t, L, e1, e2, hq, h1, hL, h2, h3⟩, st⟩ | ⟨q, vm₁, ⟨U', l2, c2, s2⟩, hW₁, X', ⟨g', mk, t, L, E, ce, e1, e2, hq, hce, hcv, hcl, h1, hL, h2, h3⟩, st⟩
  · dsimp only [Pt.U, Pt.locs, Pt.cells, Pt.slots] at X' e1 e2 h1 h2 h3 st
    subst h1; subst h2; subst h3
    exact Or.inl ⟨v, (T.setVm vm₁).calling g' mk (Value.ref b :: As).toArray, t, U', L, hT, X', hL, e1, e2, hq, st⟩
  · dsimp only [Pt.U, Pt.locs, Pt.cells, Pt.slots] at X' e1 e2 h1 h2 h3 st hcl
    subst h1; subst h2; subst h3
    exact Or.inr ⟨q, (T.setVm vm₁).calling g' mk (Value.ref b :: As).toArray, t, U', L, E, ce, hT, X', hL, e1, e2, hq, hce, hcv, vx_cls hW₁ hcl, st⟩
theorem vx_runS (S : CallFix p m c cc nL s args Ts own) (hM : vx_Met l y ws rm Pc Qc XC mc ms free) (cw : CallB R s args own index y bytes maxL ret ws rm mc ms n ∧ (Cond.static y).before args s = true) (hp : PreS s H Pc As)
    (hg : g.method = m) (hn : As.length = n) (hsize : g.locals.size = nL) (hstack : g.stack = As.reverse ++ rest) (hW : 2 * g.monitorRoom + (rest.map fun v => v.category).sum ≤ 8) (hdg : decode cc g.pc = .ok (.invokestatic index, 3)) (hf : cells + mc ≤ R.cells ∧ slots + ms ≤ R.slots) :
    vx_Run p l e R s m args below meth c H locs cells slots mc ms g rest (Qc As.toArray) XC free := by
  have hK : vx_Back l R p e below s args y 3 8 (PreOf R mc ms Pc) (PostOf Qc mc ms free) (vx_Post XC mc ms free) := vx_callBack cw.1 hM hp.1
  obtain ⟨⟨-, -, -, -, -, -, hcode, hini, hy, hlen, hl⟩, hstt⟩ := cw
  obtain ⟨hx, hb, hml, ho, -⟩ := S
  intro T hT X
  rcases vx_callS X hx (bytes := bytes) (maxL := maxL) (ret := ret) ho hl hstt hini hcode hy hK hg (hsize.trans hml.symm) (argsL := As) (rest := rest) (fun sig h => hn.trans (hlen sig h)) hstack hW (by rw [hb]; exact hdg)
    (fun vm₁ hW₁ => ⟨hf.1, hf.2, hp.2 (T.setVm vm₁) hT hW₁⟩) with ⟨v, vm₁, ⟨U', l2, c2, s2⟩, hW₁, X', ⟨g', mk, t, L, e1, e2, hq, h1, hL, h2, h3⟩, st⟩ | ⟨q, vm₁, ⟨U', l2, c2, s2⟩, hW₁, X', ⟨g', mk, t, L, E, ce, e1, e2, hq, hce, hcv, hcl, h1, hL, h2, h3⟩, st⟩
  · dsimp only [Pt.U, Pt.locs, Pt.cells, Pt.slots] at X' e1 e2 h1 h2 h3 st
    subst h1; subst h2; subst h3
    exact Or.inl ⟨v, (T.setVm vm₁).calling g' mk As.toArray, t, U', L, hT, X', hL, e1, e2, hq, st⟩
  · dsimp only [Pt.U, Pt.locs, Pt.cells, Pt.slots] at X' e1 e2 h1 h2 h3 st hcl
    subst h1; subst h2; subst h3
    exact Or.inr ⟨q, (T.setVm vm₁).calling g' mk As.toArray, t, U', L, E, ce, hT, X', hL, e1, e2, hq, hce, hcv, vx_cls hW₁ hcl, st⟩
end Runs
section Rows
variable {p : Program} {l : Launch} {e : Env} {R : Room} {s : State} {m : MethodId} {args : Array Value} {below : List Frame} {meth : Method} {c : Code} {H : Heap} {locs : List Loc} {cells slots : Nat} {Q : State → Prop}
variable {mc ms : Nat} {free : Addr → Prop} {A0 A1 : Nat → Prop} {H0 : Heap} {a : Array Value} {pc : Nat} {ls : Array Slot} {st0 rest : List Value}
theorem vx_keep {st₀ t T' : State} {L : List Loc} (h0 : st₀.heap = H) (e1 : T'.heap = t.heap) (hS : va_S A0 H0 H locs) (hA : ∀ q, q < H.size → A1 q → A0 q) (hf : ∀ q, free q → A0 q) (hL : ∀ q ∈ L, free q.base) (hF : va_F A1 st₀ t) :
    H.size ≤ T'.heap.size ∧ (∀ q : Nat, q < H.size → ¬ A1 q → T'.heap[q]? = H[q]?) ∧ va_S A0 H0 T'.heap (locs ++ L) := by
  obtain ⟨hz, hk⟩ := hF
  rw [h0] at hz hk
  exact ⟨by rw [e1]; exact hz, fun q h1 h2 => by rw [e1]; exact hk q h1 h2,
    ⟨Nat.le_trans hS.1 (by rw [e1]; exact hz), fun q h1 h2 => by rw [e1, hk q (Nat.lt_of_lt_of_le h1 hS.1) (fun z => h2 (hA q (Nat.lt_of_lt_of_le h1 hS.1) z))]; exact hS.2.1 q h1 h2, fun q hq => by
      rcases List.mem_append.mp hq with h | h
      · exact hS.2.2 q h
      · exact hf _ (hL q h)⟩⟩
theorem vx_calli {S SX : Type} {post : Int32 → S → Prop} {px : SX → Prop} {B : S → State → Prop} {BX : String → SX → State → Prop} {AX : Nat → Prop} (hr : vx_Run p l e R s m args below meth c H locs cells slots mc ms (F0 m pc ls st0) rest (va_Qi post B A1 a) (vx_X px BX AX) free) (hS : va_S A0 H0 H locs) (hA : ∀ q, q < H.size → A1 q → A0 q) (hf : ∀ q, free q → A0 q) (hAX : ∀ q, q < H.size → AX q → A0 q)
    (kx : ∀ (E : String) (ce : Cell) (q9 : Addr) (u : SX) (t : State) (H1 : Heap) (locs1 : List Loc), t.heap = H1 → s.vm.Alike t.vm → px u → BX E u t → H.size ≤ H1.size → (∀ q : Nat, q < H.size → ¬ AX q → H1[q]? = H[q]?) → va_S A0 H0 H1 locs1 → H1[q9]? = some ce → ce.vm = .none → s.vm.findClass E = some ce.cls → vx_W p l e R s m args below meth c H1 locs1 (cells + mc) (slots + ms) Q (F0 m pc ls rest) q9)
    (kk : ∀ (r : Int32) (u : S) (t : State) (H1 : Heap) (locs1 : List Loc), t.heap = H1 → s.vm.Alike t.vm → post r u → B u t → H.size ≤ H1.size → (∀ q : Nat, q < H.size → ¬ A1 q → H1[q]? = H[q]?) → va_S A0 H0 H1 locs1 → W p l e R s m args below meth c H1 locs1 (cells + mc) (slots + ms) Q (F0 m (pc + 3) ls (.int r :: rest))) : W p l e R s m args below meth c H locs cells slots Q (F0 m pc ls st0) := by
  intro T hT X
  rcases hr T hT X with ⟨v, st₀, t, T', L, h0, X', hL, e1, e2, ⟨⟨r, u, hv, hp, hb⟩, hF⟩, st⟩ | ⟨q, st₀, t, T', L, E, ce, h0, X', hL, e1, e2, ⟨u, hp, hb, hF⟩, hce, hcv, hcl, st⟩
  · cases hv
    obtain ⟨k1, k2, k3⟩ := vx_keep h0 e1 hS hA hf hL hF
    obtain ⟨t2, a1, b1⟩ := kk r u t T'.heap (locs ++ L) e1.symm (by rw [← e2]; exact X'.warmed.alike) hp hb k1 k2 k3 T' rfl X'
    exact ⟨t2, st t2 a1, b1⟩
  · obtain ⟨k1, k2, k3⟩ := vx_keep h0 e1 hS hAX hf hL hF
    obtain ⟨t2, a1, b1⟩ := kx E ce q u t T'.heap (locs ++ L) e1.symm (by rw [← e2]; exact X'.warmed.alike) hp hb k1 k2 k3 (by rw [e1]; exact hce) hcv hcl T' rfl X'
    exact ⟨t2, st.trans a1, b1⟩
theorem vx_calll {S SX : Type} {post : Int64 → S → Prop} {px : SX → Prop} {B : S → State → Prop} {BX : String → SX → State → Prop} {AX : Nat → Prop} (hr : vx_Run p l e R s m args below meth c H locs cells slots mc ms (F0 m pc ls st0) rest (va_Ql post B A1 a) (vx_X px BX AX) free) (hS : va_S A0 H0 H locs) (hA : ∀ q, q < H.size → A1 q → A0 q) (hf : ∀ q, free q → A0 q) (hAX : ∀ q, q < H.size → AX q → A0 q)
    (kx : ∀ (E : String) (ce : Cell) (q9 : Addr) (u : SX) (t : State) (H1 : Heap) (locs1 : List Loc), t.heap = H1 → s.vm.Alike t.vm → px u → BX E u t → H.size ≤ H1.size → (∀ q : Nat, q < H.size → ¬ AX q → H1[q]? = H[q]?) → va_S A0 H0 H1 locs1 → H1[q9]? = some ce → ce.vm = .none → s.vm.findClass E = some ce.cls → vx_W p l e R s m args below meth c H1 locs1 (cells + mc) (slots + ms) Q (F0 m pc ls rest) q9)
    (kk : ∀ (r : Int64) (u : S) (t : State) (H1 : Heap) (locs1 : List Loc), t.heap = H1 → s.vm.Alike t.vm → post r u → B u t → H.size ≤ H1.size → (∀ q : Nat, q < H.size → ¬ A1 q → H1[q]? = H[q]?) → va_S A0 H0 H1 locs1 → W p l e R s m args below meth c H1 locs1 (cells + mc) (slots + ms) Q (F0 m (pc + 3) ls (.long r :: rest))) : W p l e R s m args below meth c H locs cells slots Q (F0 m pc ls st0) := by
  intro T hT X
  rcases hr T hT X with ⟨v, st₀, t, T', L, h0, X', hL, e1, e2, ⟨⟨r, u, hv, hp, hb⟩, hF⟩, st⟩ | ⟨q, st₀, t, T', L, E, ce, h0, X', hL, e1, e2, ⟨u, hp, hb, hF⟩, hce, hcv, hcl, st⟩
  · cases hv
    obtain ⟨k1, k2, k3⟩ := vx_keep h0 e1 hS hA hf hL hF
    obtain ⟨t2, a1, b1⟩ := kk r u t T'.heap (locs ++ L) e1.symm (by rw [← e2]; exact X'.warmed.alike) hp hb k1 k2 k3 T' rfl X'
    exact ⟨t2, st t2 a1, b1⟩
  · obtain ⟨k1, k2, k3⟩ := vx_keep h0 e1 hS hAX hf hL hF
    obtain ⟨t2, a1, b1⟩ := kx E ce q u t T'.heap (locs ++ L) e1.symm (by rw [← e2]; exact X'.warmed.alike) hp hb k1 k2 k3 (by rw [e1]; exact hce) hcv hcl T' rfl X'
    exact ⟨t2, st.trans a1, b1⟩
theorem vx_callf {S SX : Type} {post : UInt32 → S → Prop} {px : SX → Prop} {B : S → State → Prop} {BX : String → SX → State → Prop} {AX : Nat → Prop} (hr : vx_Run p l e R s m args below meth c H locs cells slots mc ms (F0 m pc ls st0) rest (va_Qf post B A1 a) (vx_X px BX AX) free) (hS : va_S A0 H0 H locs) (hA : ∀ q, q < H.size → A1 q → A0 q) (hf : ∀ q, free q → A0 q) (hAX : ∀ q, q < H.size → AX q → A0 q)
    (kx : ∀ (E : String) (ce : Cell) (q9 : Addr) (u : SX) (t : State) (H1 : Heap) (locs1 : List Loc), t.heap = H1 → s.vm.Alike t.vm → px u → BX E u t → H.size ≤ H1.size → (∀ q : Nat, q < H.size → ¬ AX q → H1[q]? = H[q]?) → va_S A0 H0 H1 locs1 → H1[q9]? = some ce → ce.vm = .none → s.vm.findClass E = some ce.cls → vx_W p l e R s m args below meth c H1 locs1 (cells + mc) (slots + ms) Q (F0 m pc ls rest) q9)
    (kk : ∀ (r : UInt32) (u : S) (t : State) (H1 : Heap) (locs1 : List Loc), t.heap = H1 → s.vm.Alike t.vm → post r u → B u t → H.size ≤ H1.size → (∀ q : Nat, q < H.size → ¬ A1 q → H1[q]? = H[q]?) → va_S A0 H0 H1 locs1 → W p l e R s m args below meth c H1 locs1 (cells + mc) (slots + ms) Q (F0 m (pc + 3) ls (.float r :: rest))) : W p l e R s m args below meth c H locs cells slots Q (F0 m pc ls st0) := by
  intro T hT X
  rcases hr T hT X with ⟨v, st₀, t, T', L, h0, X', hL, e1, e2, ⟨⟨r, u, hv, hp, hb⟩, hF⟩, st⟩ | ⟨q, st₀, t, T', L, E, ce, h0, X', hL, e1, e2, ⟨u, hp, hb, hF⟩, hce, hcv, hcl, st⟩
  · cases hv
    obtain ⟨k1, k2, k3⟩ := vx_keep h0 e1 hS hA hf hL hF
    obtain ⟨t2, a1, b1⟩ := kk r u t T'.heap (locs ++ L) e1.symm (by rw [← e2]; exact X'.warmed.alike) hp hb k1 k2 k3 T' rfl X'
    exact ⟨t2, st t2 a1, b1⟩
  · obtain ⟨k1, k2, k3⟩ := vx_keep h0 e1 hS hAX hf hL hF
    obtain ⟨t2, a1, b1⟩ := kx E ce q u t T'.heap (locs ++ L) e1.symm (by rw [← e2]; exact X'.warmed.alike) hp hb k1 k2 k3 (by rw [e1]; exact hce) hcv hcl T' rfl X'
    exact ⟨t2, st.trans a1, b1⟩
theorem vx_calld {S SX : Type} {post : UInt64 → S → Prop} {px : SX → Prop} {B : S → State → Prop} {BX : String → SX → State → Prop} {AX : Nat → Prop} (hr : vx_Run p l e R s m args below meth c H locs cells slots mc ms (F0 m pc ls st0) rest (va_Qd post B A1 a) (vx_X px BX AX) free) (hS : va_S A0 H0 H locs) (hA : ∀ q, q < H.size → A1 q → A0 q) (hf : ∀ q, free q → A0 q) (hAX : ∀ q, q < H.size → AX q → A0 q)
    (kx : ∀ (E : String) (ce : Cell) (q9 : Addr) (u : SX) (t : State) (H1 : Heap) (locs1 : List Loc), t.heap = H1 → s.vm.Alike t.vm → px u → BX E u t → H.size ≤ H1.size → (∀ q : Nat, q < H.size → ¬ AX q → H1[q]? = H[q]?) → va_S A0 H0 H1 locs1 → H1[q9]? = some ce → ce.vm = .none → s.vm.findClass E = some ce.cls → vx_W p l e R s m args below meth c H1 locs1 (cells + mc) (slots + ms) Q (F0 m pc ls rest) q9)
    (kk : ∀ (r : UInt64) (u : S) (t : State) (H1 : Heap) (locs1 : List Loc), t.heap = H1 → s.vm.Alike t.vm → post r u → B u t → H.size ≤ H1.size → (∀ q : Nat, q < H.size → ¬ A1 q → H1[q]? = H[q]?) → va_S A0 H0 H1 locs1 → W p l e R s m args below meth c H1 locs1 (cells + mc) (slots + ms) Q (F0 m (pc + 3) ls (.double r :: rest))) : W p l e R s m args below meth c H locs cells slots Q (F0 m pc ls st0) := by
  intro T hT X
  rcases hr T hT X with ⟨v, st₀, t, T', L, h0, X', hL, e1, e2, ⟨⟨r, u, hv, hp, hb⟩, hF⟩, st⟩ | ⟨q, st₀, t, T', L, E, ce, h0, X', hL, e1, e2, ⟨u, hp, hb, hF⟩, hce, hcv, hcl, st⟩
  · cases hv
    obtain ⟨k1, k2, k3⟩ := vx_keep h0 e1 hS hA hf hL hF
    obtain ⟨t2, a1, b1⟩ := kk r u t T'.heap (locs ++ L) e1.symm (by rw [← e2]; exact X'.warmed.alike) hp hb k1 k2 k3 T' rfl X'
    exact ⟨t2, st t2 a1, b1⟩
  · obtain ⟨k1, k2, k3⟩ := vx_keep h0 e1 hS hAX hf hL hF
    obtain ⟨t2, a1, b1⟩ := kx E ce q u t T'.heap (locs ++ L) e1.symm (by rw [← e2]; exact X'.warmed.alike) hp hb k1 k2 k3 (by rw [e1]; exact hce) hcv hcl T' rfl X'
    exact ⟨t2, st.trans a1, b1⟩
theorem vx_callv {S SX : Type} {post : S → Prop} {px : SX → Prop} {B : S → State → Prop} {BX : String → SX → State → Prop} {AX : Nat → Prop} (hr : vx_Run p l e R s m args below meth c H locs cells slots mc ms (F0 m pc ls st0) rest (va_Qv post B A1 a) (vx_X px BX AX) free) (hS : va_S A0 H0 H locs) (hA : ∀ q, q < H.size → A1 q → A0 q) (hf : ∀ q, free q → A0 q) (hAX : ∀ q, q < H.size → AX q → A0 q)
    (kx : ∀ (E : String) (ce : Cell) (q9 : Addr) (u : SX) (t : State) (H1 : Heap) (locs1 : List Loc), t.heap = H1 → s.vm.Alike t.vm → px u → BX E u t → H.size ≤ H1.size → (∀ q : Nat, q < H.size → ¬ AX q → H1[q]? = H[q]?) → va_S A0 H0 H1 locs1 → H1[q9]? = some ce → ce.vm = .none → s.vm.findClass E = some ce.cls → vx_W p l e R s m args below meth c H1 locs1 (cells + mc) (slots + ms) Q (F0 m pc ls rest) q9)
    (kk : ∀ (u : S) (t : State) (H1 : Heap) (locs1 : List Loc), t.heap = H1 → s.vm.Alike t.vm → post u → B u t → H.size ≤ H1.size → (∀ q : Nat, q < H.size → ¬ A1 q → H1[q]? = H[q]?) → va_S A0 H0 H1 locs1 → W p l e R s m args below meth c H1 locs1 (cells + mc) (slots + ms) Q (F0 m (pc + 3) ls (rest))) : W p l e R s m args below meth c H locs cells slots Q (F0 m pc ls st0) := by
  intro T hT X
  rcases hr T hT X with ⟨v, st₀, t, T', L, h0, X', hL, e1, e2, ⟨⟨u, hv, hp, hb⟩, hF⟩, st⟩ | ⟨q, st₀, t, T', L, E, ce, h0, X', hL, e1, e2, ⟨u, hp, hb, hF⟩, hce, hcv, hcl, st⟩
  · cases hv
    obtain ⟨k1, k2, k3⟩ := vx_keep h0 e1 hS hA hf hL hF
    obtain ⟨t2, a1, b1⟩ := kk u t T'.heap (locs ++ L) e1.symm (by rw [← e2]; exact X'.warmed.alike) hp hb k1 k2 k3 T' rfl X'
    exact ⟨t2, st t2 a1, b1⟩
  · obtain ⟨k1, k2, k3⟩ := vx_keep h0 e1 hS hAX hf hL hF
    obtain ⟨t2, a1, b1⟩ := kx E ce q u t T'.heap (locs ++ L) e1.symm (by rw [← e2]; exact X'.warmed.alike) hp hb k1 k2 k3 (by rw [e1]; exact hce) hcv hcl T' rfl X'
    exact ⟨t2, st.trans a1, b1⟩
/-- caught by the row x of this method's table; the rows ahead don't take it -/
theorem vx_catch {own name : String} {E : String} {ce : Cell} {q : Addr} (hown : s.vm.findClass own = some m.cls) (pre : List ExceptionTableEntry) (x : ExceptionTableEntry) (suf : List ExceptionTableEntry) (hsplit : c.exceptionTable.toList = pre ++ x :: suf)
    (hpass : ∀ z ∈ pre, covers z pc = false ∨ (z.catchType ≠ 0 ∧ ∃ nm : String, (Cond.classLink own z.catchType nm).before args s = true ∧ va_Nc E nm s)) (hx : covers x pc = true) (h0 : x.catchType ≠ 0)
    (hlink : (Cond.classLink own x.catchType name).before args s = true) (hcast : (Cond.castable E name).before args s = true) (hcell : H[q]? = some ce) (hv : ce.vm = .none) (hcl : s.vm.findClass E = some ce.cls)
    (kk : W p l e R s m args below meth c H locs cells slots Q (F0 m x.handlerPc ls [.ref q])) : vx_W p l e R s m args below meth c H locs cells slots Q (F0 m pc ls rest) q := by
  intro T hT X
  have hpl : e.platform.magicAccessors = ({} : Platform).magicAccessors := by rw [X.admits.platform]
  obtain ⟨c3, c4, hc3, hc4, hasg⟩ := Cond.castable_spec hcast
  cases Option.some.inj (hc3.symm.trans hcl)
  obtain ⟨c5, hc5, hcl5⟩ := Cond.classLink_spec hown hlink e.platform hpl
  cases Option.some.inj (hc4.symm.trans hc5)
  obtain ⟨vm', X', st⟩ := X.thenCaughtThrough q (g := F0 m pc ls rest) rfl (Steps.refl _) (by rw [hT]; exact hcell) (by rw [hv]; rfl) (by obtain ⟨k9, h9, -⟩ := Vm.findClass_spec hcl; exact ⟨k9, h9⟩) pre x suf hsplit
    (fun z hz => by
      rcases hpass z hz with h | ⟨hz0, nm, hl1, hn1⟩
      · exact Or.inl h
      · obtain ⟨c6, hc6, hcl6⟩ := Cond.classLink_spec hown hl1 e.platform hpl
        obtain ⟨a8, b8, h1, h2, h3⟩ := hn1
        cases Option.some.inj (h1.symm.trans hcl)
        cases Option.some.inj (h2.symm.trans hc6)
        exact Or.inr ⟨hz0, _, hcl6, h3⟩) hx (Or.inr ⟨h0, c4, hcl5, hasg⟩)
  obtain ⟨t, a1, b1⟩ := kk (T.setVm vm') hT X'
  exact ⟨t, st.trans a1, b1⟩
end Rows
section Ends
variable {p : Program} {l : Launch} {e : Env} {R : Room} {s : State} {m : MethodId} {args : Array Value} {below : List Frame} {meth : Method} {c : Code} {H : Heap} {locs : List Loc} {cells slots : Nat} {Q : State → Prop}
variable {mc ms : Nat} {free : Addr → Prop} {A0 A1 : Nat → Prop} {H0 : Heap} {a : Array Value} {ls : Array Slot} {st0 rest : List Value}
variable {Qc : Array Value → State → Outcome → State → Prop} {XC : String → State → State → Prop}
/-- what a body that may throw owes at its end -/
def vx_MQ (below : List Frame) (Qc : Array Value → State → Outcome → State → Prop) (XC : String → State → State → Prop) (a : Array Value) (s : State) (mc ms : Nat) (free : Addr → Prop) : State → Prop := fun t =>
  ∃ o, t.status = .running ∧ Ended t below o ∧ vx_Q Qc XC mc ms free a s o t
theorem vx_ret {g : JFrame} {mc ms : Nat} (k : W p l e R s m args below meth c H locs cells slots (MQ below Qc args s mc ms free) g) : W p l e R s m args below meth c H locs cells slots (vx_MQ below Qc XC args s mc ms free) g := by
  intro T hT X
  obtain ⟨t, a1, o, b1, b2, b3, b4⟩ := k T hT X
  exact ⟨t, a1, o, b1, b2, Or.inl ⟨b3, b4⟩⟩
/-- not caught here: it goes on to the caller -/
theorem vx_widen {g : JFrame} {q : Addr} {k n : Nat} (h1 : cells ≤ k) (h2 : slots ≤ n) (kk : vx_W p l e R s m args below meth c H locs k n Q g q) : vx_W p l e R s m args below meth c H locs cells slots Q g q := fun T hT X => kk T hT (stand_widen X h1 h2)
theorem vx_out {pc : Nat} {E : String} {ce : Cell} {q : Addr} {mc ms : Nat} (hout : ∀ x ∈ c.exceptionTable.toList, covers x pc = false) (hlocks : meth.locks = false) (hcell : H[q]? = some ce) (hv : ce.vm = .none) (hcl : s.vm.findClass E = some ce.cls)
    (hx : ∀ t : State, t.heap = H → s.vm.Alike t.vm → XC E s t) (hf : ∀ z ∈ locs, free z.base) (hc : cells ≤ mc) (hs : slots ≤ ms) :
    vx_W p l e R s m args below meth c H locs cells slots (vx_MQ below Qc XC args s mc ms free) (F0 m pc ls rest) q := by
  intro T hT X
  obtain ⟨st1, hrun, hend, hW, hsm⟩ := X.leaveThrown q (g := F0 m pc ls rest) rfl rfl rfl hout hlocks
  have hcell9 : (T.setFrames (.throwing q :: below)).heap[q]? = some ce := by
    show T.heap[q]? = some ce
    rw [hT]; exact hcell
  exact ⟨_, st1, .threw q, hrun, hend, Or.inr ⟨q, rfl, E, ce, locs, hx _ hT hW.alike, hcell9, hv, hcl, hW, hsm.mono hc hs, hf⟩⟩
theorem vx_frame {U : State} {k n : Nat} (h : s.sameButNew ({ U with vm := s.vm } : State) locs k n) : s.heap.size ≤ U.heap.size ∧ ∀ q : Nat, q < s.heap.size → (∀ z ∈ locs, z.base ≠ q) → U.heap[q]? = s.heap[q]? := by
  obtain ⟨-, h2, -, -, -, h6⟩ := h
  refine ⟨h2, fun q hq hz => ?_⟩
  obtain ⟨c9, e1, e2, e3, e4⟩ := h6 q _ (Array.getElem?_eq_getElem hq)
  have hs : c9.slots = (s.heap[q]).slots := Array.ext_getElem? fun i => e4 i fun hm => hz _ hm rfl
  have h9 : c9 = s.heap[q] := by
    rw [hs] at e2
    exact e2
  have e5 : U.heap[q]? = some c9 := e1
  rw [e5, h9, Array.getElem?_eq_getElem hq]
/-- the words of a throw but the four that speak of the heap -/
def vx_no (w : Cond) : Bool := decide (w ≠ .isRef (.static Bundle.tN "UNASSIGNED_STACK" Bundle.steD)) && decide (w ≠ .isRef (.static Bundle.tN "SUPPRESSED_SENTINEL" Bundle.listD)) && decide (w ≠ .laysStatic Bundle.tN "UNASSIGNED_STACK" Bundle.steD) && decide (w ≠ .laysStatic Bundle.tN "SUPPRESSED_SENTINEL" Bundle.listD)
def vx_at0 (own : String) (ic : Nat) (X : String) (names : List String) : List Cond := (Bundle.ownAtoms0 own ic X names).filter vx_no
def vx_atS (own : String) (ic : Nat) (X : String) (names : List String) : List Cond := (Bundle.ownAtoms own ic X names).filter vx_no
/-- a word that the tables alone decide, or a good one -/
def vx_ot (w : Cond) : Bool := w.onTables || goodWord w
theorem vx_ot_at {args a' : Array Value} {s U : State} {w : Cond} (hW : s.WarmedH U.vm) (hvm : s.vm = U.vm) (hg : vx_ot w = true) (h : w.before args s = true) : w.before a' U = true := by
  simp only [vx_ot, Bool.or_eq_true] at hg
  rcases hg with hg | hg
  · exact va_tabs hg hvm h
  · exact word_at hW (good_of_word hg) h
/-- a list's words: the good ones out of the method's own list, the others by premises of their own -/
theorem vx_hat {args : Array Value} {s : State} {L B : List Cond} (h1 : ∀ w ∈ L.filter goodWord, w.before args s = true) (h2 : ∀ w ∈ L.filter (fun w => !goodWord w), w ∈ B) (h3 : ∀ w ∈ B, w.before args s = true) : ∀ w ∈ L, w.before args s = true := by
  intro w hw
  by_cases g : goodWord w = true
  · exact h1 w (List.mem_filter.mpr ⟨hw, g⟩)
  · refine h3 w (h2 w (List.mem_filter.mpr ⟨hw, ?_⟩))
    show (!goodWord w) = true
    cases hgw : goodWord w
    · rfl
    · exact absurd hgw g
theorem vx_c {args : Array Value} {s : State} {w : Cond} {B : List Cond} (h : w.before args s = true) (t : ∀ w ∈ B, w.before args s = true) : ∀ w' ∈ w :: B, w'.before args s = true := fun w' h' => (List.mem_cons.mp h').elim (fun e => by rw [e]; exact h) (t w')
theorem vx_n {args : Array Value} {s : State} : ∀ w ∈ ([] : List Cond), w.before args s = true := fun _ h => nomatch h
theorem vx_own {args : Array Value} {s : State} {L : List Cond} (h1 : ∀ w ∈ L.filter vx_no, w.before args s = true)
    (hU : (Cond.isRef (.static Bundle.tN "UNASSIGNED_STACK" Bundle.steD)).before args s = true) (hN : (Cond.isRef (.static Bundle.tN "SUPPRESSED_SENTINEL" Bundle.listD)).before args s = true)
    (lU : (Cond.laysStatic Bundle.tN "UNASSIGNED_STACK" Bundle.steD).before args s = true) (lN : (Cond.laysStatic Bundle.tN "SUPPRESSED_SENTINEL" Bundle.listD).before args s = true) : ∀ w ∈ L, w.before args s = true := by
  intro w hw
  by_cases e1 : w = .isRef (.static Bundle.tN "UNASSIGNED_STACK" Bundle.steD)
  · rw [e1]; exact hU
  · by_cases e2 : w = .isRef (.static Bundle.tN "SUPPRESSED_SENTINEL" Bundle.listD)
    · rw [e2]; exact hN
    · by_cases e3 : w = .laysStatic Bundle.tN "UNASSIGNED_STACK" Bundle.steD
      · rw [e3]; exact lU
      · by_cases e4 : w = .laysStatic Bundle.tN "SUPPRESSED_SENTINEL" Bundle.listD
        · rw [e4]; exact lN
        · exact h1 w (List.mem_filter.mpr ⟨hw, by unfold vx_no; rw [decide_eq_true e1, decide_eq_true e2, decide_eq_true e3, decide_eq_true e4]; rfl⟩)
/-- where a static field lies, its class's statics cell in H -/
def vx_L (C n d : String) (A : Nat → Prop) (U : State) (H : Heap) : Prop := ∃ (c : ClassId) (k : Class) (i : Nat) (f : Field) (a : Nat) (cell : Cell), U.vm.findClass C = some c ∧ U.fieldFound? C n d = some (c, k, i, f) ∧ f.isStatic = true ∧ k.statics = some a ∧ H[a]? = some cell ∧ cell.vm.isStatics = true ∧ cell.cls = c ∧ f.slot < cell.slots.size ∧ k.staticTypes[f.slot]? = some f.type ∧ ¬ A a
theorem vx_L.moved {C n d : String} {A : Nat → Prop} {u U : State} {H : Heap} (hvm : u.vm.Alike U.vm) (h : vx_L C n d A u H) : vx_L C n d A U H := by
  obtain ⟨c, k, i, f, a, cell, h1, h2, h3, h4, h5, h6, h7, h8, h9, h10⟩ := h
  obtain ⟨k', hi', he⟩ := State.fieldFound?_setVm hvm h2
  exact ⟨c, k', i, f, a, cell, by rw [hvm.findClass]; exact h1, hi', h3, by rw [he]; exact h4, h5, h6, h7, h8, by rw [he]; exact h9, h10⟩
theorem vx_L.kept {C n d : String} {A : Nat → Prop} {U : State} {H H1 : Heap} (h : vx_L C n d A U H) (hq : ∀ a : Nat, a < H.size → ¬ A a → H1[a]? = H[a]?) : vx_L C n d A U H1 := by
  obtain ⟨c, k, i, f, a, cell, h1, h2, h3, h4, h5, h6, h7, h8, h9, h10⟩ := h
  exact ⟨c, k, i, f, a, cell, h1, h2, h3, h4, by rw [hq a (Array.getElem?_eq_some_iff.mp h5).1 h10]; exact h5, h6, h7, h8, h9, h10⟩
theorem vx_L.narrow {C n d : String} {A B : Nat → Prop} {U : State} {H : Heap} (h : vx_L C n d A U H) (hAB : ∀ q, B q → A q) : vx_L C n d B U H := by
  obtain ⟨c, k, i, f, a, cell, h1, h2, h3, h4, h5, h6, h7, h8, h9, h10⟩ := h
  exact ⟨c, k, i, f, a, cell, h1, h2, h3, h4, h5, h6, h7, h8, h9, fun z => h10 (hAB _ z)⟩
theorem vx_L.word {C n d : String} {A : Nat → Prop} {s : State} {args : Array Value} (h : vx_L C n d A s s.heap) : (Cond.laysStatic C n d).before args s = true := by
  obtain ⟨c, k, i, f, a, cell, h1, h2, h3, h4, h5, h6, h7, h8, h9, -⟩ := h
  show (Cond.laysStatic C n d).holds args s none s [] = true
  exact Cond.laysStatic_of h1 h2 h3 h4 h5 h6 h7 h8 h9
/-- .. and what it holds: null or some reference -/
def vx_Zq (C n d : String) (A : Nat → Prop) (U : State) (H : Heap) : Prop := va_Zq C n d A U H ∧ vx_L C n d A U H
theorem vx_Zq.moved {C n d : String} {A : Nat → Prop} {u U : State} {H : Heap} (hvm : u.vm.Alike U.vm) (h : vx_Zq C n d A u H) : vx_Zq C n d A U H := ⟨va_Zq.moved hvm h.1, vx_L.moved hvm h.2⟩
theorem vx_Zq.kept {C n d : String} {A : Nat → Prop} {U : State} {H H1 : Heap} (h : vx_Zq C n d A U H) (hq : ∀ a : Nat, a < H.size → ¬ A a → H1[a]? = H[a]?) : vx_Zq C n d A U H1 := ⟨va_Zq.kept h.1 hq, vx_L.kept h.2 hq⟩
theorem vx_Zq.narrow {C n d : String} {A B : Nat → Prop} {U : State} {H : Heap} (h : vx_Zq C n d A U H) (hAB : ∀ q, B q → A q) : vx_Zq C n d B U H := ⟨va_Zq.narrow h.1 hAB, vx_L.narrow h.2 hAB⟩
theorem vx_Zqof {args : Array Value} {s : State} {C n d : String} {A : Nat → Prop} (hl : (Cond.laysStatic C n d).before args s = true) (hini : (Cond.initialized C).before args s = true) (h : (Cond.isRef (.static C n d)).before args s = true) (hA : ∀ a : Nat, a < s.heap.size → ¬ A a) : vx_Zq C n d A s s.heap := by
  refine ⟨va_Zqof hl hini h hA, ?_⟩
  obtain ⟨c, k, i, f, a, cell, h1, h2, h3, h4, h5, h6, h7, h8, h9⟩ := Cond.laysStatic_spec hl
  exact ⟨c, k, i, f, a, cell, h1, h2, h3, h4, h5, h6, h7, h8, h9, hA a (Array.getElem?_eq_some_iff.mp h5).1⟩
theorem vx_isRef {C n d : String} {v : Value} {A : Nat → Prop} {s : State} {args : Array Value} (h : va_Z C n d v A s s.heap) (hv : v.isRef = true) : (Cond.isRef (.static C n d)).before args s = true := by
  obtain ⟨cf, kf, fi, f, a, cell, h1, h2, h3, h4, h5, h6, h7, -⟩ := h
  have he : (Term.static C n d).eval args s none [] s = some v := by
    simp [Term.eval, State.fieldNamed?, h1, h2, h4, h5, h6, h7]
  simp only [Cond.before, Cond.holds, Cond.value, he]
  cases v <;> simp_all [Value.isRef]
theorem vx_isRefq {C n d : String} {A : Nat → Prop} {s : State} {args : Array Value} (h : va_Zq C n d A s s.heap) : (Cond.isRef (.static C n d)).before args s = true := by
  rcases h with h | ⟨t, h⟩
  · exact vx_isRef h rfl
  · exact vx_isRef h rfl
/-- the same frame, seen from here: as if the method were called anew in this heap -/
theorem vx_rebase {T : State} (X : Stand p l e R s m args below meth c T locs cells slots) {R' : Room} (hf : R'.frames ≤ R.frames) (hl : R'.locals ≤ R.locals) (hc : cells + R'.cells ≤ R.cells) (hs : slots + R'.slots ≤ R.slots) :
    Stand p l e R' ((T.setVm s.vm).setFrames (.invoking m args :: below)) m args below meth c T [] 0 0 := by
  have htop : (T.setVm s.vm).topJava?.isSome := X.here.top
  have hF : ((T.setVm s.vm).setFrames (.invoking m args :: below)).frames = .invoking m args :: below := State.frames_setFrames _ (State.cur_lt_of_top htop)
  obtain ⟨g₀, hg0⟩ := Option.isSome_iff_exists.mp htop
  obtain ⟨r, hr⟩ := State.topJava?_eq_some.mp hg0
  have hl9 : e.platform.stackLimits (T.setVm s.vm).me = e.platform.stackLimits s.me := X.limits
  have hb9 : (T.setVm s.vm).me.stackBytes = s.me.stackBytes := X.bytes
  refine ⟨X.admits, X.cas, X.clock, hF, ?_, X.hears, X.method, X.code, X.here, X.tail, X.warmed, ?_, ?_, ?_⟩
  · have h := X.room
    have hU : ((T.setVm s.vm).setFrames (.invoking m args :: below)).localsInUse = s.localsInUse := by
      rw [State.localsInUse_invoking hF (meth := meth) (c := c) X.method X.code, State.localsInUse_invoking X.frames X.method X.code]
    simp only [State.hasRoom, Bool.and_eq_true, decide_eq_true_eq] at h ⊢
    obtain ⟨⟨⟨⟨h1, h2, h3, h4, h5, h6⟩, h7⟩, h8⟩, h9⟩ := h
    rw [X.frames, List.length_cons] at h2 h3
    have q1 := X.heapSize
    have q2 := X.used
    simp only [hF, hU, List.length_cons, State.stackLimits_setFrames, State.stackBytes_setFrames, hl9, hb9]
    refine ⟨⟨⟨⟨by omega, by omega, by omega, by omega, by omega, h6⟩, ?_⟩, ?_⟩, X.book⟩
    · show T.heap.size + R'.cells ≤ e.platform.maxCells
      omega
    · show T.slotsUsed + R'.slots ≤ e.platform.maxSlots
      omega
  · rw [State.stackLimits_setFrames]; rfl
  · rw [State.stackBytes_setFrames]; rfl
  · refine ⟨?_, Nat.le_refl _, Nat.le_refl _, ?_, ?_, fun a c9 h9 => ⟨c9, h9, rfl, rfl, fun _ _ => rfl⟩⟩
    · obtain ⟨t, ht, -⟩ := State.frames_cons hr
      show T.setVm s.vm = { ((T.setVm s.vm).setFrames (.invoking m args :: below)).setFrames (T.setVm s.vm).frames with heap := T.heap, slotsUsed := T.slotsUsed }
      rw [State.setFrames_setFrames, State.setFrames_self ht]
      rfl
    · show T.slotsUsed = T.slotsUsed + ((T.heap.toList.drop T.heap.size).map (·.slots.size)).sum
      rw [List.drop_eq_nil_of_le (Nat.le_of_eq Array.length_toList)]
      rfl
    · show ((T.heap.toList.drop T.heap.size).map (·.slots.size)).sum ≤ 0
      rw [List.drop_eq_nil_of_le (Nat.le_of_eq Array.length_toList)]
      exact Nat.le_refl _
/-- 'throw new E()': new; dup; invokespecial; athrow -/
theorem vx_throw0 {cc : ByteArray} {pc : Nat} (hexec : p.tables.exec = Jvm.exec) (hb : c.code = cc) (hl : l.stackTraces = false) {own cls : String} {names : List String} {ik ic mc ms : Nat} {A : Nat → Prop}
    (hown : s.vm.findClass own = some m.cls) (hcls : Bundle.fit cls = true) (hnames : ∀ n ∈ names, Bundle.fit n = true)
    (hk : (Cond.classLink own ik cls).before args s = true) (hini : (Cond.initialized cls).before args s = true) (hat : ∀ w ∈ vx_at0 own ic cls names, w.before args s = true)
    (hgood : ∀ w ∈ Cond.classLink own ik cls :: Cond.initialized cls :: vx_at0 own ic cls names, vx_ot w = true)
    (hU : vx_Zq Bundle.tN "UNASSIGNED_STACK" Bundle.steD A s s.heap) (hN : vx_Zq Bundle.tN "SUPPRESSED_SENTINEL" Bundle.listD A s s.heap) (hS : va_S A s.heap H locs) (hsize : ls.size = c.maxLocals)
    (d0 : decode cc pc = .ok (.new ik, 3)) (d3 : decode cc (pc + 3) = .ok (.dup, 1)) (d4 : decode cc (pc + 4) = .ok (.invokespecial ic, 3)) (d7 : decode cc (pc + 7) = .ok (.athrow, 1))
    (hout : ∀ x ∈ c.exceptionTable.toList, covers x (pc + 7) = false)
    (hRframes : names.length + 3 < R.frames) (hRlocals : (rest.map fun v => v.category).sum + (13 * (names.length + 1) + 42) ≤ R.locals) (hRcells : cells + 1 ≤ R.cells) (hRslots : slots + 6 ≤ R.slots) (hlocks : meth.locks = false)
    (hx : ∀ t : State, s.vm.Alike t.vm → H.size ≤ t.heap.size → (∀ q : Nat, q < H.size → t.heap[q]? = H[q]?) → XC cls s t)
    (hf : ∀ z ∈ locs, free z.base) (hc : cells + 1 ≤ mc) (hs : slots + 6 ≤ ms) :
    W p l e R s m args below meth c H locs cells slots (vx_MQ below Qc XC args s mc ms free) (F0 m pc ls rest) := by
  intro T hT X
  have htr : e.platform.stackTraces = false := (show e.platform.stackTraces = l.stackTraces by rw [X.admits.platform]).trans hl
  have Y := vx_rebase X (R' := { frames := R.frames, locals := R.locals, cells := 1, slots := 6 }) (Nat.le_refl _) (Nat.le_refl _) hRcells hRslots
  obtain ⟨s', hA⟩ : ∃ z, z = (T.setVm s.vm).setFrames (.invoking m args :: below) := ⟨_, rfl⟩
  rw [← hA] at Y
  have hvm : s'.vm = s.vm := by rw [hA]; rfl
  have hhp : s'.heap = H := by rw [hA]; exact hT
  have hW0 : s.WarmedH s'.vm := by rw [hvm]; exact State.WarmedH.refl s
  have hat' : ∀ w ∈ vx_at0 own ic cls names, w.before args s' = true := fun w hw => vx_ot_at hW0 hvm.symm (hgood w (List.mem_cons_of_mem _ (List.mem_cons_of_mem _ hw))) (hat w hw)
  have hk' : (Cond.classLink own ik cls).before args s' = true := vx_ot_at hW0 hvm.symm (hgood _ List.mem_cons_self) hk
  have hini' : (Cond.initialized cls).before args s' = true := vx_ot_at hW0 hvm.symm (hgood _ (List.mem_cons_of_mem _ List.mem_cons_self)) hini
  have hU' : vx_Zq Bundle.tN "UNASSIGNED_STACK" Bundle.steD A s' s'.heap := by rw [hhp]; exact vx_Zq.moved hW0.alike (hU.kept hS.2.1)
  have hN' : vx_Zq Bundle.tN "SUPPRESSED_SENTINEL" Bundle.listD A s' s'.heap := by rw [hhp]; exact vx_Zq.moved hW0.alike (hN.kept hS.2.1)
  have h : ∀ w ∈ Bundle.ownAtoms0 own ic cls names, w.before args s' = true := vx_own hat' (vx_isRefq hU'.1) (vx_isRefq hN'.1) hU'.2.word hN'.2.word
  have hown' : s'.vm.findClass own = some m.cls := by rw [hvm]; exact hown
  have hins : (Cond.instantiable cls 6).before args s' = true := h _ (by simp [Bundle.ownAtoms0])
  obtain ⟨vm₁, cX, kX, hfX, hkX, -, -, X₁, st1⟩ := Y.newCold hexec (own := own) (C := cls) (index := ik) (n := 6) hown' hk' hins hini'
    (g := F0 m pc ls rest) rfl (by rw [hb]; exact d0) (Nat.le_refl _) (Nat.le_refl _)
  generalize hT1 : (T.setVm vm₁).pushCell { cls := cX, slots := kX.instanceTypes.map defaultValue, vm := .none } = T1 at X₁ st1
  have hcat : (Value.ref T.heap.size).category = 1 := rfl
  have hcellA : T1.heap[T.heap.size]? = some (freshCell cX kX) := by rw [← hT1]; exact State.heap_pushCell_size _ _
  have d3' : decode c.code (pc + 3) = .ok (.dup, 1) := by rw [hb]; exact d3
  obtain ⟨U, hsteps, hrun, hend, hW, hsame, ce, hce, hO⟩ := X₁.ctorThrow0 hexec htr (own := own) (cls := cls) (names := names) (ic := ic) hown' hcls hnames h (fun x hx => nomatch hx) hfX hkX hcellA (by rw [hhp, hT]; exact Nat.le_refl _)
    (g := { method := m, pc := pc + 4, locals := ls, stack := .ref T.heap.size :: .ref T.heap.size :: rest, locked := none }) rfl hsize rfl rfl (rest := rest) rfl
    (by rw [hb]; exact d4) (by rw [hb]; exact d7) hout hRframes (by simp only [List.map_cons, List.sum_cons, hcat]; omega) hlocks
  obtain ⟨f1, f2⟩ := vx_frame hsame
  rw [hhp] at f1 f2
  have hWs : s.WarmedH U.vm := State.WarmedH.trans hW0 hW
  have hcl : s.vm.findClass cls = some ce.cls := by
    have h9 := hO.cls
    rw [hvm] at h9
    exact h9
  have hall : s.sameButNew ({ U with vm := s.vm } : State) locs mc ms := by
    subst hA
    obtain ⟨e1, e2⟩ := hsame
    rw [State.setFrames_setFrames] at e1
    have h2 : (T.setVm s.vm).sameButNew ({ U with vm := s.vm } : State) [] (0 + 1) (0 + 6) := ⟨e1, e2⟩
    have h3 := X.same.trans h2
    rw [List.append_nil] at h3
    exact h3.mono hc hs
  refine ⟨U, ?_, .threw T.heap.size, hrun, hend, Or.inr ⟨T.heap.size, rfl, cls, ce, locs, hx U hWs.alike f1 (fun q hq => f2 q hq (fun z hz => nomatch hz)), hce, hO.vm, hcl, hWs, hall, hf⟩⟩
  refine st1 _ ?_
  show Steps p.tables e below (T1.setTop { method := m, pc := pc + 3, locals := ls, stack := .ref T.heap.size :: rest, locked := none }) _
  jvm_step X₁.here [X₁.here.top, hexec, d3', Value.category]
  exact hsteps
/-- 'throw new E("text")': new; dup; ldc; invokespecial; athrow -/
theorem vx_throwS {cc : ByteArray} {pc : Nat} (hexec : p.tables.exec = Jvm.exec) (hb : c.code = cc) (hl : l.stackTraces = false) {own cls text : String} {names : List String} {ik is ic mc ms sa : Nat} {A : Nat → Prop}
    (hown : s.vm.findClass own = some m.cls) (hcls : Bundle.fit cls = true) (hnames : ∀ n ∈ names, Bundle.fit n = true)
    (hk : (Cond.classLink own ik cls).before args s = true) (hini : (Cond.initialized cls).before args s = true) (hstr : vk_R own is text sa s) (hat : ∀ w ∈ vx_atS own ic cls names, w.before args s = true)
    (hgood : ∀ w ∈ Cond.classLink own ik cls :: Cond.initialized cls :: vx_atS own ic cls names, vx_ot w = true)
    (hU : vx_Zq Bundle.tN "UNASSIGNED_STACK" Bundle.steD A s s.heap) (hN : vx_Zq Bundle.tN "SUPPRESSED_SENTINEL" Bundle.listD A s s.heap) (hS : va_S A s.heap H locs) (hsize : ls.size = c.maxLocals)
    (d0 : decode cc pc = .ok (.new ik, 3)) (d3 : decode cc (pc + 3) = .ok (.dup, 1)) (d4 : decode cc (pc + 4) = .ok (.ldc is, 2)) (d6 : decode cc (pc + 6) = .ok (.invokespecial ic, 3)) (d9 : decode cc (pc + 9) = .ok (.athrow, 1))
    (hout : ∀ x ∈ c.exceptionTable.toList, covers x (pc + 9) = false)
    (hRframes : names.length + 3 < R.frames) (hRlocals : (rest.map fun v => v.category).sum + (13 * (names.length + 1) + 43) ≤ R.locals) (hRcells : cells + 1 ≤ R.cells) (hRslots : slots + 6 ≤ R.slots) (hlocks : meth.locks = false)
    (hx : ∀ t : State, s.vm.Alike t.vm → H.size ≤ t.heap.size → (∀ q : Nat, q < H.size → t.heap[q]? = H[q]?) → XC cls s t)
    (hf : ∀ z ∈ locs, free z.base) (hc : cells + 1 ≤ mc) (hs : slots + 6 ≤ ms) :
    W p l e R s m args below meth c H locs cells slots (vx_MQ below Qc XC args s mc ms free) (F0 m pc ls rest) := by
  intro T hT X
  have htr : e.platform.stackTraces = false := (show e.platform.stackTraces = l.stackTraces by rw [X.admits.platform]).trans hl
  have Y := vx_rebase X (R' := { frames := R.frames, locals := R.locals, cells := 1, slots := 6 }) (Nat.le_refl _) (Nat.le_refl _) hRcells hRslots
  obtain ⟨s', hA⟩ : ∃ z, z = (T.setVm s.vm).setFrames (.invoking m args :: below) := ⟨_, rfl⟩
  rw [← hA] at Y
  have hvm : s'.vm = s.vm := by rw [hA]; rfl
  have hhp : s'.heap = H := by rw [hA]; exact hT
  have hW0 : s.WarmedH s'.vm := by rw [hvm]; exact State.WarmedH.refl s
  have hat' : ∀ w ∈ vx_atS own ic cls names, w.before args s' = true := fun w hw => vx_ot_at hW0 hvm.symm (hgood w (List.mem_cons_of_mem _ (List.mem_cons_of_mem _ hw))) (hat w hw)
  have hk' : (Cond.classLink own ik cls).before args s' = true := vx_ot_at hW0 hvm.symm (hgood _ List.mem_cons_self) hk
  have hini' : (Cond.initialized cls).before args s' = true := vx_ot_at hW0 hvm.symm (hgood _ (List.mem_cons_of_mem _ List.mem_cons_self)) hini
  have hU' : vx_Zq Bundle.tN "UNASSIGNED_STACK" Bundle.steD A s' s'.heap := by rw [hhp]; exact vx_Zq.moved hW0.alike (hU.kept hS.2.1)
  have hN' : vx_Zq Bundle.tN "SUPPRESSED_SENTINEL" Bundle.listD A s' s'.heap := by rw [hhp]; exact vx_Zq.moved hW0.alike (hN.kept hS.2.1)
  have h : ∀ w ∈ Bundle.ownAtoms own ic cls names, w.before args s' = true := vx_own hat' (vx_isRefq hU'.1) (vx_isRefq hN'.1) hU'.2.word hN'.2.word
  have hown' : s'.vm.findClass own = some m.cls := by rw [hvm]; exact hown
  have hins : (Cond.instantiable cls 6).before args s' = true := h _ (by simp [Bundle.ownAtoms])
  obtain ⟨vm₁, cX, kX, hfX, hkX, -, -, X₁, st1⟩ := Y.newCold hexec (own := own) (C := cls) (index := ik) (n := 6) hown' hk' hins hini'
    (g := F0 m pc ls rest) rfl (by rw [hb]; exact d0) (Nat.le_refl _) (Nat.le_refl _)
  generalize hT1 : (T.setVm vm₁).pushCell { cls := cX, slots := kX.instanceTypes.map defaultValue, vm := .none } = T1 at X₁ st1
  have hcat : (Value.ref T.heap.size).category = 1 := rfl
  have hcellA : T1.heap[T.heap.size]? = some (freshCell cX kX) := by rw [← hT1]; exact State.heap_pushCell_size _ _
  have d3' : decode c.code (pc + 3) = .ok (.dup, 1) := by rw [hb]; exact d3
  have d4' : decode c.code (pc + 4) = .ok (.ldc is, 2) := by rw [hb]; exact d4
  have hstr' : vk_R own is text sa s' := vk_R.warm hW0 hstr
  obtain ⟨U, hsteps, hrun, hend, hW, hsame, ce, hce, hO⟩ := X₁.ctorThrowS hexec htr (own := own) (cls := cls) (names := names) (ic := ic) hown' hcls hnames h (fun x hx => nomatch hx) hfX hkX hcellA (by rw [hhp, hT]; exact Nat.le_refl _) (msg := .ref sa) rfl
    (g := { method := m, pc := pc + 6, locals := ls, stack := .ref sa :: .ref T.heap.size :: .ref T.heap.size :: rest, locked := none }) rfl hsize rfl rfl (rest := rest) rfl
    (by rw [hb]; exact d6) (by rw [hb]; exact d9) hout hRframes (by simp only [List.map_cons, List.sum_cons, hcat]; omega) hlocks
  obtain ⟨f1, f2⟩ := vx_frame hsame
  rw [hhp] at f1 f2
  have hWs : s.WarmedH U.vm := State.WarmedH.trans hW0 hW
  have hcl : s.vm.findClass cls = some ce.cls := by
    have h9 := hO.cls
    rw [hvm] at h9
    exact h9
  have hall : s.sameButNew ({ U with vm := s.vm } : State) locs mc ms := by
    subst hA
    obtain ⟨e1, e2⟩ := hsame
    rw [State.setFrames_setFrames] at e1
    have h2 : (T.setVm s.vm).sameButNew ({ U with vm := s.vm } : State) [] (0 + 1) (0 + 6) := ⟨e1, e2⟩
    have h3 := X.same.trans h2
    rw [List.append_nil] at h3
    exact h3.mono hc hs
  refine ⟨U, ?_, .threw T.heap.size, hrun, hend, Or.inr ⟨T.heap.size, rfl, cls, ce, locs, hx U hWs.alike f1 (fun q hq => f2 q hq (fun z hz => nomatch hz)), hce, hO.vm, hcl, hWs, hall, hf⟩⟩
  refine st1 _ ?_
  show Steps p.tables e below (T1.setTop { method := m, pc := pc + 3, locals := ls, stack := .ref T.heap.size :: rest, locked := none }) _
  jvm_step X₁.here [X₁.here.top, hexec, d3', Value.category]
  exact X₁.ldcString hexec (own := own) (text := text) (index := is) (a := sa) hown' hstr'.1 hstr'.2
    (g := { method := m, pc := pc + 4, locals := ls, stack := .ref T.heap.size :: .ref T.heap.size :: rest, locked := none }) rfl d4' _ hsteps
/-- 'throw new E("text")', the text by a wide index -/
theorem vx_throwSW {cc : ByteArray} {pc : Nat} (hexec : p.tables.exec = Jvm.exec) (hb : c.code = cc) (hl : l.stackTraces = false) {own cls text : String} {names : List String} {ik is ic mc ms sa : Nat} {A : Nat → Prop}
    (hown : s.vm.findClass own = some m.cls) (hcls : Bundle.fit cls = true) (hnames : ∀ n ∈ names, Bundle.fit n = true)
    (hk : (Cond.classLink own ik cls).before args s = true) (hini : (Cond.initialized cls).before args s = true) (hstr : vk_R own is text sa s) (hat : ∀ w ∈ vx_atS own ic cls names, w.before args s = true)
    (hgood : ∀ w ∈ Cond.classLink own ik cls :: Cond.initialized cls :: vx_atS own ic cls names, vx_ot w = true)
    (hU : vx_Zq Bundle.tN "UNASSIGNED_STACK" Bundle.steD A s s.heap) (hN : vx_Zq Bundle.tN "SUPPRESSED_SENTINEL" Bundle.listD A s s.heap) (hS : va_S A s.heap H locs) (hsize : ls.size = c.maxLocals)
    (d0 : decode cc pc = .ok (.new ik, 3)) (d3 : decode cc (pc + 3) = .ok (.dup, 1)) (d4 : decode cc (pc + 4) = .ok (.ldc_w is, 3)) (d7 : decode cc (pc + 7) = .ok (.invokespecial ic, 3)) (d10 : decode cc (pc + 10) = .ok (.athrow, 1))
    (hout : ∀ x ∈ c.exceptionTable.toList, covers x (pc + 10) = false)
    (hRframes : names.length + 3 < R.frames) (hRlocals : (rest.map fun v => v.category).sum + (13 * (names.length + 1) + 43) ≤ R.locals) (hRcells : cells + 1 ≤ R.cells) (hRslots : slots + 6 ≤ R.slots) (hlocks : meth.locks = false)
    (hx : ∀ t : State, s.vm.Alike t.vm → H.size ≤ t.heap.size → (∀ q : Nat, q < H.size → t.heap[q]? = H[q]?) → XC cls s t)
    (hf : ∀ z ∈ locs, free z.base) (hc : cells + 1 ≤ mc) (hs : slots + 6 ≤ ms) :
    W p l e R s m args below meth c H locs cells slots (vx_MQ below Qc XC args s mc ms free) (F0 m pc ls rest) := by
  intro T hT X
  have htr : e.platform.stackTraces = false := (show e.platform.stackTraces = l.stackTraces by rw [X.admits.platform]).trans hl
  have Y := vx_rebase X (R' := { frames := R.frames, locals := R.locals, cells := 1, slots := 6 }) (Nat.le_refl _) (Nat.le_refl _) hRcells hRslots
  obtain ⟨s', hA⟩ : ∃ z, z = (T.setVm s.vm).setFrames (.invoking m args :: below) := ⟨_, rfl⟩
  rw [← hA] at Y
  have hvm : s'.vm = s.vm := by rw [hA]; rfl
  have hhp : s'.heap = H := by rw [hA]; exact hT
  have hW0 : s.WarmedH s'.vm := by rw [hvm]; exact State.WarmedH.refl s
  have hat' : ∀ w ∈ vx_atS own ic cls names, w.before args s' = true := fun w hw => vx_ot_at hW0 hvm.symm (hgood w (List.mem_cons_of_mem _ (List.mem_cons_of_mem _ hw))) (hat w hw)
  have hk' : (Cond.classLink own ik cls).before args s' = true := vx_ot_at hW0 hvm.symm (hgood _ List.mem_cons_self) hk
  have hini' : (Cond.initialized cls).before args s' = true := vx_ot_at hW0 hvm.symm (hgood _ (List.mem_cons_of_mem _ List.mem_cons_self)) hini
  have hU' : vx_Zq Bundle.tN "UNASSIGNED_STACK" Bundle.steD A s' s'.heap := by rw [hhp]; exact vx_Zq.moved hW0.alike (hU.kept hS.2.1)
  have hN' : vx_Zq Bundle.tN "SUPPRESSED_SENTINEL" Bundle.listD A s' s'.heap := by rw [hhp]; exact vx_Zq.moved hW0.alike (hN.kept hS.2.1)
  have h : ∀ w ∈ Bundle.ownAtoms own ic cls names, w.before args s' = true := vx_own hat' (vx_isRefq hU'.1) (vx_isRefq hN'.1) hU'.2.word hN'.2.word
  have hown' : s'.vm.findClass own = some m.cls := by rw [hvm]; exact hown
  have hins : (Cond.instantiable cls 6).before args s' = true := h _ (by simp [Bundle.ownAtoms])
  obtain ⟨vm₁, cX, kX, hfX, hkX, -, -, X₁, st1⟩ := Y.newCold hexec (own := own) (C := cls) (index := ik) (n := 6) hown' hk' hins hini'
    (g := F0 m pc ls rest) rfl (by rw [hb]; exact d0) (Nat.le_refl _) (Nat.le_refl _)
  generalize hT1 : (T.setVm vm₁).pushCell { cls := cX, slots := kX.instanceTypes.map defaultValue, vm := .none } = T1 at X₁ st1
  have hcat : (Value.ref T.heap.size).category = 1 := rfl
  have hcellA : T1.heap[T.heap.size]? = some (freshCell cX kX) := by rw [← hT1]; exact State.heap_pushCell_size _ _
  have d3' : decode c.code (pc + 3) = .ok (.dup, 1) := by rw [hb]; exact d3
  have d4' : decode c.code (pc + 4) = .ok (.ldc_w is, 3) := by rw [hb]; exact d4
  have hstr' : vk_R own is text sa s' := vk_R.warm hW0 hstr
  obtain ⟨U, hsteps, hrun, hend, hW, hsame, ce, hce, hO⟩ := X₁.ctorThrowS hexec htr (own := own) (cls := cls) (names := names) (ic := ic) hown' hcls hnames h (fun x hx => nomatch hx) hfX hkX hcellA (by rw [hhp, hT]; exact Nat.le_refl _) (msg := .ref sa) rfl
    (g := { method := m, pc := pc + 7, locals := ls, stack := .ref sa :: .ref T.heap.size :: .ref T.heap.size :: rest, locked := none }) rfl hsize rfl rfl (rest := rest) rfl
    (by rw [hb]; exact d7) (by rw [hb]; exact d10) hout hRframes (by simp only [List.map_cons, List.sum_cons, hcat]; omega) hlocks
  obtain ⟨f1, f2⟩ := vx_frame hsame
  rw [hhp] at f1 f2
  have hWs : s.WarmedH U.vm := State.WarmedH.trans hW0 hW
  have hcl : s.vm.findClass cls = some ce.cls := by
    have h9 := hO.cls
    rw [hvm] at h9
    exact h9
  have hall : s.sameButNew ({ U with vm := s.vm } : State) locs mc ms := by
    subst hA
    obtain ⟨e1, e2⟩ := hsame
    rw [State.setFrames_setFrames] at e1
    have h2 : (T.setVm s.vm).sameButNew ({ U with vm := s.vm } : State) [] (0 + 1) (0 + 6) := ⟨e1, e2⟩
    have h3 := X.same.trans h2
    rw [List.append_nil] at h3
    exact h3.mono hc hs
  refine ⟨U, ?_, .threw T.heap.size, hrun, hend, Or.inr ⟨T.heap.size, rfl, cls, ce, locs, hx U hWs.alike f1 (fun q hq => f2 q hq (fun z hz => nomatch hz)), hce, hO.vm, hcl, hWs, hall, hf⟩⟩
  refine st1 _ ?_
  show Steps p.tables e below (T1.setTop { method := m, pc := pc + 3, locals := ls, stack := .ref T.heap.size :: rest, locked := none }) _
  jvm_step X₁.here [X₁.here.top, hexec, d3', Value.category]
  exact X₁.ldcStringW hexec (own := own) (text := text) (index := is) (a := sa) hown' hstr'.1 hstr'.2
    (g := { method := m, pc := pc + 4, locals := ls, stack := .ref T.heap.size :: .ref T.heap.size :: rest, locked := none }) rfl d4' _ hsteps
end Ends
section Bodies
variable {l : Launch}
theorem vx_ofW {y : MethodName} {ws ws' : List Cond} {rm : Room} {Pc : Array Value → State → Prop} {Qc : Array Value → State → Outcome → State → Prop} {XC : String → State → State → Prop} {mc ms : Nat} {free : Addr → Prop} {cc : ByteArray} {maxL : Nat} {ret : Option FieldType}
    (hy : plainName y.cls = true) (hw : ws = Cond.code y cc maxL ret :: ws')
    (body : ∀ p e s m args below meth c s₁, BodyLoose p l y (headSpec ws rm) cc maxL ret e s m args below meth c s₁ → c.maxLocals = maxL → (∀ x ∈ c.exceptionTable.toList, False) → Pc args s →
      W p l e (headSpec ws rm).room s m args below meth c s.heap [] 0 0 (vx_MQ below Qc XC args s mc ms free) (entryFrame m args maxL)) : vx_Met l y ws rm Pc Qc XC mc ms free := by
  refine MetFree.of_bodyS (code := cc) (maxLocals := maxL) (ret := ret) hy ?_ ?_
  · intro args s m h hn
    obtain ⟨meth, c, h1, h2, h3, h4, h5, h6, -, -⟩ := Cond.code_spec hn (atoms_spec (ws := ws) h _ (by rw [hw]; exact List.mem_cons_self))
    exact ⟨meth, c, h1, h2, h3, h4, h5, h6⟩
  · intro p e s m args below meth c s₁ B hml hP _
    have hh0 : s₁.heap = s.heap := by rw [B.state]; rfl
    have ht : ∀ x ∈ c.exceptionTable.toList, False := by
      obtain ⟨meth9, c9, h1, h2, -, -, -, -, h7, -⟩ := Cond.code_spec B.named (atoms_spec (ws := ws) B.pre _ (by rw [hw]; exact List.mem_cons_self))
      cases Option.some.inj (h1.symm.trans B.method)
      cases Option.some.inj (h2.symm.trans (Stand.of_body B).code)
      intro x hx
      rw [Array.isEmpty_iff.mp h7] at hx
      cases hx
    obtain ⟨t, a1, o, b1, b2, b3⟩ := body p e s m args below meth c s₁ B hml ht hP s₁ hh0 (Stand.of_body B)
    exact ⟨t, o, a1, b1, b2, b3⟩
/-- the table of a body with handlers -/
theorem vx_table {p : Program} {x y : MethodName} {S : Spec} {cc bytes : ByteArray} {maxL maxL' : Nat} {ret ret' : Option FieldType} {e : Env} {s s₁ : State} {m : MethodId} {args : Array Value} {below : List Frame} {meth : Method} {c : Code} {hh : List (Nat × Nat × Nat × Nat)}
    (B : BodyLoose p l y S cc maxL ret e s m args below meth c s₁) (h : (Cond.codeWith y bytes maxL' ret' hh).before args s = true) : c.exceptionTable.toList = tableOf hh := by
  obtain ⟨m9, meth9, c9, hn9, h1, h2, -, -, h6, -⟩ := Cond.codeWith_spec h
  cases Option.some.inj (hn9.symm.trans B.named)
  cases Option.some.inj (h1.symm.trans B.method)
  cases Option.some.inj (h2.symm.trans (Stand.of_body B).code)
  rw [← h6, table_eq]
end Bodies
end VXA
/-! ===== END ===== -/
/-! ===== BEGIN a static call of a method with an exception table ===== -/
section VXS
variable {p : Program} {l : Launch} {e : Env} {R : Room} {s : State} {m : MethodId} {args : Array Value} {below : List Frame} {meth : Method} {c : Code} {T : State} {H : Heap} {locs : List Loc} {cells slots : Nat}
abbrev vx_CSW (R : Room) (s : State) (args : Array Value) (own : String) (index : Nat) (y : MethodName) (bytes : ByteArray) (maxL : Nat) (ret : Option FieldType) (hh : List (Nat × Nat × Nat × Nat)) (ws : List Cond) (rm : Room) (mc ms n : Nat) : Prop :=
  (rm.cells = mc ∧ rm.slots = ms ∧ rm.frames + 1 ≤ R.frames ∧ 8 + (maxL + 11) + rm.locals ≤ R.locals ∧ (∀ w ∈ ws, ∀ (a' : Array Value) (U : State), s.WarmedH U.vm → w.before a' U = true) ∧ Cond.codeWith y bytes maxL ret hh ∈ ws) ∧
  (Cond.codeWith y bytes maxL ret hh).before args s = true ∧ (Cond.initialized y.cls).before args s = true ∧ (y.cls ≠ "java/lang/invoke/MethodHandle" ∧ y.cls ≠ "java/lang/invoke/VarHandle") ∧
  (∀ sig, parseMethodDescriptor y.desc = some sig → n = sig.parameters.length) ∧ (Cond.methodLink own index y).before args s = true ∧ (Cond.static y).before args s = true
theorem vx_cwSW {own : String} {index maxL mc ms : Nat} {y : MethodName} {bytes : ByteArray} {ret : Option FieldType} {hh : List (Nat × Nat × Nat × Nat)} {Ts ws ws' : List Cond} {rm : Room} (n : Nat) (ht : ∀ w ∈ Ts, w.before args s = true) (hT : GoodIn Ts (va_wsS own index y ws)) (hw : ws = Cond.codeWith y bytes maxL ret hh :: ws') (hrc : rm.cells = mc) (hrs : rm.slots = ms)
    (hd : y.cls ≠ "java/lang/invoke/MethodHandle" ∧ y.cls ≠ "java/lang/invoke/VarHandle" ∧ (parseMethodDescriptor y.desc).map (fun d => d.parameters.length) = some n) (hR : rm.frames + 1 ≤ R.frames ∧ 8 + (maxL + 11) + rm.locals ≤ R.locals) :
    vx_CSW R s args own index y bytes maxL ret hh ws rm mc ms n := by
  have ok : ∀ w ∈ va_wsS own index y ws, w.before args s = true := fun w h => ht w (hT w h).1
  have hG : GoodIn Ts ws := fun w h => hT w (by unfold va_wsS; exact List.mem_append_right _ h)
  have hc : Cond.codeWith y bytes maxL ret hh ∈ ws := by rw [hw]; exact List.mem_cons_self
  refine ⟨⟨hrc, hrs, hR.1, hR.2, pay_in ht hG, hc⟩, ht _ (hG _ hc).1, ok _ (by simp [va_wsS]), ⟨hd.1, hd.2.1⟩, fun sig h => ?_, ok _ (by simp [va_wsS]), ok _ (by simp [va_wsS])⟩
  have h2 := hd.2.2
  rw [h] at h2
  exact (Option.some.inj h2).symm
theorem vx_callSW (X : Stand p l e R s m args below meth c T locs cells slots) (hexec : p.tables.exec = Jvm.exec) {own : String} {index : Nat} {y : MethodName} {bytes : ByteArray} {maxL : Nat} {ret : Option FieldType} {hh : List (Nat × Nat × Nat × Nat)}
    (hown : s.vm.findClass own = some m.cls) (hlink : (Cond.methodLink own index y).before args s = true) (hstat : (Cond.static y).before args s = true) (hinit : (Cond.initialized y.cls).before args s = true)
    (hcode : (Cond.codeWith y bytes maxL ret hh).before args s = true) (hy : y.cls ≠ "java/lang/invoke/MethodHandle" ∧ y.cls ≠ "java/lang/invoke/VarHandle")
    {W9 : Nat} {Pre : Pt → Array Value → Prop} {Post : Pt → Array Value → Option Value → Pt → Prop} (hK : Back l R p e below s args y 3 W9 Pre Post)
    {g : JFrame} (hg : g.method = m) (hsize : g.locals.size = c.maxLocals) {argsL rest : List Value} (hlen : ∀ sig, parseMethodDescriptor y.desc = some sig → argsL.length = sig.parameters.length)
    (hstack : g.stack = argsL.reverse ++ rest) (hW : 2 * g.monitorRoom + (rest.map fun v => v.category).sum ≤ W9) (hdg : decode c.code g.pc = .ok (.invokestatic index, 3))
    (hpre : ∀ vm₁, s.WarmedH vm₁ → Pre ⟨T.setVm vm₁, locs, cells, slots⟩ argsL.toArray) :
    ∃ (v : Option Value) (vm₁ : Vm) (B : Pt), s.WarmedH vm₁ ∧ Stand p l e R s m args below meth c B.U B.locs B.cells B.slots ∧ Post ⟨T.setVm vm₁, locs, cells, slots⟩ argsL.toArray v B ∧
      ∀ target, Steps p.tables e below (B.U.setTop { g with pc := g.pc + 3, stack := v.toList ++ rest }) target → Steps p.tables e below (T.setTop g) target := by
  obtain ⟨mk, methM, cM, hnamed, hmethM, -, -, -, -, -, -, hsigM⟩ := Cond.codeWith_spec hcode
  have hstatic : methM.isStatic = true := Cond.static_spec hnamed hmethM hstat
  obtain ⟨kP, hkP, -⟩ := className_of_methodNamed hnamed
  have hinitP : kP.init = .initialized := Cond.initialized_spec (findClass_of_methodNamed hnamed) hkP hinit
  obtain ⟨vm₁, X₁, hstep₁⟩ := X.invokestatic hexec hown hlink hnamed hmethM hstatic hkP hinitP hy (g := g) hg (argsL := argsL) (rest := rest) (hlen _ hsigM) hstack hdg
  obtain ⟨v, B, X', hpost, hsteps⟩ := hK m meth c ⟨T.setVm vm₁, locs, cells, slots⟩ { g with stack := rest } (.invokestatic index) mk argsL.toArray X₁ hg hsize hdg hW (X₁.named hnamed) (hpre vm₁ X₁.warmed)
  exact ⟨v, vm₁, B, X₁.warmed, X', hpost, fun target h => hstep₁ _ fun acts => by rw [doInvoke_state]; exact hsteps.trans h⟩
theorem vx_runSW {y : MethodName} {bytes cc : ByteArray} {maxL nL mc ms n index : Nat} {ret : Option FieldType} {hh : List (Nat × Nat × Nat × Nat)} {ws : List Cond} {rm : Room} {Pc : Array Value → State → Prop} {Qc : Array Value → State → Outcome → State → Prop} {free : Addr → Prop} {Ts : List Cond} {own : String} {As rest : List Value} {g : JFrame}
    (S : CallFix p m c cc nL s args Ts own) (hM : Met l y ws rm Pc Qc mc ms free) (cw : vx_CSW R s args own index y bytes maxL ret hh ws rm mc ms n) (hp : PreS s H Pc As)
    (hg : g.method = m) (hn : As.length = n) (hsize : g.locals.size = nL) (hstack : g.stack = As.reverse ++ rest) (hW : 2 * g.monitorRoom + (rest.map fun v => v.category).sum ≤ 8) (hdg : decode cc g.pc = .ok (.invokestatic index, 3)) (hf : cells + mc ≤ R.cells ∧ slots + ms ≤ R.slots) :
    va_Run p l e R s m args below meth c H locs cells slots mc ms g rest (Qc As.toArray) (free) := by
  obtain ⟨⟨hrc, hrs, hfr, hlo, hws, hcw⟩, hcode, hini, hy, hlen, hl, hstt⟩ := cw
  have hK : Back l R p e below s args y 3 8 (PreOf R mc ms Pc) (PostOf Qc mc ms free) := va_backW (hh := hh) (bytes := bytes) (maxL := maxL) (ret := ret) hM hp.1 hrc hrs hfr hlo hws hcw (fun a' U hW => word_at hW (Or.inl (by first | rfl | simp [Cond.onTables, Cond.keeps, Cond.steady])) hini)
  obtain ⟨hx, hb, hml, ho, -⟩ := S
  intro T hT X
  obtain ⟨v, vm₁, ⟨U', l2, c2, s2⟩, hW₁, X', ⟨g', mk, t, L, e1, e2, hq, h1, hL, h2, h3⟩, st⟩ := vx_callSW X hx (hh := hh) (bytes := bytes) (maxL := maxL) (ret := ret) ho hl hstt hini hcode hy hK hg (hsize.trans hml.symm) (argsL := As) (rest := rest) (fun sig h => hn.trans (hlen sig h)) hstack hW (by rw [hb]; exact hdg)
    (fun vm₁ hW₁ => ⟨hf.1, hf.2, hp.2 (T.setVm vm₁) hT hW₁⟩)
  dsimp only [Pt.U, Pt.locs, Pt.cells, Pt.slots] at X' e1 e2 h1 h2 h3 st
  subst h1; subst h2; subst h3
  exact ⟨v, (T.setVm vm₁).calling g' mk As.toArray, t, U', L, hT, X', hL, e1, e2, hq, st⟩
/-- not caught here, past rows that name other classes: it goes on to the caller -/
theorem vx_outP {p : Program} {l : Launch} {e : Env} {R : Room} {s : State} {m : MethodId} {args : Array Value} {below : List Frame} {meth : Method} {c : Code} {H : Heap} {locs : List Loc} {cells slots : Nat} {free : Addr → Prop} {ls : Array Slot} {rest : List Value} {Qc : Array Value → State → Outcome → State → Prop} {XC : String → State → State → Prop}
    {pc : Nat} {own E : String} {ce : Cell} {q : Addr} {mc ms : Nat} (hown : s.vm.findClass own = some m.cls) (hlocks : meth.locks = false)
    (hpass : ∀ z ∈ c.exceptionTable.toList, covers z pc = false ∨ (z.catchType ≠ 0 ∧ ∃ nm : String, (Cond.classLink own z.catchType nm).before args s = true ∧ va_Nc E nm s)) (hcell : H[q]? = some ce) (hv : ce.vm = .none) (hcl : s.vm.findClass E = some ce.cls)
    (hx : ∀ t : State, t.heap = H → s.vm.Alike t.vm → XC E s t) (hf : ∀ z ∈ locs, free z.base) (hc : cells ≤ mc) (hs : slots ≤ ms) :
    vx_W p l e R s m args below meth c H locs cells slots (vx_MQ below Qc XC args s mc ms free) (F0 m pc ls rest) q := by
  intro T hT X
  have hpl : e.platform.magicAccessors = ({} : Platform).magicAccessors := by rw [X.admits.platform]
  obtain ⟨vm', hW', X', st⟩ := X.outThrough hlocks q (g := F0 m pc ls rest) rfl rfl rfl (cell := ce) (by rw [hT]; exact hcell) (by rw [hv]; rfl)
    (by obtain ⟨k9, h9, -⟩ := Vm.findClass_spec hcl; exact ⟨k9, h9⟩) (fun z hz => by
      rcases hpass z hz with h | ⟨hz0, nm, hl1, hn1⟩
      · exact Or.inl h
      · obtain ⟨c6, hc6, hcl6⟩ := Cond.classLink_spec hown hl1 e.platform hpl
        obtain ⟨a8, b8, h1, h2, h3⟩ := hn1
        cases Option.some.inj (h1.symm.trans hcl)
        cases Option.some.inj (h2.symm.trans hc6)
        exact Or.inr ⟨hz0, _, hcl6, h3⟩)
  obtain ⟨g₀, hfr⟩ := X'.frames_eq
  have hcell9 : ((T.setVm vm').setFrames (.throwing q :: below)).heap[q]? = some ce := by
    show T.heap[q]? = some ce
    rw [hT]; exact hcell
  have hend : Ended ((T.setVm vm').setFrames (.throwing q :: below)) below (.threw q) := State.frames_setFrames _ (State.cur_lt_of_frames hfr)
  refine ⟨(T.setVm vm').setFrames (.throwing q :: below), ?_, .threw q, X'.here.running, hend, Or.inr ⟨q, rfl, E, ce, locs, hx _ hT (X'.ends _).1.alike, hcell9, hv, hcl, (X'.ends _).1, (X'.ends _).2.mono hc hs, hf⟩⟩
  rw [X.pushThrowing_eq]
  exact st
/-- a thing of a world lies in the heap -/
theorem vx_lt {D : va_G} {cl : List vw_C} {ws : va_W} {H1 : Heap} (h : va_P D cl ws H1) {k : Nat} {q : Nat × va_E} (hk : ws[k]? = some q) : q.1 < H1.size := (h k q hk).lt
end VXS
/-! ===== END ===== -/
/-! ===== BEGIN methods with a table of their own: called by a name, returning or throwing ===== -/
section VXH
/-! vx_backW, vx_callVX, vx_callSX, vx_callVW, vx_runVW, vx_runVX, vx_runSX, vx_ofWH follow the same proofs as their sisters above (Free/Laws.lean, Shelf42/LK1.lean); vx_outP calls Shelf42/NT130.lean (outThrough). -/
section
variable {l : Launch} {R : Room} {p : Program} {e : Env} {below : List Frame} {s : State} {sargs : Array Value} {y : MethodName} {len W9 : Nat}
theorem vx_backW {ws : List Cond} {rm : Room} {Pc : Array Value → State → Prop} {Qc : Array Value → State → Outcome → State → Prop} {XC : String → State → State → Prop} {mc ms : Nat} {free : Addr → Prop} {bytes : ByteArray} {maxL : Nat} {ret : Option FieldType} {hh : List (Nat × Nat × Nat × Nat)}
    (hM : vx_Met l y ws rm Pc Qc XC mc ms free) (hblind : FrameBlind Pc) (hrc : rm.cells = mc) (hrs : rm.slots = ms)
    (hframes : rm.frames + 1 ≤ R.frames) (hlocals : W9 + (maxL + 11) + rm.locals ≤ R.locals)
    (hws : ∀ w ∈ ws, ∀ a' U, s.WarmedH U.vm → w.before a' U = true) (hcode : Cond.codeWith y bytes maxL ret hh ∈ ws) (hinit : ∀ a' U, s.WarmedH U.vm → (Cond.initialized y.cls).before a' U = true) :
    vx_Back l R p e below s sargs y len W9 (PreOf R mc ms Pc) (PostOf Qc mc ms free) (vx_Post XC mc ms free) := by
  intro m meth c A g ig mk a X hg hsize hdg hW hn hp
  have h1 : (headSpec ws rm).pre.before a A.U = true := atoms_intro fun w hw => hws w hw _ _ X.warmed
  have h2 : (Cond.codeWith y bytes maxL ret hh).before a A.U = true := hws _ hcode _ _ X.warmed
  have h3 : (Cond.initialized y.cls).before a A.U = true := hinit _ _ X.warmed
  have h4 : A.cells + (headSpec ws rm).room.cells ≤ R.cells := by rw [show (headSpec ws rm).room.cells = mc from hrc]; exact hp.1
  have h5 : A.slots + (headSpec ws rm).room.slots ≤ R.slots := by rw [show (headSpec ws rm).room.slots = ms from hrs]; exact hp.2.1
  have hPc : Pc a (A.U.calling g mk a) := hblind _ _ _ _ hp.2.2
  obtain ⟨U, Ls, c0, s0⟩ := A
  dsimp only [Pt.U, Pt.locs, Pt.cells, Pt.slots] at h1 h2 h3 h4 h5 X hn hPc ⊢
  obtain ⟨m9, methY, cY, hn9, hmY, hcY, -, hlY, -⟩ := Cond.codeWith_spec h2
  cases Option.some.inj (hn9.symm.trans hn)
  obtain ⟨kY, hkY, -⟩ := className_of_methodNamed hn
  have hinitY : kY.init = .initialized := Cond.initialized_spec (findClass_of_methodNamed hn) hkY h3
  have h : At U g.method c below := by rw [hg]; exact X.here
  have hlocals9 : W9 + (maxL + 11) + (headSpec ws rm).room.locals ≤ R.locals := hlocals
  have happ : (headSpec ws rm).appliesLoose y e.platform (U.calling g mk a) = true :=
    Spec.appliesLoose_calling (g := g) h hdg hn hkY hinitY
      (X.room_calling (g := g) (R' := (headSpec ws rm).room) hsize hmY hcY hframes (by rw [hlY]; omega) h4 h5) h1
  obtain ⟨mid, hmid⟩ := h.above
  have hfr : (U.setTop g).frames = (.java g :: mid) ++ below := by rw [State.frames_setTop' g h.top, hmid]; rfl
  obtain ⟨o, s₂, hsteps, -, hend, hq⟩ := Steps.callFree hM p X.admits X.cas X.clock (acts := []) hfr happ hPc trivial
  have hq' : vx_Q Qc XC mc ms free a (U.calling g mk a) o s₂ := hq
  rw [State.frames_setTop' g h.top] at hend
  obtain ⟨g₀, hg0⟩ := Option.isSome_iff_exists.mp h.top
  obtain ⟨r, hr⟩ := State.topJava?_eq_some.mp hg0
  have hr' : (({ U with heap := s₂.heap, slotsUsed := s₂.slotsUsed } : State).setVm s₂.vm).frames = .java g₀ :: r := hr
  rcases hq' with ⟨hqc, L, hfe, hL⟩ | ⟨q, rfl, E, ce, L, hx, hce, hcv, hcl, hW₂, hsm, hL⟩
  · obtain ⟨⟨v, rfl⟩, hW₂, e2, q2, q3, q4, q5, q6⟩ := id hfe
    have e3 : s₂ = ({ (U.calling g mk a).setFrames s₂.frames with heap := s₂.heap, slotsUsed := s₂.slotsUsed } : State).setVm s₂.vm := by
      have : s₂ = ({ s₂ with vm := (U.calling g mk a).vm } : State).setVm s₂.vm := rfl
      rw [e2] at this
      exact this
    obtain ⟨c₂, i₂, len₂, hc₂, hd₂, hf₂⟩ := hend
    have hW' : U.WarmedH s₂.vm := hW₂
    have hcc : c₂ = c := by
      have h1 : s₂.code? g.method = U.code? g.method := by
        rw [State.code?_eq, State.code?_eq, hW'.alike.method?]
      exact Option.some.inj (hc₂.symm.trans (h1.trans h.code))
    subst hcc
    have hlen : len₂ = len := by rw [hdg] at hd₂; cases hd₂; rfl
    subst hlen
    have hs₂ : s₂ = (({ U with heap := s₂.heap, slotsUsed := s₂.slotsUsed } : State).setVm s₂.vm).setTop { g with pc := g.pc + len₂, stack := v.toList ++ g.stack } := by
      refine e3.trans ?_
      rw [hf₂, State.calling_eq h.top, State.setFrames_setFrames, State.setTop_of_frames _ hr', hr]
      rfl
    have hsame : U.sameButNew ({ U with heap := s₂.heap, slotsUsed := s₂.slotsUsed } : State) L mc ms := by
      refine ⟨?_, q2, q3, q4, q5, q6⟩
      obtain ⟨t, ht, -⟩ := State.frames_cons hr
      show ({ U with heap := s₂.heap, slotsUsed := s₂.slotsUsed } : State) = { U.setFrames U.frames with heap := s₂.heap, slotsUsed := s₂.slotsUsed }
      rw [State.setFrames_self ht]
    subst hg
    refine Or.inl ⟨v, ⟨(({ U with heap := s₂.heap, slotsUsed := s₂.slotsUsed } : State).setVm s₂.vm), Ls ++ L, c0 + mc, s0 + ms⟩,
      ⟨X.admits, X.cas, X.clock, X.frames, X.room, X.hears, X.method, X.code, (X.here.setHeapUsed s₂.heap s₂.slotsUsed).setVm hW'.alike, X.tail, State.WarmedH.trans X.warmed hW', X.limits, X.bytes, X.same.trans (hsame.setVm s.vm)⟩,
      ⟨g, mk, s₂, L, rfl, rfl, hqc, rfl, hL, rfl, rfl⟩, ?_⟩
    show Steps p.tables e below _ ((({ U with heap := s₂.heap, slotsUsed := s₂.slotsUsed } : State).setVm s₂.vm).setTop { g with pc := g.pc + len₂, stack := v.toList ++ g.stack })
    rw [← hs₂]
    exact hsteps
  · obtain ⟨e2, q2, q3, q4, q5, q6⟩ := id hsm
    have e3 : s₂ = ({ (U.calling g mk a).setFrames s₂.frames with heap := s₂.heap, slotsUsed := s₂.slotsUsed } : State).setVm s₂.vm := by
      have : s₂ = ({ s₂ with vm := (U.calling g mk a).vm } : State).setVm s₂.vm := rfl
      rw [e2] at this
      exact this
    have hf₂ : s₂.frames = .throwing q :: .java g :: U.frames.tail := hend
    have hW' : U.WarmedH s₂.vm := hW₂
    have hs₂ : s₂ = ((({ U with heap := s₂.heap, slotsUsed := s₂.slotsUsed } : State).setVm s₂.vm).setTop g).pushFrame (.throwing q) := by
      refine e3.trans ?_
      rw [hf₂, State.calling_eq h.top, State.setFrames_setFrames, State.pushFrame, State.frames_setTop _ hr', State.setTop_of_frames _ hr', State.setFrames_setFrames, hr]
      rfl
    have hsame : U.sameButNew ({ U with heap := s₂.heap, slotsUsed := s₂.slotsUsed } : State) L mc ms := by
      refine ⟨?_, q2, q3, q4, q5, q6⟩
      obtain ⟨t, ht, -⟩ := State.frames_cons hr
      show ({ U with heap := s₂.heap, slotsUsed := s₂.slotsUsed } : State) = { U.setFrames U.frames with heap := s₂.heap, slotsUsed := s₂.slotsUsed }
      rw [State.setFrames_self ht]
    subst hg
    refine Or.inr ⟨q, ⟨(({ U with heap := s₂.heap, slotsUsed := s₂.slotsUsed } : State).setVm s₂.vm), Ls ++ L, c0 + mc, s0 + ms⟩,
      ⟨X.admits, X.cas, X.clock, X.frames, X.room, X.hears, X.method, X.code, (X.here.setHeapUsed s₂.heap s₂.slotsUsed).setVm hW'.alike, X.tail, State.WarmedH.trans X.warmed hW', X.limits, X.bytes, X.same.trans (hsame.setVm s.vm)⟩,
      ⟨g, mk, s₂, L, E, ce, rfl, rfl, hx, hce, hcv, hcl, rfl, hL, rfl, rfl⟩, ?_⟩
    show Steps p.tables e below _ (((({ U with heap := s₂.heap, slotsUsed := s₂.slotsUsed } : State).setVm s₂.vm).setTop g).pushFrame (.throwing q))
    rw [← hs₂]
    exact hsteps
end
variable {p : Program} {l : Launch} {e : Env} {R : Room} {s : State} {m : MethodId} {args : Array Value} {below : List Frame} {meth : Method} {c : Code} {T : State} {H : Heap} {locs : List Loc} {cells slots : Nat}
theorem vx_callVX (X : Stand p l e R s m args below meth c T locs cells slots) (hexec : p.tables.exec = Jvm.exec) {own C : String} {index : Nat} {y : MethodName} {bytes : ByteArray} {maxL : Nat} {ret : Option FieldType} {hh : List (Nat × Nat × Nat × Nat)}
    (hown : s.vm.findClass own = some m.cls) (hlink : (Cond.methodLink own index y).before args s = true) (hinst : (Cond.instanceMethod y).before args s = true) (hsel : (Cond.selects C y y).before args s = true)
    (hcode : (Cond.codeWith y bytes maxL ret hh).before args s = true) (hy : y.cls ≠ "java/lang/invoke/MethodHandle" ∧ y.cls ≠ "java/lang/invoke/VarHandle")
    {W9 : Nat} {Pre : Pt → Array Value → Prop} {Post : Pt → Array Value → Option Value → Pt → Prop} {PostX : Pt → Array Value → Addr → Pt → Prop} (hK : vx_Back l R p e below s args y 3 W9 Pre Post PostX)
    {b : Addr} {cellB : Cell} (hcell : T.heap[b]? = some cellB) (hobj : cellB.vm.isStatics = false) (hcls : s.vm.findClass C = some cellB.cls)
    {g : JFrame} (hg : g.method = m) (hsize : g.locals.size = c.maxLocals) {argsL rest : List Value} (hlen : ∀ sig, parseMethodDescriptor y.desc = some sig → argsL.length = sig.parameters.length)
    (hstack : g.stack = argsL.reverse ++ .ref b :: rest) (hW : 2 * g.monitorRoom + (rest.map fun v => v.category).sum ≤ W9) (hdg : decode c.code g.pc = .ok (.invokevirtual index, 3))
    (hpre : ∀ vm₁, s.WarmedH vm₁ → Pre ⟨T.setVm vm₁, locs, cells, slots⟩ (Value.ref b :: argsL).toArray) :
    (∃ (v : Option Value) (vm₁ : Vm) (B : Pt), s.WarmedH vm₁ ∧ Stand p l e R s m args below meth c B.U B.locs B.cells B.slots ∧ Post ⟨T.setVm vm₁, locs, cells, slots⟩ (Value.ref b :: argsL).toArray v B ∧
      ∀ target, Steps p.tables e below (B.U.setTop { g with pc := g.pc + 3, stack := v.toList ++ rest }) target → Steps p.tables e below (T.setTop g) target) ∨
    (∃ (q : Addr) (vm₁ : Vm) (B : Pt), s.WarmedH vm₁ ∧ Stand p l e R s m args below meth c B.U B.locs B.cells B.slots ∧ PostX ⟨T.setVm vm₁, locs, cells, slots⟩ (Value.ref b :: argsL).toArray q B ∧
      Steps p.tables e below (T.setTop g) ((B.U.setTop { g with stack := rest }).pushFrame (.throwing q))) := by
  obtain ⟨mk, methM, hnamed, hmethM, hstM, habM⟩ := Cond.instanceMethod_spec hinst
  obtain ⟨m8, methM', cM, hn8, hmethM', -, -, -, -, -, -, hsigM⟩ := Cond.codeWith_spec hcode
  cases Option.some.inj (hn8.symm.trans hnamed)
  cases hmethM.symm.trans hmethM'
  obtain ⟨c2, r2, m2, q1, q2, q3, q4, kP, hkP, hkPi⟩ := Cond.selects_spec hsel
  cases hcls.symm.trans q1
  cases (State.methodFound?_of_named hnamed hy).symm.trans q2
  cases hnamed.symm.trans q3
  have hselP : selectMethod e.platform s.vm cellB.cls mk = .method mk := by rw [Launch.admits_selectMethod X.admits]; exact q4
  obtain ⟨vm₁, X₁, hstep₁⟩ := X.invokevirtual hexec hown hlink hnamed hmethM hstM hkP hkPi hy (a := b) (cell := cellB) hcell
    (fun z h => by rw [h] at hobj; cases hobj) hselP hmethM habM hkP hkPi (g := g) hg (argsL := argsL) (rest := rest) (hlen _ hsigM) hstack hdg
  rcases hK m meth c ⟨T.setVm vm₁, locs, cells, slots⟩ { g with stack := rest } (.invokevirtual index) mk (Value.ref b :: argsL).toArray X₁ hg hsize hdg hW (X₁.named hnamed) (hpre vm₁ X₁.warmed) with ⟨v, B, X', hpost, hsteps⟩ | ⟨q, B, X', hpost, hsteps⟩
  · exact Or.inl ⟨v, vm₁, B, X₁.warmed, X', hpost, fun target h => hstep₁ _ fun acts => by rw [doInvoke_state]; exact hsteps.trans h⟩
  · exact Or.inr ⟨q, vm₁, B, X₁.warmed, X', hpost, hstep₁ _ fun acts => by rw [doInvoke_state]; exact hsteps⟩
theorem vx_callSX (X : Stand p l e R s m args below meth c T locs cells slots) (hexec : p.tables.exec = Jvm.exec) {own : String} {index : Nat} {y : MethodName} {bytes : ByteArray} {maxL : Nat} {ret : Option FieldType} {hh : List (Nat × Nat × Nat × Nat)}
    (hown : s.vm.findClass own = some m.cls) (hlink : (Cond.methodLink own index y).before args s = true) (hstat : (Cond.static y).before args s = true) (hinit : (Cond.initialized y.cls).before args s = true)
    (hcode : (Cond.codeWith y bytes maxL ret hh).before args s = true) (hy : y.cls ≠ "java/lang/invoke/MethodHandle" ∧ y.cls ≠ "java/lang/invoke/VarHandle")
    {W9 : Nat} {Pre : Pt → Array Value → Prop} {Post : Pt → Array Value → Option Value → Pt → Prop} {PostX : Pt → Array Value → Addr → Pt → Prop} (hK : vx_Back l R p e below s args y 3 W9 Pre Post PostX)
    {g : JFrame} (hg : g.method = m) (hsize : g.locals.size = c.maxLocals) {argsL rest : List Value} (hlen : ∀ sig, parseMethodDescriptor y.desc = some sig → argsL.length = sig.parameters.length)
    (hstack : g.stack = argsL.reverse ++ rest) (hW : 2 * g.monitorRoom + (rest.map fun v => v.category).sum ≤ W9) (hdg : decode c.code g.pc = .ok (.invokestatic index, 3))
    (hpre : ∀ vm₁, s.WarmedH vm₁ → Pre ⟨T.setVm vm₁, locs, cells, slots⟩ argsL.toArray) :
    (∃ (v : Option Value) (vm₁ : Vm) (B : Pt), s.WarmedH vm₁ ∧ Stand p l e R s m args below meth c B.U B.locs B.cells B.slots ∧ Post ⟨T.setVm vm₁, locs, cells, slots⟩ argsL.toArray v B ∧
      ∀ target, Steps p.tables e below (B.U.setTop { g with pc := g.pc + 3, stack := v.toList ++ rest }) target → Steps p.tables e below (T.setTop g) target) ∨
    (∃ (q : Addr) (vm₁ : Vm) (B : Pt), s.WarmedH vm₁ ∧ Stand p l e R s m args below meth c B.U B.locs B.cells B.slots ∧ PostX ⟨T.setVm vm₁, locs, cells, slots⟩ argsL.toArray q B ∧
      Steps p.tables e below (T.setTop g) ((B.U.setTop { g with stack := rest }).pushFrame (.throwing q))) := by
  obtain ⟨mk, methM, cM, hnamed, hmethM, -, -, -, -, -, -, hsigM⟩ := Cond.codeWith_spec hcode
  have hstatic : methM.isStatic = true := Cond.static_spec hnamed hmethM hstat
  obtain ⟨kP, hkP, -⟩ := className_of_methodNamed hnamed
  have hinitP : kP.init = .initialized := Cond.initialized_spec (findClass_of_methodNamed hnamed) hkP hinit
  obtain ⟨vm₁, X₁, hstep₁⟩ := X.invokestatic hexec hown hlink hnamed hmethM hstatic hkP hinitP hy (g := g) hg (argsL := argsL) (rest := rest) (hlen _ hsigM) hstack hdg
  rcases hK m meth c ⟨T.setVm vm₁, locs, cells, slots⟩ { g with stack := rest } (.invokestatic index) mk argsL.toArray X₁ hg hsize hdg hW (X₁.named hnamed) (hpre vm₁ X₁.warmed) with ⟨v, B, X', hpost, hsteps⟩ | ⟨q, B, X', hpost, hsteps⟩
  · exact Or.inl ⟨v, vm₁, B, X₁.warmed, X', hpost, fun target h => hstep₁ _ fun acts => by rw [doInvoke_state]; exact hsteps.trans h⟩
  · exact Or.inr ⟨q, vm₁, B, X₁.warmed, X', hpost, hstep₁ _ fun acts => by rw [doInvoke_state]; exact hsteps⟩
theorem vx_callVW (X : Stand p l e R s m args below meth c T locs cells slots) (hexec : p.tables.exec = Jvm.exec) {own C : String} {index : Nat} {y : MethodName} {bytes : ByteArray} {maxL : Nat} {ret : Option FieldType} {hh : List (Nat × Nat × Nat × Nat)}
    (hown : s.vm.findClass own = some m.cls) (hlink : (Cond.methodLink own index y).before args s = true) (hinst : (Cond.instanceMethod y).before args s = true) (hsel : (Cond.selects C y y).before args s = true)
    (hcode : (Cond.codeWith y bytes maxL ret hh).before args s = true) (hy : y.cls ≠ "java/lang/invoke/MethodHandle" ∧ y.cls ≠ "java/lang/invoke/VarHandle")
    {W9 : Nat} {Pre : Pt → Array Value → Prop} {Post : Pt → Array Value → Option Value → Pt → Prop} (hK : Back l R p e below s args y 3 W9 Pre Post)
    {b : Addr} {cellB : Cell} (hcell : T.heap[b]? = some cellB) (hobj : cellB.vm.isStatics = false) (hcls : s.vm.findClass C = some cellB.cls)
    {g : JFrame} (hg : g.method = m) (hsize : g.locals.size = c.maxLocals) {argsL rest : List Value} (hlen : ∀ sig, parseMethodDescriptor y.desc = some sig → argsL.length = sig.parameters.length)
    (hstack : g.stack = argsL.reverse ++ .ref b :: rest) (hW : 2 * g.monitorRoom + (rest.map fun v => v.category).sum ≤ W9) (hdg : decode c.code g.pc = .ok (.invokevirtual index, 3))
    (hpre : ∀ vm₁, s.WarmedH vm₁ → Pre ⟨T.setVm vm₁, locs, cells, slots⟩ (Value.ref b :: argsL).toArray) :
    ∃ (v : Option Value) (vm₁ : Vm) (B : Pt), s.WarmedH vm₁ ∧ Stand p l e R s m args below meth c B.U B.locs B.cells B.slots ∧ Post ⟨T.setVm vm₁, locs, cells, slots⟩ (Value.ref b :: argsL).toArray v B ∧
      ∀ target, Steps p.tables e below (B.U.setTop { g with pc := g.pc + 3, stack := v.toList ++ rest }) target → Steps p.tables e below (T.setTop g) target := by
  obtain ⟨mk, methM, hnamed, hmethM, hstM, habM⟩ := Cond.instanceMethod_spec hinst
  obtain ⟨m8, methM', cM, hn8, hmethM', -, -, -, -, -, -, hsigM⟩ := Cond.codeWith_spec hcode
  cases Option.some.inj (hn8.symm.trans hnamed)
  cases hmethM.symm.trans hmethM'
  obtain ⟨c2, r2, m2, q1, q2, q3, q4, kP, hkP, hkPi⟩ := Cond.selects_spec hsel
  cases hcls.symm.trans q1
  cases (State.methodFound?_of_named hnamed hy).symm.trans q2
  cases hnamed.symm.trans q3
  have hselP : selectMethod e.platform s.vm cellB.cls mk = .method mk := by rw [Launch.admits_selectMethod X.admits]; exact q4
  obtain ⟨vm₁, X₁, hstep₁⟩ := X.invokevirtual hexec hown hlink hnamed hmethM hstM hkP hkPi hy (a := b) (cell := cellB) hcell
    (fun z h => by rw [h] at hobj; cases hobj) hselP hmethM habM hkP hkPi (g := g) hg (argsL := argsL) (rest := rest) (hlen _ hsigM) hstack hdg
  obtain ⟨v, B, X', hpost, hsteps⟩ := hK m meth c ⟨T.setVm vm₁, locs, cells, slots⟩ { g with stack := rest } (.invokevirtual index) mk (Value.ref b :: argsL).toArray X₁ hg hsize hdg hW (X₁.named hnamed) (hpre vm₁ X₁.warmed)
  exact ⟨v, vm₁, B, X₁.warmed, X', hpost, fun target h => hstep₁ _ fun acts => by rw [doInvoke_state]; exact hsteps.trans h⟩
abbrev vx_CVW (R : Room) (s : State) (args : Array Value) (own C : String) (index : Nat) (y : MethodName) (bytes : ByteArray) (maxL : Nat) (ret : Option FieldType) (hh : List (Nat × Nat × Nat × Nat)) (ws : List Cond) (rm : Room) (mc ms n : Nat) : Prop :=
  (rm.cells = mc ∧ rm.slots = ms ∧ rm.frames + 1 ≤ R.frames ∧ 8 + (maxL + 11) + rm.locals ≤ R.locals ∧ (∀ w ∈ ws, ∀ (a' : Array Value) (U : State), s.WarmedH U.vm → w.before a' U = true) ∧ Cond.codeWith y bytes maxL ret hh ∈ ws) ∧
  (Cond.codeWith y bytes maxL ret hh).before args s = true ∧ (Cond.initialized y.cls).before args s = true ∧ (y.cls ≠ "java/lang/invoke/MethodHandle" ∧ y.cls ≠ "java/lang/invoke/VarHandle") ∧
  (∀ sig, parseMethodDescriptor y.desc = some sig → n = sig.parameters.length) ∧ (Cond.methodLink own index y).before args s = true ∧ (Cond.instanceMethod y).before args s = true ∧ (Cond.selects C y y).before args s = true
theorem vx_cwVW {own C : String} {index maxL mc ms : Nat} {y : MethodName} {bytes : ByteArray} {ret : Option FieldType} {hh : List (Nat × Nat × Nat × Nat)} {Ts ws ws' : List Cond} {rm : Room} (n : Nat) (ht : ∀ w ∈ Ts, w.before args s = true) (hT : GoodIn Ts (wsV own index C y ws)) (hw : ws = Cond.codeWith y bytes maxL ret hh :: ws') (hrc : rm.cells = mc) (hrs : rm.slots = ms)
    (hd : y.cls = C ∧ y.cls ≠ "java/lang/invoke/MethodHandle" ∧ y.cls ≠ "java/lang/invoke/VarHandle" ∧ (parseMethodDescriptor y.desc).map (fun d => d.parameters.length) = some n) (hR : rm.frames + 1 ≤ R.frames ∧ 8 + (maxL + 11) + rm.locals ≤ R.locals) :
    vx_CVW R s args own C index y bytes maxL ret hh ws rm mc ms n := by
  obtain ⟨hC, hd⟩ := hd
  subst hC
  have ok : ∀ w ∈ wsV own index y.cls y ws, w.before args s = true := fun w h => ht w (hT w h).1
  have hG : GoodIn Ts ws := fun w h => hT w (by unfold wsV; exact List.mem_append_right _ h)
  have hc : Cond.codeWith y bytes maxL ret hh ∈ ws := by rw [hw]; exact List.mem_cons_self
  refine ⟨⟨hrc, hrs, hR.1, hR.2, pay_in ht hG, hc⟩, ht _ (hG _ hc).1, ok _ (by simp [wsV]), ⟨hd.1, hd.2.1⟩, fun sig h => ?_, ok _ (by simp [wsV]), ok _ (by simp [wsV]), ok _ (by simp [wsV])⟩
  have h2 := hd.2.2
  rw [h] at h2
  exact (Option.some.inj h2).symm
theorem vx_runVW {y : MethodName} {bytes cc : ByteArray} {maxL nL mc ms n index : Nat} {ret : Option FieldType} {hh : List (Nat × Nat × Nat × Nat)} {ws : List Cond} {rm : Room} {Pc : Array Value → State → Prop} {Qc : Array Value → State → Outcome → State → Prop} {free : Addr → Prop} {Ts : List Cond} {own C : String} {b : Addr} {As rest : List Value} {g : JFrame}
    (S : CallFix p m c cc nL s args Ts own) (hM : Met l y ws rm Pc Qc mc ms free) (cw : vx_CVW R s args own C index y bytes maxL ret hh ws rm mc ms n) (hp : PreV s H C b Pc As)
    (hg : g.method = m) (hn : As.length = n) (hsize : g.locals.size = nL) (hstack : g.stack = As.reverse ++ .ref b :: rest) (hW : 2 * g.monitorRoom + (rest.map fun v => v.category).sum ≤ 8) (hdg : decode cc g.pc = .ok (.invokevirtual index, 3)) (hf : cells + mc ≤ R.cells ∧ slots + ms ≤ R.slots) :
    va_Run p l e R s m args below meth c H locs cells slots mc ms g rest (Qc (Value.ref b :: As).toArray) free := by
  obtain ⟨⟨hrc, hrs, hfr, hlo, hws, hcw⟩, hcode, hini, hy, hlen, hl, hin, hse⟩ := cw
  have hK : Back l R p e below s args y 3 8 (PreOf R mc ms Pc) (PostOf Qc mc ms free) := va_backW (hh := hh) (bytes := bytes) (maxL := maxL) (ret := ret) hM hp.1 hrc hrs hfr hlo hws hcw (fun a' U hW => word_at hW (Or.inl (by first | rfl | simp [Cond.onTables, Cond.keeps, Cond.steady])) hini)
  obtain ⟨hx, hb, hml, ho, -⟩ := S
  obtain ⟨-, ⟨cellB, hcB, hoB, hclB⟩, hPc⟩ := hp
  intro T hT X
  obtain ⟨v, vm₁, ⟨U', l2, c2, s2⟩, hW₁, X', ⟨g', mk, t, L, e1, e2, hq, h1, hL, h2, h3⟩, st⟩ := vx_callVW X hx (C := C) (hh := hh) (bytes := bytes) (maxL := maxL) (ret := ret) ho hl hin hse hcode hy hK (by rw [hT]; exact hcB) hoB hclB hg (hsize.trans hml.symm) (argsL := As) (rest := rest) (fun sig h => hn.trans (hlen sig h)) hstack hW (by rw [hb]; exact hdg)
    (fun vm₁ hW₁ => ⟨hf.1, hf.2, hPc (T.setVm vm₁) hT hW₁⟩)
  dsimp only [Pt.U, Pt.locs, Pt.cells, Pt.slots] at X' e1 e2 h1 h2 h3 st
  subst h1; subst h2; subst h3
  exact ⟨v, (T.setVm vm₁).calling g' mk (Value.ref b :: As).toArray, t, U', L, hT, X', hL, e1, e2, hq, st⟩
section
variable {y : MethodName} {bytes cc : ByteArray} {maxL nL mc ms n index : Nat} {ret : Option FieldType} {ws : List Cond} {rm : Room} {Pc : Array Value → State → Prop} {Qc : Array Value → State → Outcome → State → Prop} {XC : String → State → State → Prop} {free : Addr → Prop} {Ts : List Cond} {own C : String} {b : Addr} {As rest : List Value} {g : JFrame}
theorem vx_runVX {hh : List (Nat × Nat × Nat × Nat)} (S : CallFix p m c cc nL s args Ts own) (hM : vx_Met l y ws rm Pc Qc XC mc ms free) (cw : vx_CVW R s args own C index y bytes maxL ret hh ws rm mc ms n) (hp : PreV s H C b Pc As)
    (hg : g.method = m) (hn : As.length = n) (hsize : g.locals.size = nL) (hstack : g.stack = As.reverse ++ .ref b :: rest) (hW : 2 * g.monitorRoom + (rest.map fun v => v.category).sum ≤ 8) (hdg : decode cc g.pc = .ok (.invokevirtual index, 3)) (hf : cells + mc ≤ R.cells ∧ slots + ms ≤ R.slots) :
    vx_Run p l e R s m args below meth c H locs cells slots mc ms g rest (Qc (Value.ref b :: As).toArray) XC free := by
  obtain ⟨⟨hrc, hrs, hfr, hlo, hws, hcw⟩, hcode, hini, hy, hlen, hl, hin, hse⟩ := cw
  have hK : vx_Back l R p e below s args y 3 8 (PreOf R mc ms Pc) (PostOf Qc mc ms free) (vx_Post XC mc ms free) := vx_backW (hh := hh) (bytes := bytes) (maxL := maxL) (ret := ret) hM hp.1 hrc hrs hfr hlo hws hcw (fun a' U hW => word_at hW (Or.inl (by first | rfl | simp [Cond.onTables, Cond.keeps, Cond.steady])) hini)
  obtain ⟨hx, hb, hml, ho, -⟩ := S
  obtain ⟨-, ⟨cellB, hcB, hoB, hclB⟩, hPc⟩ := hp
  intro T hT X
  rcases vx_callVX X hx (C := C) (hh := hh) (bytes := bytes) (maxL := maxL) (ret := ret) ho hl hin hse hcode hy hK (by rw [hT]; exact hcB) hoB hclB hg (hsize.trans hml.symm) (argsL := As) (rest := rest) (fun sig h => hn.trans (hlen sig h)) hstack hW (by rw [hb]; exact hdg)
    (fun vm₁ hW₁ => ⟨hf.1, hf.2, hPc (T.setVm vm₁) hT hW₁⟩) with ⟨v, vm₁, ⟨U', l2, c2, s2⟩, hW₁, X', ⟨g', mk, t, L, e1, e2, hq, h1, hL, h2, h3⟩, st⟩ | ⟨q, vm₁, ⟨U', l2, c2, s2⟩, hW₁, X', ⟨g', mk, t, L, E, ce, e1, e2, hq, hce, hcv, hcl, h1, hL, h2, h3⟩, st⟩
  · dsimp only [Pt.U, Pt.locs, Pt.cells, Pt.slots] at X' e1 e2 h1 h2 h3 st
    subst h1; subst h2; subst h3
    exact Or.inl ⟨v, (T.setVm vm₁).calling g' mk (Value.ref b :: As).toArray, t, U', L, hT, X', hL, e1, e2, hq, st⟩
  · dsimp only [Pt.U, Pt.locs, Pt.cells, Pt.slots] at X' e1 e2 h1 h2 h3 st hcl
    subst h1; subst h2; subst h3
    exact Or.inr ⟨q, (T.setVm vm₁).calling g' mk (Value.ref b :: As).toArray, t, U', L, E, ce, hT, X', hL, e1, e2, hq, hce, hcv, vx_cls hW₁ hcl, st⟩
theorem vx_runSX {hh : List (Nat × Nat × Nat × Nat)} (S : CallFix p m c cc nL s args Ts own) (hM : vx_Met l y ws rm Pc Qc XC mc ms free) (cw : vx_CSW R s args own index y bytes maxL ret hh ws rm mc ms n) (hp : PreS s H Pc As)
    (hg : g.method = m) (hn : As.length = n) (hsize : g.locals.size = nL) (hstack : g.stack = As.reverse ++ rest) (hW : 2 * g.monitorRoom + (rest.map fun v => v.category).sum ≤ 8) (hdg : decode cc g.pc = .ok (.invokestatic index, 3)) (hf : cells + mc ≤ R.cells ∧ slots + ms ≤ R.slots) :
    vx_Run p l e R s m args below meth c H locs cells slots mc ms g rest (Qc As.toArray) XC free := by
  obtain ⟨⟨hrc, hrs, hfr, hlo, hws, hcw⟩, hcode, hini, hy, hlen, hl, hstt⟩ := cw
  have hK : vx_Back l R p e below s args y 3 8 (PreOf R mc ms Pc) (PostOf Qc mc ms free) (vx_Post XC mc ms free) := vx_backW (hh := hh) (bytes := bytes) (maxL := maxL) (ret := ret) hM hp.1 hrc hrs hfr hlo hws hcw (fun a' U hW => word_at hW (Or.inl (by first | rfl | simp [Cond.onTables, Cond.keeps, Cond.steady])) hini)
  obtain ⟨hx, hb, hml, ho, -⟩ := S
  intro T hT X
  rcases vx_callSX X hx (hh := hh) (bytes := bytes) (maxL := maxL) (ret := ret) ho hl hstt hini hcode hy hK hg (hsize.trans hml.symm) (argsL := As) (rest := rest) (fun sig h => hn.trans (hlen sig h)) hstack hW (by rw [hb]; exact hdg)
    (fun vm₁ hW₁ => ⟨hf.1, hf.2, hp.2 (T.setVm vm₁) hT hW₁⟩) with ⟨v, vm₁, ⟨U', l2, c2, s2⟩, hW₁, X', ⟨g', mk, t, L, e1, e2, hq, h1, hL, h2, h3⟩, st⟩ | ⟨q, vm₁, ⟨U', l2, c2, s2⟩, hW₁, X', ⟨g', mk, t, L, E, ce, e1, e2, hq, hce, hcv, hcl, h1, hL, h2, h3⟩, st⟩
  · dsimp only [Pt.U, Pt.locs, Pt.cells, Pt.slots] at X' e1 e2 h1 h2 h3 st
    subst h1; subst h2; subst h3
    exact Or.inl ⟨v, (T.setVm vm₁).calling g' mk As.toArray, t, U', L, hT, X', hL, e1, e2, hq, st⟩
  · dsimp only [Pt.U, Pt.locs, Pt.cells, Pt.slots] at X' e1 e2 h1 h2 h3 st hcl
    subst h1; subst h2; subst h3
    exact Or.inr ⟨q, (T.setVm vm₁).calling g' mk As.toArray, t, U', L, E, ce, hT, X', hL, e1, e2, hq, hce, hcv, vx_cls hW₁ hcl, st⟩
end
end VXH
theorem vx_ofWH {l : Launch} {y : MethodName} {ws ws' : List Cond} {rm : Room} {Pc : Array Value → State → Prop} {Qc : Array Value → State → Outcome → State → Prop} {XC : String → State → State → Prop} {mc ms : Nat} {free : Addr → Prop} {cc : ByteArray} {maxL : Nat} {ret : Option FieldType} {hh : List (Nat × Nat × Nat × Nat)}
    (hy : plainName y.cls = true) (hw : ws = Cond.codeWith y cc maxL ret hh :: ws')
    (body : ∀ p e s m args below meth c s₁, BodyLoose p l y (headSpec ws rm) cc maxL ret e s m args below meth c s₁ → c.maxLocals = maxL → Pc args s →
      W p l e (headSpec ws rm).room s m args below meth c s.heap [] 0 0 (vx_MQ below Qc XC args s mc ms free) (entryFrame m args maxL)) : vx_Met l y ws rm Pc Qc XC mc ms free := by
  refine MetFree.of_bodyS (code := cc) (maxLocals := maxL) (ret := ret) hy ?_ ?_
  · intro args s m h hn
    obtain ⟨m9, meth, c, hn9, h1, h2, h3, h4, -, h5, h6, -⟩ := Cond.codeWith_spec (atoms_spec (ws := ws) h _ (by rw [hw]; exact List.mem_cons_self))
    cases hn.symm.trans hn9
    exact ⟨meth, c, h1, h2, h3, h4, h5, h6⟩
  · intro p e s m args below meth c s₁ B hml hP _
    have hh0 : s₁.heap = s.heap := by rw [B.state]; rfl
    obtain ⟨t, a1, o, b1, b2, b3⟩ := body p e s m args below meth c s₁ B hml hP s₁ hh0 (Stand.of_body B)
    exact ⟨t, o, a1, b1, b2, b3⟩
/-! ===== END ===== -/
end
section
/- Part 03: the classes' tables, printed by wip/whole/tools/gen_tabs.py -/
def xTN : u_T := fun k => match k with
  | 0 => ("ChannelNet", "coins", "[I", true)
  | 1 => ("ChannelNet", "base", "[I", true)
  | 2 => ("ChannelNet", "parts", "[I", true)
  | 3 => ("ChannelNet", "delta", "[I", true)
  | 4 => ("ChannelNet", "watching", "[Z", true)
  | 5 => ("ChannelNet", "secrets", "LChannelNet$Secrets;", true)
  | 6 => ("ChannelNet", "channels", "Ljava/util/ArrayList;", true)
  | 7 => ("ChannelNet", "payments", "Ljava/util/ArrayList;", true)
  | 8 => ("ChannelNet", "latestRoute", "LChannelNet$Route;", true)
  | 9 => ("ChannelNet", "trail", "LChannelNet$Route;", true)
  | 10 => ("ChannelNet", "height", "I", false)
  | _ => ("", "", "", false)
def xTS : u_T := fun k => match k with
  | 0 => ("ChannelNet$Secrets", "locks", "[J", true)
  | 1 => ("ChannelNet$Secrets", "knowers", "[I", true)
  | 2 => ("ChannelNet$Secrets", "count", "I", false)
  | _ => ("", "", "", false)
def xTA : u_T := fun k => match k with
  | 0 => ("java/util/ArrayList", "elementData", "[Ljava/lang/Object;", false)
  | 1 => ("java/util/ArrayList", "size", "I", false)
  | 2 => ("java/util/AbstractList", "modCount", "I", false)
  | _ => ("", "", "", false)
def xTR : u_T := fun k => match k with
  | 0 => ("ChannelNet$Route", "channels", "[I", true)
  | 1 => ("ChannelNet$Route", "payers", "[I", true)
  | 2 => ("ChannelNet$Route", "amounts", "[I", true)
  | 3 => ("ChannelNet$Route", "length", "I", false)
  | _ => ("", "", "", false)
def xTC : u_T := fun k => match k with
  | 0 => ("ChannelNet$Channel", "first", "I", true)
  | 1 => ("ChannelNet$Channel", "second", "I", true)
  | 2 => ("ChannelNet$Channel", "firstBalances", "[I", true)
  | 3 => ("ChannelNet$Channel", "secondBalances", "[I", true)
  | 4 => ("ChannelNet$Channel", "promises", "Ljava/util/ArrayList;", true)
  | 5 => ("ChannelNet$Channel", "latest", "I", false)
  | 6 => ("ChannelNet$Channel", "status", "I", false)
  | 7 => ("ChannelNet$Channel", "held", "I", false)
  | 8 => ("ChannelNet$Channel", "publisher", "I", false)
  | 9 => ("ChannelNet$Channel", "published", "I", false)
  | 10 => ("ChannelNet$Channel", "publishedAt", "I", false)
  | 11 => ("ChannelNet$Channel", "settled", "Z", false)
  | _ => ("", "", "", false)
def xTP : u_T := fun k => match k with
  | 0 => ("ChannelNet$Promise", "payer", "I", true)
  | 1 => ("ChannelNet$Promise", "payee", "I", true)
  | 2 => ("ChannelNet$Promise", "amount", "I", true)
  | 3 => ("ChannelNet$Promise", "lock", "J", true)
  | 4 => ("ChannelNet$Promise", "deadline", "I", true)
  | 5 => ("ChannelNet$Promise", "madeIn", "I", true)
  | 6 => ("ChannelNet$Promise", "goneIn", "I", false)
  | 7 => ("ChannelNet$Promise", "paidOut", "Z", false)
  | _ => ("", "", "", false)
def xTY : u_T := fun k => match k with
  | 0 => ("ChannelNet$Payment", "receiver", "I", true)
  | 1 => ("ChannelNet$Payment", "lock", "J", true)
  | 2 => ("ChannelNet$Payment", "length", "I", true)
  | 3 => ("ChannelNet$Payment", "channels", "[I", true)
  | 4 => ("ChannelNet$Payment", "payers", "[I", true)
  | 5 => ("ChannelNet$Payment", "amounts", "[I", true)
  | 6 => ("ChannelNet$Payment", "deadlines", "[I", true)
  | 7 => ("ChannelNet$Payment", "promises", "[I", true)
  | 8 => ("ChannelNet$Payment", "status", "I", false)
  | 9 => ("ChannelNet$Payment", "outcome", "I", false)
  | 10 => ("ChannelNet$Payment", "made", "I", false)
  | 11 => ("ChannelNet$Payment", "left", "I", false)
  | 12 => ("ChannelNet$Payment", "ended", "I", false)
  | _ => ("", "", "", false)
def xTM : u_T := fun k => match k with
  | 0 => ("ChannelNetModel", "thrown", "I", false)
  | 1 => ("ChannelNetModel", "coins", "[I", true)
  | 2 => ("ChannelNetModel", "bases", "[I", true)
  | 3 => ("ChannelNetModel", "parts", "[I", true)
  | 4 => ("ChannelNetModel", "deltas", "[I", true)
  | 5 => ("ChannelNetModel", "watches", "[Z", true)
  | 6 => ("ChannelNetModel", "height", "I", false)
  | 7 => ("ChannelNetModel", "channels", "I", false)
  | 8 => ("ChannelNetModel", "firsts", "[I", true)
  | 9 => ("ChannelNetModel", "seconds", "[I", true)
  | 10 => ("ChannelNetModel", "status", "[I", true)
  | 11 => ("ChannelNetModel", "latest", "[I", true)
  | 12 => ("ChannelNetModel", "balances", "[I", true)
  | 13 => ("ChannelNetModel", "open", "[J", true)
  | 14 => ("ChannelNetModel", "held", "[I", true)
  | 15 => ("ChannelNetModel", "promises", "[I", true)
  | 16 => ("ChannelNetModel", "payers", "[I", true)
  | 17 => ("ChannelNetModel", "amounts", "[I", true)
  | 18 => ("ChannelNetModel", "locks", "[J", true)
  | 19 => ("ChannelNetModel", "deadlines", "[I", true)
  | 20 => ("ChannelNetModel", "published", "[I", true)
  | 21 => ("ChannelNetModel", "publishers", "[I", true)
  | 22 => ("ChannelNetModel", "publishedAt", "[I", true)
  | 23 => ("ChannelNetModel", "left", "[J", true)
  | 24 => ("ChannelNetModel", "settled", "[Z", true)
  | 25 => ("ChannelNetModel", "known", "I", false)
  | 26 => ("ChannelNetModel", "knownLocks", "[J", true)
  | 27 => ("ChannelNetModel", "knowers", "[I", true)
  | 28 => ("ChannelNetModel", "hops", "I", false)
  | 29 => ("ChannelNetModel", "route", "[I", true)
  | 30 => ("ChannelNetModel", "routeAmount", "I", false)
  | 31 => ("ChannelNetModel", "way", "[I", true)
  | 32 => ("ChannelNetModel", "wayAmounts", "[J", true)
  | 33 => ("ChannelNetModel", "wayNodes", "[I", true)
  | 34 => ("ChannelNetModel", "payments", "I", false)
  | 35 => ("ChannelNetModel", "kind", "[I", true)
  | 36 => ("ChannelNetModel", "turned", "[I", true)
  | 37 => ("ChannelNetModel", "made", "[I", true)
  | 38 => ("ChannelNetModel", "back", "[I", true)
  | 39 => ("ChannelNetModel", "ended", "[I", true)
  | 40 => ("ChannelNetModel", "lengths", "[I", true)
  | 41 => ("ChannelNetModel", "payTo", "[I", true)
  | 42 => ("ChannelNetModel", "payLocks", "[J", true)
  | 43 => ("ChannelNetModel", "payChannels", "[I", true)
  | 44 => ("ChannelNetModel", "payAmounts", "[I", true)
  | 45 => ("ChannelNetModel", "payDeadlines", "[I", true)
  | 46 => ("ChannelNetModel", "payPromises", "[I", true)
  | 47 => ("ChannelNetModel", "payPayers", "[I", true)
  | _ => ("", "", "", false)
def xTE8 : u_T := fun k => match k with
  | _ => ("", "", "", false)
def xTE9 : u_T := fun k => match k with
  | _ => ("", "", "", false)
def xTE10 : u_T := fun k => match k with
  | _ => ("", "", "", false)
def xcl : List vw_C := [("ChannelNet", xTN, 11), ("ChannelNet$Secrets", xTS, 3), ("java/util/ArrayList", xTA, 3), ("ChannelNet$Route", xTR, 4), ("ChannelNet$Channel", xTC, 12), ("ChannelNet$Promise", xTP, 8), ("ChannelNet$Payment", xTY, 13), ("ChannelNetModel", xTM, 48), ("java/lang/IndexOutOfBoundsException", xTE8, 0), ("java/lang/IllegalArgumentException", xTE9, 0), ("java/lang/IllegalStateException", xTE10, 0)]
def xtys : List (List FieldType) := [[.array (.int), .array (.int), .array (.int), .array (.int), .array (.boolean), .object "ChannelNet$Secrets", .object "java/util/ArrayList", .object "java/util/ArrayList", .object "ChannelNet$Route", .object "ChannelNet$Route", .int],
  [.array (.long), .array (.int), .int],
  [.array (.object "java/lang/Object"), .int, .int],
  [.array (.int), .array (.int), .array (.int), .int],
  [.int, .int, .array (.int), .array (.int), .object "java/util/ArrayList", .int, .int, .int, .int, .int, .int, .boolean],
  [.int, .int, .int, .long, .int, .int, .int, .boolean],
  [.int, .long, .int, .array (.int), .array (.int), .array (.int), .array (.int), .array (.int), .int, .int, .int, .int, .int],
  [.int, .array (.int), .array (.int), .array (.int), .array (.int), .array (.boolean), .int, .int, .array (.int), .array (.int), .array (.int), .array (.int), .array (.int), .array (.long), .array (.int), .array (.int), .array (.int), .array (.int), .array (.long), .array (.int), .array (.int), .array (.int), .array (.int), .array (.long), .array (.boolean), .int, .array (.long), .array (.int), .int, .array (.int), .int, .array (.int), .array (.long), .array (.int), .int, .array (.int), .array (.int), .array (.int), .array (.int), .array (.int), .array (.int), .array (.int), .array (.long), .array (.int), .array (.int), .array (.int), .array (.int), .array (.int)],
  [],
  [],
  []]
def xwis : List (List Nat) := [[113, 115, 117, 119, 121, 123, 125, 127, 129, 131, 133],
  [40, 42, 44],
  [69, 71, 73],
  [92, 94, 96, 98],
  [311, 313, 315, 317, 319, 321, 323, 325, 327, 329, 331, 333],
  [512, 514, 516, 518, 520, 522, 524, 526],
  [668, 670, 672, 674, 676, 678, 680, 682, 684, 686, 688, 690, 692],
  [909, 911, 913, 915, 917, 919, 921, 923, 925, 927, 929, 931, 933, 935, 937, 939, 941, 943, 945, 947, 949, 951, 953, 955, 957, 959, 961, 963, 965, 967, 969, 971, 973, 975, 977, 979, 981, 983, 985, 987, 989, 991, 993, 995, 997, 999, 1001, 1003],
  [],
  [],
  []]
def xsf : Nat := 68
end
section
/- Part 04: an abstract heap, positional locals, a table of instructions a method, and the judgement xV over the kit's W. -/
abbrev XC : Type := (Bool × FieldType × vp_A) ⊕ (Nat × List Value)
abbrev XH : Type := Nat × Nat × Nat × (Nat → Option XC)
abbrev XL : Type := List (Option Value)
/-- an instruction: its place, itself, its length, the next place, a target (or a field's place), a constant (or a class's place), the place of its word in tables_1 -/
abbrev XI : Type := Nat × Instr × Nat × Nat × Nat × Value × Nat
/-- a method: name, code, variables, answer's type, handlers, instructions -/
abbrev XM : Type := MethodName × ByteArray × Nat × Option FieldType × List (Nat × Nat × Nat × Nat) × List XI
def xget (h : XH) (a : Nat) : Option XC := h.2.2.2 a
def xput (h : XH) (a : Nat) (c : XC) : XH := (h.1, h.2.1, h.2.2.1, fun q => if q = a then some c else h.2.2.2 q)
def xnew (h : XH) (c : XC) (n : Nat) : XH := (h.1 + 1, h.2.1 + 1, h.2.2.1 + n, fun q => if q = h.1 then some c else h.2.2.2 q)
def xnth : XL → Nat → Option Value
  | [], _ => none
  | x :: _, 0 => x
  | _ :: t, n + 1 => xnth t n
def xupd : XL → Nat → Option Value → XL
  | [], _, _ => []
  | _ :: t, 0, v => v :: t
  | x :: t, n + 1, v => x :: xupd t n v
def xclr (lv : XL) (i : Nat) : XL := match i with
  | 0 => lv
  | j + 1 => match xnth lv j with
    | none => lv
    | some w => bif Nat.beq w.category 2 then xupd lv j none else lv
def xsto1 (lv : XL) (i : Nat) (v : Value) : XL := xupd (xclr lv i) i (some v)
def xsto2 (lv : XL) (i : Nat) (v : Value) : XL := xupd (xupd (xclr lv i) i (some v)) (i + 1) none
def xlook : List XI → Nat → Option XI
  | [], _ => none
  | e :: t, pc => bif Nat.beq e.1 pc then some e else xlook t pc
theorem xnth_upd (lv : XL) (i j : Nat) (v : Option Value) : xnth (xupd lv i v) j = if i = j then (if i < lv.length then v else none) else xnth lv j := by
  induction lv generalizing i j with
  | nil => simp [xupd, xnth]
  | cons x t ih =>
    cases i with
    | zero =>
      cases j with
      | zero => simp [xupd, xnth]
      | succ j => simp [xupd, xnth]
    | succ i =>
      cases j with
      | zero => simp [xupd, xnth]
      | succ j => simp [xupd, xnth, ih]
theorem xlen_upd (lv : XL) (i : Nat) (v : Option Value) : (xupd lv i v).length = lv.length := by
  induction lv generalizing i with
  | nil => simp [xupd]
  | cons x t ih =>
    cases i with
    | zero => simp [xupd]
    | succ i => simp [xupd, ih]
theorem xlen_clr (lv : XL) (i : Nat) : (xclr lv i).length = lv.length := by
  unfold xclr
  cases i with
  | zero => rfl
  | succ j =>
    simp only
    cases xnth lv j with
    | none => rfl
    | some w =>
      simp only
      cases h : Nat.beq w.category 2 <;> simp [h, xlen_upd]
theorem xnth_clr {lv : XL} {i j : Nat} {w : Value} (h : xnth (xclr lv i) j = some w) : xnth lv j = some w ∧ ¬ (j + 1 = i ∧ w.category = 2) := by
  unfold xclr at h
  cases i with
  | zero => exact ⟨h, by omega⟩
  | succ k =>
    simp only at h
    cases hk : xnth lv k with
    | none =>
      rw [hk] at h
      simp only at h
      refine ⟨h, fun q => ?_⟩
      have : j = k := by omega
      subst this
      rw [hk] at h; cases h
    | some w2 =>
      rw [hk] at h
      simp only at h
      cases hb : Nat.beq w2.category 2 with
      | true =>
        rw [hb] at h
        simp only [cond_true, xnth_upd] at h
        by_cases hkj : k = j
        · rw [if_pos hkj] at h
          split at h <;> cases h
        · rw [if_neg hkj] at h
          exact ⟨h, by omega⟩
      | false =>
        rw [hb] at h
        simp only [cond_false] at h
        refine ⟨h, fun q => ?_⟩
        have : j = k := by omega
        subst this
        have e2 : w2 = w := Option.some.inj (hk.symm.trans h)
        rw [e2, q.2] at hb
        cases hb
/-- the machine's variables hold what the list says -/
def xLs (nL : Nat) (lv : XL) (ls : Array Slot) : Prop := lv.length = nL ∧ ls.size = nL ∧ lv_wf ls ∧ ∀ (j : Nat) (w : Value), xnth lv j = some w → ls[j]? = some (.val w)
def xasc (lv : XL) : List (Nat × Value) := (List.range lv.length).filterMap (fun j => (xnth lv j).map (fun w => (j, w)))
theorem xnth_lt {lv : XL} {j : Nat} {w : Value} (h : xnth lv j = some w) : j < lv.length := by
  induction lv generalizing j with
  | nil => simp [xnth] at h
  | cons x t ih =>
    cases j with
    | zero => simp
    | succ j => simp [xnth] at h; have := ih h; simp; omega
theorem xasc_mem {lv : XL} {j : Nat} {w : Value} : (j, w) ∈ xasc lv ↔ xnth lv j = some w := by
  unfold xasc
  rw [List.mem_filterMap]
  constructor
  · rintro ⟨k, -, h⟩
    cases hk : xnth lv k with
    | none => rw [hk] at h; cases h
    | some u =>
      rw [hk] at h
      simp at h
      obtain ⟨rfl, rfl⟩ := h
      exact hk
  · intro h
    exact ⟨j, List.mem_range.mpr (xnth_lt h), by rw [h]; rfl⟩
theorem xLs.has {nL : Nat} {lv : XL} {ls : Array Slot} (h : xLs nL lv ls) : lv_has ls nL (xasc lv) :=
  ⟨h.2.1, h.2.2.1, fun q hq => h.2.2.2 q.1 q.2 (xasc_mem.mp hq)⟩
theorem xLs.sto1 {nL i : Nat} {lv : XL} {ls' : Array Slot} {v : Value} (hl : lv.length = nL) (h : lv_has ls' nL ((i, v) :: (xasc lv).filter (fun q => !(q.1 == i) && !(q.1 + 1 == i && q.2.category == 2)))) : xLs nL (xsto1 lv i v) ls' := by
  refine ⟨by rw [xsto1, xlen_upd, xlen_clr, hl], h.1, h.2.1, fun j w hj => ?_⟩
  rw [xsto1, xnth_upd] at hj
  by_cases hij : i = j
  · rw [if_pos hij] at hj
    split at hj
    · cases hj
      exact h.2.2 (j, v) (by rw [hij]; exact List.mem_cons_self)
    · cases hj
  · rw [if_neg hij] at hj
    obtain ⟨h1, h2⟩ := xnth_clr hj
    refine h.2.2 (j, w) (List.mem_cons_of_mem _ (List.mem_filter.mpr ⟨xasc_mem.mpr h1, ?_⟩))
    have h3 : ¬ j = i := fun q => hij q.symm
    simp only [Bool.and_eq_true, Bool.not_eq_true', beq_eq_false_iff_ne, ne_eq, h3, not_false_eq_true, true_and, Bool.and_eq_false_iff]
    by_cases h4 : j + 1 = i
    · exact Or.inr fun q => h2 ⟨h4, q⟩
    · exact Or.inl h4
theorem xLs.sto2 {nL i : Nat} {lv : XL} {ls' : Array Slot} {v : Value} (hl : lv.length = nL) (h : lv_has ls' nL ((i, v) :: (xasc lv).filter (fun q => !(q.1 == i) && (!(q.1 == i + 1) && !(q.1 + 1 == i && q.2.category == 2))))) : xLs nL (xsto2 lv i v) ls' := by
  refine ⟨by rw [xsto2, xlen_upd, xlen_upd, xlen_clr, hl], h.1, h.2.1, fun j w hj => ?_⟩
  rw [xsto2, xnth_upd] at hj
  by_cases hi1 : i + 1 = j
  · rw [if_pos hi1] at hj
    split at hj <;> cases hj
  rw [if_neg hi1, xnth_upd] at hj
  by_cases hij : i = j
  · rw [if_pos hij] at hj
    split at hj
    · cases hj
      exact h.2.2 (j, v) (by rw [hij]; exact List.mem_cons_self)
    · cases hj
  · rw [if_neg hij] at hj
    obtain ⟨h1, h2⟩ := xnth_clr hj
    refine h.2.2 (j, w) (List.mem_cons_of_mem _ (List.mem_filter.mpr ⟨xasc_mem.mpr h1, ?_⟩))
    have h3 : ¬ j = i := fun q => hij q.symm
    have h5 : ¬ j = i + 1 := fun q => hi1 q.symm
    simp only [Bool.and_eq_true, Bool.not_eq_true', beq_eq_false_iff_ne, ne_eq, h3, h5, not_false_eq_true, true_and, Bool.and_eq_false_iff]
    by_cases h4 : j + 1 = i
    · exact Or.inr fun q => h2 ⟨h4, q⟩
    · exact Or.inl h4
end
section
def xI1 {α : Type} (st : List Value) (f : Int32 → List Value → Option α) : Option α := match st with
  | .int x :: r => f x r
  | _ => none
def xI2 {α : Type} (st : List Value) (f : Int32 → Int32 → List Value → Option α) : Option α := match st with
  | .int y :: .int x :: r => f x y r
  | _ => none
def xL1 {α : Type} (st : List Value) (f : Int64 → List Value → Option α) : Option α := match st with
  | .long x :: r => f x r
  | _ => none
def xL2 {α : Type} (st : List Value) (f : Int64 → Int64 → List Value → Option α) : Option α := match st with
  | .long y :: .long x :: r => f x y r
  | _ => none
def xLI {α : Type} (st : List Value) (f : Int64 → Int32 → List Value → Option α) : Option α := match st with
  | .int y :: .long x :: r => f x y r
  | _ => none
def xA1 {α : Type} (st : List Value) (f : Value → List Value → Option α) : Option α := match st with
  | .ref a :: r => f (.ref a) r
  | .null :: r => f .null r
  | _ => none
def xV1 {α : Type} (st : List Value) (f : Value → List Value → Option α) : Option α := match st with
  | v :: r => bif Nat.beq v.category 1 then f v r else none
  | _ => none
def xV2 {α : Type} (st : List Value) (f : Value → Value → List Value → Option α) : Option α := match st with
  | v :: w :: r => bif (Nat.beq v.category 1 && Nat.beq w.category 1) then f v w r else none
  | _ => none
def xV3 {α : Type} (st : List Value) (f : Value → Value → Value → List Value → Option α) : Option α := match st with
  | v :: w :: u :: r => bif (Nat.beq v.category 1 && Nat.beq w.category 1 && Nat.beq u.category 1) then f v w u r else none
  | _ => none
def xLd {α : Type} (o : Option Value) (f : Value → Option α) : Option α := match o with
  | some v => f v
  | none => none
theorem xI1_inv {α : Type} {st : List Value} {f : Int32 → List Value → Option α} {z : α} (h : xI1 st f = some z) : ∃ (x : Int32) (r : List Value), st = .int x :: r ∧ f x r = some z := by
  unfold xI1 at h
  split at h
  · exact ⟨_, _, rfl, h⟩
  · cases h
theorem xI2_inv {α : Type} {st : List Value} {f : Int32 → Int32 → List Value → Option α} {z : α} (h : xI2 st f = some z) : ∃ (x y : Int32) (r : List Value), st = .int y :: .int x :: r ∧ f x y r = some z := by
  unfold xI2 at h
  split at h
  · exact ⟨_, _, _, rfl, h⟩
  · cases h
theorem xL1_inv {α : Type} {st : List Value} {f : Int64 → List Value → Option α} {z : α} (h : xL1 st f = some z) : ∃ (x : Int64) (r : List Value), st = .long x :: r ∧ f x r = some z := by
  unfold xL1 at h
  split at h
  · exact ⟨_, _, rfl, h⟩
  · cases h
theorem xL2_inv {α : Type} {st : List Value} {f : Int64 → Int64 → List Value → Option α} {z : α} (h : xL2 st f = some z) : ∃ (x y : Int64) (r : List Value), st = .long y :: .long x :: r ∧ f x y r = some z := by
  unfold xL2 at h
  split at h
  · exact ⟨_, _, _, rfl, h⟩
  · cases h
theorem xLI_inv {α : Type} {st : List Value} {f : Int64 → Int32 → List Value → Option α} {z : α} (h : xLI st f = some z) : ∃ (x : Int64) (y : Int32) (r : List Value), st = .int y :: .long x :: r ∧ f x y r = some z := by
  unfold xLI at h
  split at h
  · exact ⟨_, _, _, rfl, h⟩
  · cases h
theorem xA1_inv {α : Type} {st : List Value} {f : Value → List Value → Option α} {z : α} (h : xA1 st f = some z) : ∃ (r : List Value), (∃ a : Nat, st = .ref a :: r ∧ f (.ref a) r = some z) ∨ (st = .null :: r ∧ f .null r = some z) := by
  unfold xA1 at h
  split at h
  · exact ⟨_, Or.inl ⟨_, rfl, h⟩⟩
  · exact ⟨_, Or.inr ⟨rfl, h⟩⟩
  · cases h
theorem xbif {α : Type} {b : Bool} {x : Option α} {z : α} (h : (bif b then x else none) = some z) : b = true ∧ x = some z := by
  cases b
  · cases h
  · exact ⟨rfl, h⟩
theorem xV1_inv {α : Type} {st : List Value} {f : Value → List Value → Option α} {z : α} (h : xV1 st f = some z) : ∃ (v : Value) (r : List Value), st = v :: r ∧ v.category = 1 ∧ f v r = some z := by
  unfold xV1 at h
  split at h
  · obtain ⟨h1, h2⟩ := xbif h
    exact ⟨_, _, rfl, Nat.eq_of_beq_eq_true h1, h2⟩
  · cases h
theorem xV2_inv {α : Type} {st : List Value} {f : Value → Value → List Value → Option α} {z : α} (h : xV2 st f = some z) : ∃ (v w : Value) (r : List Value), st = v :: w :: r ∧ v.category = 1 ∧ w.category = 1 ∧ f v w r = some z := by
  unfold xV2 at h
  split at h
  · obtain ⟨h1, h2⟩ := xbif h
    rw [Bool.and_eq_true] at h1
    exact ⟨_, _, _, rfl, Nat.eq_of_beq_eq_true h1.1, Nat.eq_of_beq_eq_true h1.2, h2⟩
  · cases h
theorem xV3_inv {α : Type} {st : List Value} {f : Value → Value → Value → List Value → Option α} {z : α} (h : xV3 st f = some z) : ∃ (v w u : Value) (r : List Value), st = v :: w :: u :: r ∧ v.category = 1 ∧ w.category = 1 ∧ u.category = 1 ∧ f v w u r = some z := by
  unfold xV3 at h
  split at h
  · obtain ⟨h1, h2⟩ := xbif h
    rw [Bool.and_eq_true, Bool.and_eq_true] at h1
    exact ⟨_, _, _, _, rfl, Nat.eq_of_beq_eq_true h1.1.1, Nat.eq_of_beq_eq_true h1.1.2, Nat.eq_of_beq_eq_true h1.2, h2⟩
  · cases h
theorem xLd_inv {α : Type} {o : Option Value} {f : Value → Option α} {z : α} (h : xLd o f = some z) : ∃ v : Value, o = some v ∧ f v = some z := by
  cases o with
  | none => cases h
  | some v => exact ⟨v, rfl, h⟩
/-- an instruction that touches variables and operands alone -/
def xstep (q : XI) (lv : XL) (st : List Value) : Option (Nat × XL × List Value) := match q with
  | (_, i, _, nx, tg, cv, _) => match i with
    | .iconst _ => some (nx, lv, cv :: st)
    | .bipush _ => some (nx, lv, cv :: st)
    | .sipush _ => some (nx, lv, cv :: st)
    | .lconst _ => some (nx, lv, cv :: st)
    | .aconst_null => some (nx, lv, cv :: st)
    | .ldc_w _ => match cv with
      | .int v => some (nx, lv, .int v :: st)
      | _ => none
    | .ldc _ => match cv with
      | .int v => some (nx, lv, .int v :: st)
      | _ => none
    | .ldc2_w _ => match cv with
      | .long v => some (nx, lv, .long v :: st)
      | _ => none
    | .iload k => xLd (xnth lv k) fun v => match v with
      | .int x => some (nx, lv, .int x :: st)
      | _ => none
    | .iload_n k => xLd (xnth lv k) fun v => match v with
      | .int x => some (nx, lv, .int x :: st)
      | _ => none
    | .lload k => xLd (xnth lv k) fun v => match v with
      | .long x => some (nx, lv, .long x :: st)
      | _ => none
    | .lload_n k => xLd (xnth lv k) fun v => match v with
      | .long x => some (nx, lv, .long x :: st)
      | _ => none
    | .aload k => xLd (xnth lv k) fun v => match v with
      | .ref x => some (nx, lv, .ref x :: st)
      | .null => some (nx, lv, .null :: st)
      | _ => none
    | .aload_n k => xLd (xnth lv k) fun v => match v with
      | .ref x => some (nx, lv, .ref x :: st)
      | .null => some (nx, lv, .null :: st)
      | _ => none
    | .istore k => xI1 st fun x r => bif Nat.blt k lv.length then some (nx, xsto1 lv k (.int x), r) else none
    | .istore_n k => xI1 st fun x r => bif Nat.blt k lv.length then some (nx, xsto1 lv k (.int x), r) else none
    | .lstore k => xL1 st fun x r => bif Nat.blt (k + 1) lv.length then some (nx, xsto2 lv k (.long x), r) else none
    | .lstore_n k => xL1 st fun x r => bif Nat.blt (k + 1) lv.length then some (nx, xsto2 lv k (.long x), r) else none
    | .astore k => xA1 st fun x r => bif Nat.blt k lv.length then some (nx, xsto1 lv k x, r) else none
    | .astore_n k => xA1 st fun x r => bif Nat.blt k lv.length then some (nx, xsto1 lv k x, r) else none
    | .iinc k _ => xLd (xnth lv k) fun v => match v, cv with
      | .int x, .int y => bif Nat.blt k lv.length then some (nx, xsto1 lv k (.int (x + y)), st) else none
      | _, _ => none
    | .iadd => xI2 st fun x y r => some (nx, lv, .int (x + y) :: r)
    | .isub => xI2 st fun x y r => some (nx, lv, .int (x - y) :: r)
    | .imul => xI2 st fun x y r => some (nx, lv, .int (x * y) :: r)
    | .iand => xI2 st fun x y r => some (nx, lv, .int (x &&& y) :: r)
    | .ior => xI2 st fun x y r => some (nx, lv, .int (x ||| y) :: r)
    | .ixor => xI2 st fun x y r => some (nx, lv, .int (x ^^^ y) :: r)
    | .ishl => xI2 st fun x y r => some (nx, lv, .int (x <<< (y &&& 31)) :: r)
    | .ishr => xI2 st fun x y r => some (nx, lv, .int (x >>> (y &&& 31)) :: r)
    | .iushr => xI2 st fun x y r => some (nx, lv, .int ((x.toUInt32 >>> (y.toUInt32 &&& Int32.toUInt32 31)).toInt32) :: r)
    | .ladd => xL2 st fun x y r => some (nx, lv, .long (x + y) :: r)
    | .lsub => xL2 st fun x y r => some (nx, lv, .long (x - y) :: r)
    | .lmul => xL2 st fun x y r => some (nx, lv, .long (x * y) :: r)
    | .land => xL2 st fun x y r => some (nx, lv, .long (x &&& y) :: r)
    | .lor => xL2 st fun x y r => some (nx, lv, .long (x ||| y) :: r)
    | .lxor => xL2 st fun x y r => some (nx, lv, .long (x ^^^ y) :: r)
    | .lshl => xLI st fun x y r => some (nx, lv, .long (x <<< (y.toInt64 &&& 63)) :: r)
    | .lshr => xLI st fun x y r => some (nx, lv, .long (x >>> (y.toInt64 &&& 63)) :: r)
    | .lushr => xLI st fun x y r => some (nx, lv, .long ((x.toUInt64 >>> (y.toInt64.toUInt64 &&& Int64.toUInt64 63)).toInt64) :: r)
    | .ineg => xI1 st fun x r => some (nx, lv, .int (-x) :: r)
    | .i2l => xI1 st fun x r => some (nx, lv, .long x.toInt64 :: r)
    | .l2i => xL1 st fun x r => some (nx, lv, .int x.toInt32 :: r)
    | .lcmp => xL2 st fun x y r => some (nx, lv, .int (lg_cmp x y) :: r)
    | .dup => xV1 st fun v r => some (nx, lv, v :: v :: r)
    | .pop => xV1 st fun _ r => some (nx, lv, r)
    | .dup_x1 => xV2 st fun v w r => some (nx, lv, v :: w :: v :: r)
    | .dup_x2 => xV3 st fun v w u r => some (nx, lv, v :: w :: u :: v :: r)
    | .dup2 => xV2 st fun v w r => some (nx, lv, v :: w :: v :: w :: r)
    | .goto _ => some (tg, lv, st)
    | _ => none
/-- what is true of an instruction's entry, by computing -/
def xwt (i : Nat) (w : Jvm.Cond) : Bool := decide (tables_1[i]? = some w) && goodWord w
def xfk (wi : Nat) (own : String) (idx ci kf : Nat) : Bool := match xcl[ci]? with
  | some q => Nat.blt kf q.2.2 && ((xwt wi (.fieldLink own idx q.1 (q.2.1 kf).2.1 (q.2.1 kf).2.2.1) && (decide ((q.2.1 kf).1 = q.1) || xwt xsf (.sameField q.1 (q.2.1 kf).1 (q.2.1 kf).2.1 (q.2.1 kf).2.2.1))) || xwt wi (.fieldLink own idx (q.2.1 kf).1 (q.2.1 kf).2.1 (q.2.1 kf).2.2.1))
  | none => false
def xpk (y : MethodName) (ci kf : Nat) : Bool := match xcl[ci]? with
  | some q => (q.2.1 kf).2.2.2 == false || (decide (y.name = "<init>") && decide ((q.2.1 kf).1 = y.cls))
  | none => false
def xchi (y : MethodName) (q : XI) : Bool := match q with
  | (pc, i, len, _, tg, cv, wi) => match i with
    | .iconst n => Nat.beq len 1 && decide (cv = .int (Int32.ofInt n))
    | .bipush n => Nat.beq len 2 && decide (cv = .int (Int8.ofInt n).toInt32)
    | .sipush n => Nat.beq len 3 && decide (cv = .int (Int16.ofInt n).toInt32)
    | .lconst n => Nat.beq len 1 && decide (cv = .long (Int64.ofNat n))
    | .aconst_null => Nat.beq len 1 && decide (cv = .null)
    | .ldc k => Nat.beq len 2 && (match cv with | .int v => xwt wi (.constant y.cls k v) | _ => true)
    | .ldc_w k => Nat.beq len 3 && (match cv with | .int v => xwt wi (.constant y.cls k v) | _ => true)
    | .ldc2_w k => Nat.beq len 3 && (match cv with | .long v => xwt wi (.constantLong y.cls k v) | _ => true)
    | .iload _ => Nat.beq len 2
    | .lload _ => Nat.beq len 2
    | .aload _ => Nat.beq len 2
    | .istore _ => Nat.beq len 2
    | .lstore _ => Nat.beq len 2
    | .astore _ => Nat.beq len 2
    | .iinc _ n => Nat.beq len 3 && decide (cv = .int (Int32.ofInt n))
    | .goto off => Nat.beq len 3 && decide ((pc : Int) + off = (tg : Int))
    | .ifCond _ off => Nat.beq len 3 && decide ((pc : Int) + off = (tg : Int))
    | .if_icmp _ off => Nat.beq len 3 && decide ((pc : Int) + off = (tg : Int))
    | .if_acmp _ off => Nat.beq len 3 && decide ((pc : Int) + off = (tg : Int))
    | .ifnull off => Nat.beq len 3 && decide ((pc : Int) + off = (tg : Int))
    | .ifnonnull off => Nat.beq len 3 && decide ((pc : Int) + off = (tg : Int))
    | .getfield k => Nat.beq len 3 && (match cv with | .ref ci => xfk wi y.cls k ci tg | _ => false)
    | .putfield k => Nat.beq len 3 && (match cv with | .ref ci => xfk wi y.cls k ci tg && xpk y ci tg | _ => false)
    | .getstatic _ => Nat.beq len 3
    | .invokevirtual _ => Nat.beq len 3
    | .invokespecial _ => Nat.beq len 3
    | .invokestatic _ => Nat.beq len 3
    | .new _ => Nat.beq len 3
    | .checkcast _ => Nat.beq len 3
    | .anewarray _ => Nat.beq len 3
    | .newarray _ => Nat.beq len 2
    | .lookupswitch _ _ => true
    | .tableswitch _ _ _ _ => true
    | _ => Nat.beq len 1
def xchk (y : MethodName) (bytes : ByteArray) (q : XI) : Bool := decide (decode bytes q.1 = .ok (q.2.1, q.2.2.1)) && (Nat.beq q.2.2.2.1 (q.1 + q.2.2.1) && xchi y q)
section XS
variable {p : Program} {l : Launch} {e : Env} {R : Room} {s : State} {m : MethodId} {args : Array Value} {below : List Frame} {meth : Method} {c : Code} {H : Heap} {locs : List Loc} {cells slots : Nat} {Q : State → Prop}
set_option maxRecDepth 100000 in
set_option maxHeartbeats 4000000 in
theorem xstep_W (hexec : p.tables.exec = Jvm.exec) {cc : ByteArray} (hb : c.code = cc) {y : MethodName} (hown : s.vm.findClass y.cls = some m.cls) (hw : ∀ (i : Nat) (w : Jvm.Cond), xwt i w = true → w.before args s = true)
    {q : XI} (hq : xchk y cc q = true) {nL : Nat} {lv lv' : XL} {st st' : List Value} {pc' : Nat} {ls : Array Slot} (hl : xLs nL lv ls) (hs : xstep q lv st = some (pc', lv', st'))
    (k : ∀ ls', xLs nL lv' ls' → W p l e R s m args below meth c H locs cells slots Q (F0 m pc' ls' st')) : W p l e R s m args below meth c H locs cells slots Q (F0 m q.1 ls st) := by
  obtain ⟨pc, i, len, nx, tg, cv, wi⟩ := q
  unfold xchk at hq
  rw [Bool.and_eq_true, Bool.and_eq_true] at hq
  obtain ⟨hd0, hn0, hi⟩ := hq
  have hd : decode cc pc = .ok (i, len) := of_decide_eq_true hd0
  have hn : nx = pc + len := Nat.eq_of_beq_eq_true hn0
  clear hd0 hn0
  subst hn
  show W p l e R s m args below meth c H locs cells slots Q (F0 m pc ls st)
  cases i
  case iconst n =>
    simp only [xchi, Bool.and_eq_true] at hi
    obtain ⟨hi, hc⟩ := hi
    obtain rfl := Nat.eq_of_beq_eq_true hi
    have hc := of_decide_eq_true hc
    subst hc
    simp only [xstep, Option.some.injEq, Prod.mk.injEq] at hs
    obtain ⟨rfl, rfl, rfl⟩ := hs
    exact lv_iconst hexec hb hd rfl (k ls hl)
  case bipush n =>
    simp only [xchi, Bool.and_eq_true] at hi
    obtain ⟨hi, hc⟩ := hi
    obtain rfl := Nat.eq_of_beq_eq_true hi
    have hc := of_decide_eq_true hc
    subst hc
    simp only [xstep, Option.some.injEq, Prod.mk.injEq] at hs
    obtain ⟨rfl, rfl, rfl⟩ := hs
    exact lv_bipush hexec hb hd rfl (k ls hl)
  case sipush n =>
    simp only [xchi, Bool.and_eq_true] at hi
    obtain ⟨hi, hc⟩ := hi
    obtain rfl := Nat.eq_of_beq_eq_true hi
    have hc := of_decide_eq_true hc
    subst hc
    simp only [xstep, Option.some.injEq, Prod.mk.injEq] at hs
    obtain ⟨rfl, rfl, rfl⟩ := hs
    exact lv_sipush hexec hb hd rfl (k ls hl)
  case lconst n =>
    simp only [xchi, Bool.and_eq_true] at hi
    obtain ⟨hi, hc⟩ := hi
    obtain rfl := Nat.eq_of_beq_eq_true hi
    have hc := of_decide_eq_true hc
    subst hc
    simp only [xstep, Option.some.injEq, Prod.mk.injEq] at hs
    obtain ⟨rfl, rfl, rfl⟩ := hs
    exact lv_lconst hexec hb hd rfl (k ls hl)
  case aconst_null =>
    simp only [xchi, Bool.and_eq_true] at hi
    obtain ⟨hi, hc⟩ := hi
    obtain rfl := Nat.eq_of_beq_eq_true hi
    have hc := of_decide_eq_true hc
    subst hc
    simp only [xstep, Option.some.injEq, Prod.mk.injEq] at hs
    obtain ⟨rfl, rfl, rfl⟩ := hs
    exact lv_null hexec hb hd (k ls hl)
  case ldc n =>
    simp only [xchi, Bool.and_eq_true] at hi
    obtain ⟨hi, hc⟩ := hi
    obtain rfl := Nat.eq_of_beq_eq_true hi
    cases cv
    case int v =>
      simp only [xstep, Option.some.injEq, Prod.mk.injEq] at hs
      obtain ⟨rfl, rfl, rfl⟩ := hs
      exact lv_ldc hexec hb hown (hw _ _ hc) hd (k ls hl)
    all_goals cases hs
  case ldc_w n =>
    simp only [xchi, Bool.and_eq_true] at hi
    obtain ⟨hi, hc⟩ := hi
    obtain rfl := Nat.eq_of_beq_eq_true hi
    cases cv
    case int v =>
      simp only [xstep, Option.some.injEq, Prod.mk.injEq] at hs
      obtain ⟨rfl, rfl, rfl⟩ := hs
      exact lv_ldcw hexec hb hown (hw _ _ hc) hd (k ls hl)
    all_goals cases hs
  case ldc2_w n =>
    simp only [xchi, Bool.and_eq_true] at hi
    obtain ⟨hi, hc⟩ := hi
    obtain rfl := Nat.eq_of_beq_eq_true hi
    cases cv
    case long v =>
      simp only [xstep, Option.some.injEq, Prod.mk.injEq] at hs
      obtain ⟨rfl, rfl, rfl⟩ := hs
      exact lv_ldc2 hexec hb hown (hw _ _ hc) hd (k ls hl)
    all_goals cases hs
  case iload j =>
    obtain rfl := Nat.eq_of_beq_eq_true hi
    simp only [xstep] at hs
    obtain ⟨v, hv, hs⟩ := xLd_inv hs
    cases v
    case int x =>
      simp only [Option.some.injEq, Prod.mk.injEq] at hs
      obtain ⟨rfl, rfl, rfl⟩ := hs
      exact lv_iload hexec hb hd (hl.2.2.2 _ _ hv) (k ls hl)
    all_goals cases hs
  case iload_n j =>
    obtain rfl := Nat.eq_of_beq_eq_true hi
    simp only [xstep] at hs
    obtain ⟨v, hv, hs⟩ := xLd_inv hs
    cases v
    case int x =>
      simp only [Option.some.injEq, Prod.mk.injEq] at hs
      obtain ⟨rfl, rfl, rfl⟩ := hs
      exact lv_iload_n hexec hb hd rfl (hl.2.2.2 _ _ hv) (k ls hl)
    all_goals cases hs
  case lload j =>
    obtain rfl := Nat.eq_of_beq_eq_true hi
    simp only [xstep] at hs
    obtain ⟨v, hv, hs⟩ := xLd_inv hs
    cases v
    case long x =>
      simp only [Option.some.injEq, Prod.mk.injEq] at hs
      obtain ⟨rfl, rfl, rfl⟩ := hs
      exact lv_lload hexec hb hd (hl.2.2.2 _ _ hv) (k ls hl)
    all_goals cases hs
  case lload_n j =>
    obtain rfl := Nat.eq_of_beq_eq_true hi
    simp only [xstep] at hs
    obtain ⟨v, hv, hs⟩ := xLd_inv hs
    cases v
    case long x =>
      simp only [Option.some.injEq, Prod.mk.injEq] at hs
      obtain ⟨rfl, rfl, rfl⟩ := hs
      exact lv_lload_n hexec hb hd rfl (hl.2.2.2 _ _ hv) (k ls hl)
    all_goals cases hs
  case aload j =>
    obtain rfl := Nat.eq_of_beq_eq_true hi
    simp only [xstep] at hs
    obtain ⟨v, hv, hs⟩ := xLd_inv hs
    cases v
    case ref x =>
      simp only [Option.some.injEq, Prod.mk.injEq] at hs
      obtain ⟨rfl, rfl, rfl⟩ := hs
      exact lv_aload hexec hb hd (hl.2.2.2 _ _ hv) (k ls hl)
    case null =>
      simp only [Option.some.injEq, Prod.mk.injEq] at hs
      obtain ⟨rfl, rfl, rfl⟩ := hs
      exact lv_aloadN hexec hb hd (hl.2.2.2 _ _ hv) (k ls hl)
    all_goals cases hs
  case aload_n j =>
    obtain rfl := Nat.eq_of_beq_eq_true hi
    simp only [xstep] at hs
    obtain ⟨v, hv, hs⟩ := xLd_inv hs
    cases v
    case ref x =>
      simp only [Option.some.injEq, Prod.mk.injEq] at hs
      obtain ⟨rfl, rfl, rfl⟩ := hs
      exact lv_aload_n hexec hb hd rfl (hl.2.2.2 _ _ hv) (k ls hl)
    case null =>
      simp only [Option.some.injEq, Prod.mk.injEq] at hs
      obtain ⟨rfl, rfl, rfl⟩ := hs
      exact lv_aload_nN hexec hb hd rfl (hl.2.2.2 _ _ hv) (k ls hl)
    all_goals cases hs
  case istore j =>
    obtain rfl := Nat.eq_of_beq_eq_true hi
    simp only [xstep] at hs
    obtain ⟨x, r, rfl, hs⟩ := xI1_inv hs
    obtain ⟨hlt, hs⟩ := xbif hs
    simp only [Option.some.injEq, Prod.mk.injEq] at hs
    obtain ⟨rfl, rfl, rfl⟩ := hs
    exact lv_istore hexec hb hd hl.has (by rw [← hl.1]; exact Nat.le_of_ble_eq_true hlt) rfl (fun ls' h' => k ls' (xLs.sto1 hl.1 h'))
  case istore_n j =>
    obtain rfl := Nat.eq_of_beq_eq_true hi
    simp only [xstep] at hs
    obtain ⟨x, r, rfl, hs⟩ := xI1_inv hs
    obtain ⟨hlt, hs⟩ := xbif hs
    simp only [Option.some.injEq, Prod.mk.injEq] at hs
    obtain ⟨rfl, rfl, rfl⟩ := hs
    exact lv_istore_n hexec hb hd rfl hl.has (by rw [← hl.1]; exact Nat.le_of_ble_eq_true hlt) rfl (fun ls' h' => k ls' (xLs.sto1 hl.1 h'))
  case lstore j =>
    obtain rfl := Nat.eq_of_beq_eq_true hi
    simp only [xstep] at hs
    obtain ⟨x, r, rfl, hs⟩ := xL1_inv hs
    obtain ⟨hlt, hs⟩ := xbif hs
    simp only [Option.some.injEq, Prod.mk.injEq] at hs
    obtain ⟨rfl, rfl, rfl⟩ := hs
    exact lv_lstore hexec hb hd hl.has (by rw [← hl.1]; exact Nat.le_of_ble_eq_true hlt) rfl (fun ls' h' => k ls' (xLs.sto2 hl.1 h'))
  case lstore_n j =>
    obtain rfl := Nat.eq_of_beq_eq_true hi
    simp only [xstep] at hs
    obtain ⟨x, r, rfl, hs⟩ := xL1_inv hs
    obtain ⟨hlt, hs⟩ := xbif hs
    simp only [Option.some.injEq, Prod.mk.injEq] at hs
    obtain ⟨rfl, rfl, rfl⟩ := hs
    exact lv_lstore_n hexec hb hd rfl hl.has (by rw [← hl.1]; exact Nat.le_of_ble_eq_true hlt) rfl (fun ls' h' => k ls' (xLs.sto2 hl.1 h'))
  case astore j =>
    obtain rfl := Nat.eq_of_beq_eq_true hi
    simp only [xstep] at hs
    obtain ⟨r, ⟨a, rfl, hs⟩ | ⟨rfl, hs⟩⟩ := xA1_inv hs
    · obtain ⟨hlt, hs⟩ := xbif hs
      simp only [Option.some.injEq, Prod.mk.injEq] at hs
      obtain ⟨rfl, rfl, rfl⟩ := hs
      exact lv_astore hexec hb hd hl.has (by rw [← hl.1]; exact Nat.le_of_ble_eq_true hlt) rfl (fun ls' h' => k ls' (xLs.sto1 hl.1 h'))
    · obtain ⟨hlt, hs⟩ := xbif hs
      simp only [Option.some.injEq, Prod.mk.injEq] at hs
      obtain ⟨rfl, rfl, rfl⟩ := hs
      exact lv_astoreN hexec hb hd hl.has (by rw [← hl.1]; exact Nat.le_of_ble_eq_true hlt) rfl (fun ls' h' => k ls' (xLs.sto1 hl.1 h'))
  case astore_n j =>
    obtain rfl := Nat.eq_of_beq_eq_true hi
    simp only [xstep] at hs
    obtain ⟨r, ⟨a, rfl, hs⟩ | ⟨rfl, hs⟩⟩ := xA1_inv hs
    · obtain ⟨hlt, hs⟩ := xbif hs
      simp only [Option.some.injEq, Prod.mk.injEq] at hs
      obtain ⟨rfl, rfl, rfl⟩ := hs
      exact lv_astore_n hexec hb hd rfl hl.has (by rw [← hl.1]; exact Nat.le_of_ble_eq_true hlt) rfl (fun ls' h' => k ls' (xLs.sto1 hl.1 h'))
    · obtain ⟨hlt, hs⟩ := xbif hs
      simp only [Option.some.injEq, Prod.mk.injEq] at hs
      obtain ⟨rfl, rfl, rfl⟩ := hs
      exact lv_astore_nN hexec hb hd rfl hl.has (by rw [← hl.1]; exact Nat.le_of_ble_eq_true hlt) rfl (fun ls' h' => k ls' (xLs.sto1 hl.1 h'))
  case iinc j n =>
    simp only [xchi, Bool.and_eq_true] at hi
    obtain ⟨hi, hc⟩ := hi
    obtain rfl := Nat.eq_of_beq_eq_true hi
    have hc := of_decide_eq_true hc
    subst hc
    simp only [xstep] at hs
    obtain ⟨v, hv, hs⟩ := xLd_inv hs
    cases v
    case int x =>
      obtain ⟨hlt, hs⟩ := xbif hs
      simp only [Option.some.injEq, Prod.mk.injEq] at hs
      obtain ⟨rfl, rfl, rfl⟩ := hs
      obtain ⟨z, hz⟩ := List.getElem?_of_mem (xasc_mem.mpr hv)
      exact lv_iinc hexec hb hd hl.has hz rfl (by rw [← hl.1]; exact Nat.le_of_ble_eq_true hlt) rfl (fun ls' h' => k ls' (xLs.sto1 hl.1 h'))
    all_goals cases hs
  case iadd =>
    obtain rfl := Nat.eq_of_beq_eq_true hi
    simp only [xstep] at hs
    obtain ⟨x, y, r, rfl, hz⟩ := xI2_inv hs
    simp only [Option.some.injEq, Prod.mk.injEq] at hz
    obtain ⟨rfl, rfl, rfl⟩ := hz
    exact lv_iadd hexec hb hd (k ls hl)
  case isub =>
    obtain rfl := Nat.eq_of_beq_eq_true hi
    simp only [xstep] at hs
    obtain ⟨x, y, r, rfl, hz⟩ := xI2_inv hs
    simp only [Option.some.injEq, Prod.mk.injEq] at hz
    obtain ⟨rfl, rfl, rfl⟩ := hz
    exact lv_isub hexec hb hd (k ls hl)
  case imul =>
    obtain rfl := Nat.eq_of_beq_eq_true hi
    simp only [xstep] at hs
    obtain ⟨x, y, r, rfl, hz⟩ := xI2_inv hs
    simp only [Option.some.injEq, Prod.mk.injEq] at hz
    obtain ⟨rfl, rfl, rfl⟩ := hz
    exact lv_imul hexec hb hd (k ls hl)
  case iand =>
    obtain rfl := Nat.eq_of_beq_eq_true hi
    simp only [xstep] at hs
    obtain ⟨x, y, r, rfl, hz⟩ := xI2_inv hs
    simp only [Option.some.injEq, Prod.mk.injEq] at hz
    obtain ⟨rfl, rfl, rfl⟩ := hz
    exact lv_iand hexec hb hd (k ls hl)
  case ior =>
    obtain rfl := Nat.eq_of_beq_eq_true hi
    simp only [xstep] at hs
    obtain ⟨x, y, r, rfl, hz⟩ := xI2_inv hs
    simp only [Option.some.injEq, Prod.mk.injEq] at hz
    obtain ⟨rfl, rfl, rfl⟩ := hz
    exact lv_ior hexec hb hd (k ls hl)
  case ixor =>
    obtain rfl := Nat.eq_of_beq_eq_true hi
    simp only [xstep] at hs
    obtain ⟨x, y, r, rfl, hz⟩ := xI2_inv hs
    simp only [Option.some.injEq, Prod.mk.injEq] at hz
    obtain ⟨rfl, rfl, rfl⟩ := hz
    exact lv_ixor hexec hb hd (k ls hl)
  case ishl =>
    obtain rfl := Nat.eq_of_beq_eq_true hi
    simp only [xstep] at hs
    obtain ⟨x, y, r, rfl, hz⟩ := xI2_inv hs
    simp only [Option.some.injEq, Prod.mk.injEq] at hz
    obtain ⟨rfl, rfl, rfl⟩ := hz
    exact lv_ishl hexec hb hd (k ls hl)
  case ishr =>
    obtain rfl := Nat.eq_of_beq_eq_true hi
    simp only [xstep] at hs
    obtain ⟨x, y, r, rfl, hz⟩ := xI2_inv hs
    simp only [Option.some.injEq, Prod.mk.injEq] at hz
    obtain ⟨rfl, rfl, rfl⟩ := hz
    exact lv_ishr hexec hb hd (k ls hl)
  case iushr =>
    obtain rfl := Nat.eq_of_beq_eq_true hi
    simp only [xstep] at hs
    obtain ⟨x, y, r, rfl, hz⟩ := xI2_inv hs
    simp only [Option.some.injEq, Prod.mk.injEq] at hz
    obtain ⟨rfl, rfl, rfl⟩ := hz
    exact lv_iushr hexec hb hd rfl (k ls hl)
  case ladd =>
    obtain rfl := Nat.eq_of_beq_eq_true hi
    simp only [xstep] at hs
    obtain ⟨x, y, r, rfl, hz⟩ := xL2_inv hs
    simp only [Option.some.injEq, Prod.mk.injEq] at hz
    obtain ⟨rfl, rfl, rfl⟩ := hz
    exact lv_ladd hexec hb hd (k ls hl)
  case lsub =>
    obtain rfl := Nat.eq_of_beq_eq_true hi
    simp only [xstep] at hs
    obtain ⟨x, y, r, rfl, hz⟩ := xL2_inv hs
    simp only [Option.some.injEq, Prod.mk.injEq] at hz
    obtain ⟨rfl, rfl, rfl⟩ := hz
    exact lv_lsub hexec hb hd (k ls hl)
  case lmul =>
    obtain rfl := Nat.eq_of_beq_eq_true hi
    simp only [xstep] at hs
    obtain ⟨x, y, r, rfl, hz⟩ := xL2_inv hs
    simp only [Option.some.injEq, Prod.mk.injEq] at hz
    obtain ⟨rfl, rfl, rfl⟩ := hz
    exact lv_lmul hexec hb hd (k ls hl)
  case land =>
    obtain rfl := Nat.eq_of_beq_eq_true hi
    simp only [xstep] at hs
    obtain ⟨x, y, r, rfl, hz⟩ := xL2_inv hs
    simp only [Option.some.injEq, Prod.mk.injEq] at hz
    obtain ⟨rfl, rfl, rfl⟩ := hz
    exact lv_land hexec hb hd (k ls hl)
  case lor =>
    obtain rfl := Nat.eq_of_beq_eq_true hi
    simp only [xstep] at hs
    obtain ⟨x, y, r, rfl, hz⟩ := xL2_inv hs
    simp only [Option.some.injEq, Prod.mk.injEq] at hz
    obtain ⟨rfl, rfl, rfl⟩ := hz
    exact lv_lor hexec hb hd (k ls hl)
  case lxor =>
    obtain rfl := Nat.eq_of_beq_eq_true hi
    simp only [xstep] at hs
    obtain ⟨x, y, r, rfl, hz⟩ := xL2_inv hs
    simp only [Option.some.injEq, Prod.mk.injEq] at hz
    obtain ⟨rfl, rfl, rfl⟩ := hz
    exact lv_lxor hexec hb hd (k ls hl)
  case lshl =>
    obtain rfl := Nat.eq_of_beq_eq_true hi
    simp only [xstep] at hs
    obtain ⟨x, y, r, rfl, hz⟩ := xLI_inv hs
    simp only [Option.some.injEq, Prod.mk.injEq] at hz
    obtain ⟨rfl, rfl, rfl⟩ := hz
    exact lv_lshl hexec hb hd rfl (k ls hl)
  case lshr =>
    obtain rfl := Nat.eq_of_beq_eq_true hi
    simp only [xstep] at hs
    obtain ⟨x, y, r, rfl, hz⟩ := xLI_inv hs
    simp only [Option.some.injEq, Prod.mk.injEq] at hz
    obtain ⟨rfl, rfl, rfl⟩ := hz
    exact lv_lshr hexec hb hd rfl (k ls hl)
  case lushr =>
    obtain rfl := Nat.eq_of_beq_eq_true hi
    simp only [xstep] at hs
    obtain ⟨x, y, r, rfl, hz⟩ := xLI_inv hs
    simp only [Option.some.injEq, Prod.mk.injEq] at hz
    obtain ⟨rfl, rfl, rfl⟩ := hz
    exact lv_lushr hexec hb hd rfl (k ls hl)
  case ineg =>
    obtain rfl := Nat.eq_of_beq_eq_true hi
    simp only [xstep] at hs
    obtain ⟨x, r, rfl, hz⟩ := xI1_inv hs
    simp only [Option.some.injEq, Prod.mk.injEq] at hz
    obtain ⟨rfl, rfl, rfl⟩ := hz
    exact lv_ineg hexec hb hd (k ls hl)
  case i2l =>
    obtain rfl := Nat.eq_of_beq_eq_true hi
    simp only [xstep] at hs
    obtain ⟨x, r, rfl, hz⟩ := xI1_inv hs
    simp only [Option.some.injEq, Prod.mk.injEq] at hz
    obtain ⟨rfl, rfl, rfl⟩ := hz
    exact lv_i2l hexec hb hd rfl (k ls hl)
  case l2i =>
    obtain rfl := Nat.eq_of_beq_eq_true hi
    simp only [xstep] at hs
    obtain ⟨x, r, rfl, hz⟩ := xL1_inv hs
    simp only [Option.some.injEq, Prod.mk.injEq] at hz
    obtain ⟨rfl, rfl, rfl⟩ := hz
    exact lv_l2i hexec hb hd rfl (k ls hl)
  case lcmp =>
    obtain rfl := Nat.eq_of_beq_eq_true hi
    simp only [xstep] at hs
    obtain ⟨x, y, r, rfl, hz⟩ := xL2_inv hs
    simp only [Option.some.injEq, Prod.mk.injEq] at hz
    obtain ⟨rfl, rfl, rfl⟩ := hz
    exact W.lcmp hexec hb hd (k ls hl)
  case dup =>
    obtain rfl := Nat.eq_of_beq_eq_true hi
    simp only [xstep] at hs
    obtain ⟨v, r, rfl, hv, hz⟩ := xV1_inv hs
    simp only [Option.some.injEq, Prod.mk.injEq] at hz
    obtain ⟨rfl, rfl, rfl⟩ := hz
    exact lv_dup hexec hb hd hv (k ls hl)
  case pop =>
    obtain rfl := Nat.eq_of_beq_eq_true hi
    simp only [xstep] at hs
    obtain ⟨v, r, rfl, hv, hz⟩ := xV1_inv hs
    simp only [Option.some.injEq, Prod.mk.injEq] at hz
    obtain ⟨rfl, rfl, rfl⟩ := hz
    exact lv_pop hexec hb hd hv (k ls hl)
  case dup_x1 =>
    obtain rfl := Nat.eq_of_beq_eq_true hi
    simp only [xstep] at hs
    obtain ⟨v, w, r, rfl, hv, hw2, hz⟩ := xV2_inv hs
    simp only [Option.some.injEq, Prod.mk.injEq] at hz
    obtain ⟨rfl, rfl, rfl⟩ := hz
    exact lv_dup_x1 hexec hb hd hv hw2 (k ls hl)
  case dup2 =>
    obtain rfl := Nat.eq_of_beq_eq_true hi
    simp only [xstep] at hs
    obtain ⟨v, w, r, rfl, hv, hw2, hz⟩ := xV2_inv hs
    simp only [Option.some.injEq, Prod.mk.injEq] at hz
    obtain ⟨rfl, rfl, rfl⟩ := hz
    exact lv_dup2_11 hexec hb hd hv hw2 (k ls hl)
  case dup_x2 =>
    obtain rfl := Nat.eq_of_beq_eq_true hi
    simp only [xstep] at hs
    obtain ⟨v, w, u, r, rfl, hv, hw2, hu, hz⟩ := xV3_inv hs
    simp only [Option.some.injEq, Prod.mk.injEq] at hz
    obtain ⟨rfl, rfl, rfl⟩ := hz
    exact lv_dup_x2 hexec hb hd hv hw2 hu (k ls hl)
  case goto off =>
    simp only [xchi, Bool.and_eq_true] at hi
    obtain ⟨hi, hc⟩ := hi
    obtain rfl := Nat.eq_of_beq_eq_true hi
    have hc := of_decide_eq_true hc
    simp only [xstep, Option.some.injEq, Prod.mk.injEq] at hs
    obtain ⟨rfl, rfl, rfl⟩ := hs
    exact lv_goto hexec hb hd hc (k ls hl)
  all_goals exact absurd hs (by simp [xstep])
end XS
end
section
/- Part 04: the judgement. -/
def xCmax : Nat := 601024
def xSmax : Nat := 7293034
def xOK (M : XM) : Bool := plainName M.1.cls && (decide (M.1.cls ≠ "java/lang/invoke/MethodHandle" ∧ M.1.cls ≠ "java/lang/invoke/VarHandle") && M.2.2.2.2.2.all (xchk M.1 M.2.1))
/-- a word that stays true as the tables warm, by the library's own word or by one of its own -/
def xgw (w : Jvm.Cond) : Bool := goodWord w || (match w with
  | .castable _ _ => true
  | .declares _ => true
  | .methodLinkNest _ _ _ _ => true
  | .arrayOver (.object _) => true
  | _ => false)
def xW (w : Jvm.Cond) : Prop := w ∈ lw_tbl ∧ xgw w = true
def xWS (s : State) : Prop := ∀ w : Jvm.Cond, xW w → ∀ args : Array Value, w.before args s = true
theorem xgw_move {s U : State} {w : Jvm.Cond} (hg : xgw w = true) (hW : s.WarmedH U.vm) (h : w.before #[] s = true) (a : Array Value) : w.before a U = true := by
  unfold xgw at hg
  rw [Bool.or_eq_true] at hg
  rcases hg with hg | hg
  · exact word_at hW (good_of_word hg) h
  · split at hg
    · exact va_Nw.use rfl (va_Nw.warmC hW h)
    · exact va_Nw.use rfl (va_Nw.warmD hW h)
    · exact va_Nw.use rfl (va_Nw.warmM hW h)
    · exact va_AO.use (va_AO.moved hW.alike (va_AO.of h))
    · cases hg
theorem xWS.moved {s U : State} (h : xWS s) (hW : s.WarmedH U.vm) : xWS U := fun w h1 a => xgw_move h1.2 hW (h w h1 #[]) a
theorem xW_tab {i : Nat} {w : Jvm.Cond} (h : tables_1[i]? = some w) (hg : xgw w = true) : xW w := ⟨List.mem_append_right _ (List.mem_of_getElem? h), hg⟩
theorem xW_sel {i : Nat} {w : Jvm.Cond} (h : (k2_sels lw_privs)[i]? = some w) (hg : xgw w = true) : xW w := ⟨List.mem_append_left _ (List.mem_of_getElem? h), hg⟩
theorem xwt_W {i : Nat} {w : Jvm.Cond} (h : xwt i w = true) : xW w := by
  unfold xwt at h
  rw [Bool.and_eq_true] at h
  exact xW_tab (of_decide_eq_true h.1) (by unfold xgw; rw [h.2]; rfl)
def xstrs : List (Nat × String) := [(287, "there is no such thing"), (290, "a number is not as said"), (294, "it can't be done as things are"), (172, "no such what")]
def xncs : List (String × String) := [("java/lang/IllegalArgumentException", "java/lang/IndexOutOfBoundsException"), ("java/lang/IllegalStateException", "java/lang/IndexOutOfBoundsException"), ("java/lang/IllegalStateException", "java/lang/IllegalArgumentException"), ("java/lang/IllegalArgumentException", "java/lang/IllegalStateException"), ("java/lang/IndexOutOfBoundsException", "java/lang/IllegalArgumentException"), ("java/lang/IndexOutOfBoundsException", "java/lang/IllegalStateException")]
/-- the class's texts are resolved; which exceptions are not which -/
def xWd (s : State) : Prop := (∀ q ∈ xstrs, ∃ sa : Nat, vk_R "ChannelNet" q.1 q.2 sa s) ∧ ∀ q ∈ xncs, va_Nc q.1 q.2 s
theorem xWd.moved {s U : State} (h : xWd s) (hW : s.WarmedH U.vm) : xWd U := ⟨fun q hq => (h.1 q hq).imp fun _ z => vk_R.warm hW z, fun q hq => (h.2 q hq).moved hW.alike⟩
def xCtx (D : va_G) (M : XM) (d : Nat) (p : Program) (l : Launch) (R : Room) (s : State) (m : MethodId) (meth : Method) (c : Code) : Prop :=
  p.tables.exec = Jvm.exec ∧ c.code = M.2.1 ∧ c.maxLocals = M.2.2.1 ∧ c.exceptionTable.toList = tableOf M.2.2.2.2.1 ∧ meth.locks = false ∧ meth.sig.returnType = M.2.2.2.1 ∧ meth.name = M.1.name ∧
  s.vm.findClass M.1.cls = some m.cls ∧ xWS s ∧ va_K D xcl [] s ∧ d ≤ R.frames ∧ d * 64 ≤ R.locals ∧ xOK M = true ∧ l.flags = pinnedFlags ++ [noTraceFlag] ∧ xWd s
def xro (c : XC) : Bool := match c with
  | .inl q => q.1
  | .inr _ => false
def xAt (D : va_G) (s : State) (a : Nat) (c : XC) (H : Heap) : Prop := match c with
  | .inl q => ∃ cA : ClassId, H[a]? = some (vp_cell cA q.2.2) ∧ ArrOfT s cA q.2.1 ∧ va_RA s cA q.2.1
  | .inr q => va_at D xcl (a, .inr q) H
/-- what the start's heap holds of the JDK's statics: cells older than N0, so unchanged -/
def xZs (N0 : Nat) (s : State) (H : Heap) : Prop := vx_Zq Bundle.tN "UNASSIGNED_STACK" Bundle.steD (fun q => N0 ≤ q) s H ∧ vx_Zq Bundle.tN "SUPPRESSED_SENTINEL" Bundle.listD (fun q => N0 ≤ q) s H
theorem xZs.moved {N0 : Nat} {u U : State} {H : Heap} (hal : u.vm.Alike U.vm) (h : xZs N0 u H) : xZs N0 U H := ⟨h.1.moved hal, h.2.moved hal⟩
theorem xZs.kept {N0 : Nat} {s : State} {H H1 : Heap} (h : xZs N0 s H) (ho : ∀ q : Nat, q < H.size → q < N0 → H1[q]? = H[q]?) : xZs N0 s H1 := ⟨h.1.kept (fun a h1 h2 => ho a h1 (Nat.not_le.mp h2)), h.2.kept (fun a h1 h2 => ho a h1 (Nat.not_le.mp h2))⟩
/-- and the empty array that new lists share: its address is at the free place 1000 of D -/
def xZt (D : va_G) (N0 : Nat) (s : State) (H : Heap) : Prop := xZs N0 s H ∧ va_Z "java/util/ArrayList" "DEFAULTCAPACITY_EMPTY_ELEMENTDATA" "[Ljava/lang/Object;" (.ref (D.1 1000)) (fun q => N0 ≤ q) s H
theorem xZt.moved {D : va_G} {N0 : Nat} {u U : State} {H : Heap} (hal : u.vm.Alike U.vm) (h : xZt D N0 u H) : xZt D N0 U H := ⟨h.1.moved hal, h.2.moved hal⟩
theorem xZt.kept {D : va_G} {N0 : Nat} {s : State} {H H1 : Heap} (h : xZt D N0 s H) (ho : ∀ q : Nat, q < H.size → q < N0 → H1[q]? = H[q]?) : xZt D N0 s H1 := ⟨h.1.kept ho, h.2.kept (fun a h1 h2 => ho a h1 (Nat.not_le.mp h2))⟩
def xHp (D : va_G) (s : State) (N0 : Nat) (h : XH) (H : Heap) : Prop := H.size = h.1 ∧ (∀ (a : Nat) (c : XC), xget h a = some c → xAt D s a c H ∧ (xro c = false → N0 ≤ a)) ∧ N0 ≤ h.1 ∧ xZt D N0 s H
def xRm (N0 : Nat) (R : Room) (h : XH) (locs : List Loc) (cells slots : Nat) : Prop :=
  (∀ q ∈ locs, N0 ≤ q.base) ∧ cells ≤ R.cells ∧ slots ≤ R.slots ∧ xCmax + cells ≤ R.cells + h.2.1 ∧ xSmax + slots ≤ R.slots + h.2.2.1
def xEnd (D : va_G) (N0 : Nat) (R : Room) (s : State) (below : List Frame) (Q : Outcome → XH → Prop) : State → Prop := fun t =>
  ∃ (o : Outcome) (h : XH) (L : List Loc) (k n : Nat), t.status = .running ∧ Ended t below o ∧ s.WarmedH t.vm ∧ s.sameButNew ({ t with vm := s.vm } : State) L k n ∧ xHp D s N0 h t.heap ∧ xRm N0 R h L k n ∧ Q o h
def xV (D : va_G) (N0 : Nat) (M : XM) (d pc : Nat) (lv : XL) (st : List Value) (h : XH) (Q : Outcome → XH → Prop) : Prop :=
  ∀ (p : Program) (l : Launch) (e : Env) (R : Room) (s : State) (m : MethodId) (args : Array Value) (below : List Frame) (meth : Method) (c : Code) (H : Heap) (locs : List Loc) (cells slots : Nat) (ls : Array Slot),
    xCtx D M d p l R s m meth c → xHp D s N0 h H → xRm N0 R h locs cells slots → xLs M.2.2.1 lv ls → W p l e R s m args below meth c H locs cells slots (xEnd D N0 R s below Q) (F0 m pc ls st)
/-- the same, where the object a is being thrown -/
def xT (D : va_G) (N0 : Nat) (M : XM) (d pc : Nat) (lv : XL) (a : Nat) (h : XH) (Q : Outcome → XH → Prop) : Prop :=
  ∀ (p : Program) (l : Launch) (e : Env) (R : Room) (s : State) (m : MethodId) (args : Array Value) (below : List Frame) (meth : Method) (c : Code) (T : State) (locs : List Loc) (cells slots : Nat) (ls : Array Slot) (st : List Value),
    xCtx D M d p l R s m meth c → xHp D s N0 h T.heap → xRm N0 R h locs cells slots → xLs M.2.2.1 lv ls → Stand p l e R s m args below meth c T locs cells slots →
    ∃ t, Steps p.tables e below ((T.setTop (F0 m pc ls st)).pushFrame (.throwing a)) t ∧ xEnd D N0 R s below Q t
def xgo (M : XM) (pc : Nat) (lv : XL) (st : List Value) : Option (Nat × XL × List Value) := match xlook M.2.2.2.2.2 pc with
  | some q => xstep q lv st
  | none => none
theorem xlook_spec {tab : List XI} {pc : Nat} {q : XI} (h : xlook tab pc = some q) : q ∈ tab ∧ q.1 = pc := by
  induction tab with
  | nil => cases h
  | cons e t ih =>
    unfold xlook at h
    cases hb : Nat.beq e.1 pc with
    | true =>
      rw [hb] at h
      cases h
      exact ⟨List.mem_cons_self, Nat.eq_of_beq_eq_true hb⟩
    | false =>
      rw [hb] at h
      obtain ⟨h1, h2⟩ := ih h
      exact ⟨List.mem_cons_of_mem _ h1, h2⟩
theorem xOK_at {M : XM} (h : xOK M = true) {pc : Nat} {q : XI} (hq : xlook M.2.2.2.2.2 pc = some q) : xchk M.1 M.2.1 q = true ∧ q.1 = pc := by
  unfold xOK at h
  rw [Bool.and_eq_true, Bool.and_eq_true] at h
  obtain ⟨h1, h2⟩ := xlook_spec hq
  exact ⟨List.all_eq_true.mp h.2.2 q h1, h2⟩
section XV
variable {D : va_G} {N0 : Nat} {M : XM} {d pc : Nat} {lv : XL} {st : List Value} {h : XH} {Q : Outcome → XH → Prop}
theorem xV.step {pc' : Nat} {lv' : XL} {st' : List Value} (hs : xgo M pc lv st = some (pc', lv', st')) (k : xV D N0 M d pc' lv' st' h Q) : xV D N0 M d pc lv st h Q := by
  intro p l e R s m args below meth c H locs cells slots ls C hH hR hL
  unfold xgo at hs
  cases hq : xlook M.2.2.2.2.2 pc with
  | none => rw [hq] at hs; cases hs
  | some q =>
    rw [hq] at hs
    obtain ⟨hk, rfl⟩ := xOK_at C.2.2.2.2.2.2.2.2.2.2.2.2.1 hq
    exact xstep_W C.1 C.2.1 C.2.2.2.2.2.2.2.1 (fun i w h1 => C.2.2.2.2.2.2.2.2.1 w (xwt_W h1) args) hk hL hs (fun ls' hl' => k p l e R s m args below meth c H locs cells slots ls' C hH hR hl')
theorem xV.mono {Q' : Outcome → XH → Prop} (hq : ∀ o u, Q' o u → Q o u) (k : xV D N0 M d pc lv st h Q') : xV D N0 M d pc lv st h Q := by
  intro p l e R s m args below meth c H locs cells slots ls C hH hR hL T hT X
  obtain ⟨t, h1, o, u, L, k1, n1, e1, e2, e3, e4, e5, e6, e7⟩ := k p l e R s m args below meth c H locs cells slots ls C hH hR hL T hT X
  exact ⟨t, h1, o, u, L, k1, n1, e1, e2, e3, e4, e5, e6, hq _ _ e7⟩
theorem xHp.lt {s : State} {H : Heap} (hH : xHp D s N0 h H) {a : Nat} {c : XC} (ha : xget h a = some c) : a < h.1 := by
  rw [← hH.1]
  obtain ⟨h1, -⟩ := hH.2.1 a c ha
  cases c with
  | inl q =>
    obtain ⟨cA, h2, -⟩ := h1
    exact (Array.getElem?_eq_some_iff.mp h2).1
  | inr q =>
    obtain ⟨r, -, cell, h2, -⟩ := h1
    exact (Array.getElem?_eq_some_iff.mp h2).1
theorem xV.wf (k : (∀ (a : Nat) (c : XC), xget h a = some c → a < h.1) → xV D N0 M d pc lv st h Q) : xV D N0 M d pc lv st h Q := by
  intro p l e R s m args below meth c H locs cells slots ls C hH hR hL
  exact k (fun a c ha => hH.lt ha) p l e R s m args below meth c H locs cells slots ls C hH hR hL
end XV
end
section
/- Part 05: calls, throws, returns. -/
def xargs (nL : Nat) (as : List Value) : XL := (lv_args 0 as).foldl (fun lv q => xupd lv q.1 (some q.2)) (List.replicate nL none)
theorem xargs_len (l : List (Nat × Value)) (lv : XL) : (l.foldl (fun lv q => xupd lv q.1 (some q.2)) lv).length = lv.length := by
  induction l generalizing lv with
  | nil => rfl
  | cons q t ih => rw [List.foldl_cons, ih, xlen_upd]
theorem xargs_nth (l : List (Nat × Value)) (lv : XL) {j : Nat} {w : Value} (h : xnth (l.foldl (fun lv q => xupd lv q.1 (some q.2)) lv) j = some w) : (j, w) ∈ l ∨ xnth lv j = some w := by
  induction l generalizing lv with
  | nil => exact Or.inr h
  | cons q t ih =>
    rw [List.foldl_cons] at h
    rcases ih _ h with h1 | h1
    · exact Or.inl (List.mem_cons_of_mem _ h1)
    · rw [xnth_upd] at h1
      by_cases hq : q.1 = j
      · rw [if_pos hq] at h1
        split at h1
        · cases h1
          subst hq
          exact Or.inl List.mem_cons_self
        · cases h1
      · rw [if_neg hq] at h1
        exact Or.inr h1
theorem xnth_rep (n j : Nat) : xnth (List.replicate n none) j = none := by
  induction n generalizing j with
  | zero => rfl
  | succ n ih =>
    cases j with
    | zero => rfl
    | succ j => exact ih j
theorem xLs_args {nL : Nat} (as : List Value) (hn : (lg_sl as).length ≤ nL) : xLs nL (xargs nL as) ((lg_sl as ++ List.replicate (nL - (lg_sl as).length) Slot.unset).toArray) := by
  obtain ⟨h1, h2, h3⟩ := lv_entry as hn
  refine ⟨by rw [xargs, xargs_len, List.length_replicate], h1, h2, fun j w hj => ?_⟩
  rcases xargs_nth _ _ hj with h4 | h4
  · exact h3 (j, w) h4
  · rw [xnth_rep] at h4; cases h4
def xcw (M : XM) : Jvm.Cond := match M.2.2.2.2.1 with
  | [] => .code M.1 M.2.1 M.2.2.1 M.2.2.2.1
  | hs => .codeWith M.1 M.2.1 M.2.2.1 M.2.2.2.1 hs
def xIs (M : XM) (s : State) (mk : MethodId) (meth : Method) (c : Code) : Prop :=
  s.methodNamed? M.1 = some mk ∧ s.vm.method? mk = some meth ∧ meth.code = some c ∧ c.code = M.2.1 ∧ c.maxLocals = M.2.2.1 ∧ c.exceptionTable.toList = tableOf M.2.2.2.2.1 ∧ meth.locks = false ∧ meth.sig.returnType = M.2.2.2.1 ∧ meth.name = M.1.name ∧ parseMethodDescriptor M.1.desc = some meth.sig
theorem xIs_of {M : XM} {args : Array Value} {s : State} (h : (xcw M).before args s = true) : ∃ mk meth c, xIs M s mk meth c := by
  unfold xcw at h
  split at h
  · rename_i hh
    obtain ⟨mk, hn⟩ := Cond.code_named h
    obtain ⟨meth, c, h1, h2, h3, h4, h5, h6, h7, h8⟩ := Cond.code_spec hn h
    refine ⟨mk, meth, c, hn, h1, h2, h3, h4, ?_, h6, h5, (name_of_methodNamed hn h1).1, h8⟩
    rw [hh]
    have h9 : c.exceptionTable.size = 0 := by simpa [Array.isEmpty] using h7
    exact List.eq_nil_of_length_eq_zero (by simpa using h9)
  · obtain ⟨mk, meth, c, hn, h1, h2, h3, h4, h5, h6, h7, h8⟩ := Cond.codeWith_spec h
    exact ⟨mk, meth, c, hn, h1, h2, h3, h4, by rw [← h5, table_eq], h7, h6, (name_of_methodNamed hn h1).1, h8⟩
section XC5
variable {D : va_G} {N0 : Nat} {M : XM} {d pc : Nat} {lv : XL} {st : List Value} {h : XH} {Q : Outcome → XH → Prop}
theorem xHp.moved {s U : State} {H : Heap} (hal : s.vm.Alike U.vm) (hH : xHp D s N0 h H) : xHp D U N0 h H := by
  refine ⟨hH.1, fun a c hc => ?_, hH.2.2.1, hH.2.2.2.moved hal⟩
  obtain ⟨h1, h2⟩ := hH.2.1 a c hc
  refine ⟨?_, h2⟩
  cases c with
  | inl q =>
    obtain ⟨cA, e1, e2, e3⟩ := h1
    exact ⟨cA, e1, arrOfT_moved hal e2, e3.moved hal⟩
  | inr q => exact h1
theorem xSteps_weaken {tb : Tables} {e : Env} {f : Frame} {below : List Frame} {s t : State} (hs : Steps tb e (f :: below) s t) : Steps tb e below s t := by
  obtain ⟨n, h1, h2⟩ := hs
  exact ⟨n, h1, fun k hk => Within.weaken (mid := [f]) (h2 k hk)⟩
set_option maxHeartbeats 4000000 in
theorem xcallW {M2 : XM} {rest as : List Value} {Q2 : Outcome → XH → Prop} {nx len : Nat} {ig : Instr} (hcon : xV D N0 M2 d 0 (xargs M2.2.2.1 as) [] h Q2)
    (kr : ∀ v u, Q2 (.returned v) u → xV D N0 M (d + 1) nx lv (v.toList ++ rest) u Q) (kt : ∀ a u, Q2 (.threw a) u → xT D N0 M (d + 1) pc lv a u Q)
    (hok2 : xOK M2 = true) (hsz : (lg_sl as).length ≤ M2.2.2.1) (hcat : (rest.map fun v => v.category).sum + (M2.2.2.1 + 11) ≤ 64)
    {p : Program} {l : Launch} {e : Env} {R : Room} {s : State} {m : MethodId} {args : Array Value} {below : List Frame} {meth : Method} {c : Code} {T : State} {locs : List Loc} {cells slots : Nat} {ls : Array Slot}
    (C : xCtx D M (d + 1) p l R s m meth c) (hH : xHp D s N0 h T.heap) (hR : xRm N0 R h locs cells slots) (hL : xLs M.2.2.1 lv ls) (X : Stand p l e R s m args below meth c T locs cells slots)
    (hdg : decode c.code pc = .ok (ig, len)) (hnx : nx = pc + len) {mk : MethodId} {methk : Method} {ck : Code} (hI : xIs M2 s mk methk ck) :
    ∃ t, Steps p.tables e below (doInvoke e (T.setTop (F0 m pc ls rest)) [] mk as.toArray).1 t ∧ xEnd D N0 R s below Q t := by
  obtain ⟨i1, i2, i3, i4, i5, i6, i7, i8, i9, i10⟩ := hI
  obtain ⟨c1, c2, c3, c4, c5, c6, c7, c8, c9, c10, c11, c12, c13, c14, c15⟩ := C
  obtain ⟨r1, r2, r3, r4, r5⟩ := hR
  have hmkT : T.vm.method? mk = some methk := by rw [X.warmed.alike.method?]; exact i2
  have hpl : T.plainMethod mk := by
    refine State.plainMethod.of_name ?_
    intro k hk
    obtain ⟨k', hk', hn⟩ := className_of_methodNamed (X.named i1)
    cases hk.symm.trans hk'
    rw [hn]
    unfold xOK at hok2
    rw [Bool.and_eq_true] at hok2
    exact hok2.1
  have hroomw : 2 * (F0 m pc ls rest).monitorRoom + ((F0 m pc ls rest).stack.map fun v => v.category).sum + (ck.maxLocals + 11) ≤ 64 := by
    show 2 * 0 + (rest.map fun v => v.category).sum + (ck.maxLocals + 11) ≤ 64
    rw [i5]; omega
  obtain ⟨Y, hdo⟩ := X.into (g := F0 m pc ls rest) rfl (by show ls.size = c.maxLocals; rw [c3]; exact hL.2.1) hdg as.toArray
    (R' := { frames := R.frames - 1, cells := R.cells - cells, slots := R.slots - slots, locals := R.locals - 64 }) hmkT i3 i7 hpl (by show R.frames - 1 + 1 ≤ R.frames; omega) (by show _ + (R.locals - 64) ≤ R.locals; omega) (by show cells + (R.cells - cells) ≤ R.cells; omega) (by show slots + (R.slots - slots) ≤ R.slots; omega)
  have hal : s.vm.Alike (T.calling (F0 m pc ls rest) mk as.toArray).vm := X.warmed.alike
  have hWs : s.WarmedH (T.calling (F0 m pc ls rest) mk as.toArray).vm := X.warmed
  have hfc : (T.calling (F0 m pc ls rest) mk as.toArray).vm.findClass M2.1.cls = some mk.cls := by
    have := findClass_of_methodNamed (X.named i1)
    exact this
  have hent : (entryFrame mk as.toArray ck.maxLocals) = F0 mk 0 ((lg_sl as ++ List.replicate (M2.2.2.1 - (lg_sl as).length) Slot.unset).toArray) [] := by
    rw [i5]
    exact lg_entry_eq mk as _
  obtain ⟨t, hst, o, u, L, k, n, e1, e2, e3, e4, e5, e6, e7⟩ := hcon p l e { frames := R.frames - 1, cells := R.cells - cells, slots := R.slots - slots, locals := R.locals - 64 } (T.calling (F0 m pc ls rest) mk as.toArray) mk as.toArray (.java (F0 m pc ls rest) :: below) methk ck T.heap [] 0 0 _
    ⟨c1, i4, i5, i6, i7, i8, i9, hfc, c9.moved hWs, c10.moved hal, by show d ≤ R.frames - 1; omega, by show d * 64 ≤ R.locals - 64; omega, hok2, c14, c15.moved hWs⟩ (hH.moved hal)
    ⟨fun q hq => (nomatch hq), Nat.zero_le _, Nat.zero_le _, by show xCmax + 0 ≤ R.cells - cells + h.2.1; omega, by show xSmax + 0 ≤ R.slots - slots + h.2.2.1; omega⟩ (xLs_args as hsz) ((T.setTop (F0 m pc ls rest)).pushFrame (.java (entryFrame mk as.toArray ck.maxLocals))) rfl Y
  rw [hdo [], hent]
  rw [hent] at hst
  have hst := xSteps_weaken hst
  obtain ⟨q1, q2, q3, q4, q5⟩ := e6
  cases o with
  | returned v =>
    obtain ⟨T', X', hW', -, ht⟩ := X.outOf (g := F0 m pc ls rest) (mk := mk) (a := as.toArray) rfl hdg e2 e3 e4
    have hheap : T'.heap = t.heap := by rw [ht]; rfl
    obtain ⟨t2, s2, E2⟩ := kr v u e7 p l e R s m args below meth c T'.heap (locs ++ L) (cells + k) (slots + n) ls ⟨c1, c2, c3, c4, c5, c6, c7, c8, c9, c10, c11, c12, c13, c14, c15⟩ (by rw [hheap]; exact e5.moved hal.symm)
      ⟨fun q hq => (List.mem_append.mp hq).elim (r1 q) (q1 q), by simp only at q2; omega, by simp only at q3; omega, by simp only at q4; omega, by simp only at q5; omega⟩ hL T' rfl X'
    refine ⟨t2, hst.trans ?_, E2⟩
    rw [ht]
    rw [hnx] at s2
    exact s2
  | threw a =>
    obtain ⟨T', X', hW', -, ht⟩ := X.outOfThrown (g := F0 m pc ls rest) (mk := mk) (a := as.toArray) rfl e2 e3 e4
    have hheap : T'.heap = t.heap := by rw [ht]; rfl
    obtain ⟨t2, s2, E2⟩ := kt a u e7 p l e R s m args below meth c T' (locs ++ L) (cells + k) (slots + n) ls rest ⟨c1, c2, c3, c4, c5, c6, c7, c8, c9, c10, c11, c12, c13, c14, c15⟩ (by rw [hheap]; exact e5.moved hal.symm)
      ⟨fun q hq => (List.mem_append.mp hq).elim (r1 q) (q1 q), by simp only at q2; omega, by simp only at q3; omega, by simp only at q4; omega, by simp only at q5; omega⟩ hL X'
    refine ⟨t2, hst.trans ?_, E2⟩
    rw [ht]
    exact s2
end XC5
end
section
/- Part 06: branches, returns. -/
def xbr (q : XI) (st : List Value) : Option (Prop × Nat × Nat × List Value) := match q with
  | (_, i, _, nx, tg, _, _) => match i with
    | .ifCond .eq _ => xI1 st fun x r => some (x = 0, tg, nx, r)
    | .ifCond .ne _ => xI1 st fun x r => some (x = 0, nx, tg, r)
    | .ifCond .lt _ => xI1 st fun x r => some (x < 0, tg, nx, r)
    | .ifCond .ge _ => xI1 st fun x r => some (0 ≤ x, tg, nx, r)
    | .ifCond .gt _ => xI1 st fun x r => some (0 < x, tg, nx, r)
    | .ifCond .le _ => xI1 st fun x r => some (x ≤ 0, tg, nx, r)
    | .if_icmp .eq _ => xI2 st fun x y r => some (x = y, tg, nx, r)
    | .if_icmp .ne _ => xI2 st fun x y r => some (x = y, nx, tg, r)
    | .if_icmp .lt _ => xI2 st fun x y r => some (x < y, tg, nx, r)
    | .if_icmp .ge _ => xI2 st fun x y r => some (y ≤ x, tg, nx, r)
    | .if_icmp .gt _ => xI2 st fun x y r => some (y < x, tg, nx, r)
    | .if_icmp .le _ => xI2 st fun x y r => some (x ≤ y, tg, nx, r)
    | .if_acmp .eq _ => match st with
      | .ref b :: .ref a :: r => some (a = b, tg, nx, r)
      | _ => none
    | .if_acmp .ne _ => match st with
      | .ref b :: .ref a :: r => some (a = b, nx, tg, r)
      | _ => none
    | .ifnull _ => match st with
      | .ref _ :: r => some (False, tg, nx, r)
      | .null :: r => some (True, tg, nx, r)
      | _ => none
    | .ifnonnull _ => match st with
      | .ref _ :: r => some (True, tg, nx, r)
      | .null :: r => some (False, tg, nx, r)
      | _ => none
    | _ => none
section XB
variable {p : Program} {l : Launch} {e : Env} {R : Room} {s : State} {m : MethodId} {args : Array Value} {below : List Frame} {meth : Method} {c : Code} {H : Heap} {locs : List Loc} {cells slots : Nat} {Q : State → Prop}
set_option maxRecDepth 100000 in
set_option maxHeartbeats 4000000 in
theorem xbr_W (hexec : p.tables.exec = Jvm.exec) {cc : ByteArray} (hb : c.code = cc) {y : MethodName}
    {q : XI} (hq : xchk y cc q = true) {st st' : List Value} {P : Prop} {t1 t2 : Nat} {ls : Array Slot} (hs : xbr q st = some (P, t1, t2, st'))
    (k1 : P → W p l e R s m args below meth c H locs cells slots Q (F0 m t1 ls st')) (k2 : ¬ P → W p l e R s m args below meth c H locs cells slots Q (F0 m t2 ls st')) : W p l e R s m args below meth c H locs cells slots Q (F0 m q.1 ls st) := by
  obtain ⟨pc, i, len, nx, tg, cv, wi⟩ := q
  unfold xchk at hq
  rw [Bool.and_eq_true, Bool.and_eq_true] at hq
  obtain ⟨hd0, hn0, hi⟩ := hq
  have hd : decode cc pc = .ok (i, len) := of_decide_eq_true hd0
  have hn : nx = pc + len := Nat.eq_of_beq_eq_true hn0
  clear hd0 hn0
  subst hn
  show W p l e R s m args below meth c H locs cells slots Q (F0 m pc ls st)
  cases i
  case ifCond cd off =>
    simp only [xchi, Bool.and_eq_true] at hi
    obtain ⟨hi, hc⟩ := hi
    obtain rfl := Nat.eq_of_beq_eq_true hi
    have hc := of_decide_eq_true hc
    cases cd
    case eq =>
      simp only [xbr] at hs
      obtain ⟨x, r, rfl, hz⟩ := xI1_inv hs
      simp only [Option.some.injEq, Prod.mk.injEq] at hz
      obtain ⟨rfl, rfl, rfl, rfl⟩ := hz
      exact lv_if_eq hexec hb hd hc k1 k2
    case ne =>
      simp only [xbr] at hs
      obtain ⟨x, r, rfl, hz⟩ := xI1_inv hs
      simp only [Option.some.injEq, Prod.mk.injEq] at hz
      obtain ⟨rfl, rfl, rfl, rfl⟩ := hz
      exact lv_if_ne hexec hb hd hc k2 k1
    case lt =>
      simp only [xbr] at hs
      obtain ⟨x, r, rfl, hz⟩ := xI1_inv hs
      simp only [Option.some.injEq, Prod.mk.injEq] at hz
      obtain ⟨rfl, rfl, rfl, rfl⟩ := hz
      exact lv_if_lt hexec hb hd hc k1 k2
    case ge =>
      simp only [xbr] at hs
      obtain ⟨x, r, rfl, hz⟩ := xI1_inv hs
      simp only [Option.some.injEq, Prod.mk.injEq] at hz
      obtain ⟨rfl, rfl, rfl, rfl⟩ := hz
      exact lv_if_ge hexec hb hd hc k1 k2
    case gt =>
      simp only [xbr] at hs
      obtain ⟨x, r, rfl, hz⟩ := xI1_inv hs
      simp only [Option.some.injEq, Prod.mk.injEq] at hz
      obtain ⟨rfl, rfl, rfl, rfl⟩ := hz
      exact lv_if_gt hexec hb hd hc k1 k2
    case le =>
      simp only [xbr] at hs
      obtain ⟨x, r, rfl, hz⟩ := xI1_inv hs
      simp only [Option.some.injEq, Prod.mk.injEq] at hz
      obtain ⟨rfl, rfl, rfl, rfl⟩ := hz
      exact lv_if_le hexec hb hd hc k1 k2
  case if_icmp cd off =>
    simp only [xchi, Bool.and_eq_true] at hi
    obtain ⟨hi, hc⟩ := hi
    obtain rfl := Nat.eq_of_beq_eq_true hi
    have hc := of_decide_eq_true hc
    cases cd
    case eq =>
      simp only [xbr] at hs
      obtain ⟨x, y, r, rfl, hz⟩ := xI2_inv hs
      simp only [Option.some.injEq, Prod.mk.injEq] at hz
      obtain ⟨rfl, rfl, rfl, rfl⟩ := hz
      exact lv_icmp_eq hexec hb hd hc k1 k2
    case ne =>
      simp only [xbr] at hs
      obtain ⟨x, y, r, rfl, hz⟩ := xI2_inv hs
      simp only [Option.some.injEq, Prod.mk.injEq] at hz
      obtain ⟨rfl, rfl, rfl, rfl⟩ := hz
      exact lv_icmp_ne hexec hb hd hc k2 k1
    case lt =>
      simp only [xbr] at hs
      obtain ⟨x, y, r, rfl, hz⟩ := xI2_inv hs
      simp only [Option.some.injEq, Prod.mk.injEq] at hz
      obtain ⟨rfl, rfl, rfl, rfl⟩ := hz
      exact lv_icmp_lt hexec hb hd hc k1 k2
    case ge =>
      simp only [xbr] at hs
      obtain ⟨x, y, r, rfl, hz⟩ := xI2_inv hs
      simp only [Option.some.injEq, Prod.mk.injEq] at hz
      obtain ⟨rfl, rfl, rfl, rfl⟩ := hz
      exact lv_icmp_ge hexec hb hd hc k1 k2
    case gt =>
      simp only [xbr] at hs
      obtain ⟨x, y, r, rfl, hz⟩ := xI2_inv hs
      simp only [Option.some.injEq, Prod.mk.injEq] at hz
      obtain ⟨rfl, rfl, rfl, rfl⟩ := hz
      exact lv_icmp_gt hexec hb hd hc k1 k2
    case le =>
      simp only [xbr] at hs
      obtain ⟨x, y, r, rfl, hz⟩ := xI2_inv hs
      simp only [Option.some.injEq, Prod.mk.injEq] at hz
      obtain ⟨rfl, rfl, rfl, rfl⟩ := hz
      exact lv_icmp_le hexec hb hd hc k1 k2
  case if_acmp cd off =>
    simp only [xchi, Bool.and_eq_true] at hi
    obtain ⟨hi, hc⟩ := hi
    obtain rfl := Nat.eq_of_beq_eq_true hi
    have hc := of_decide_eq_true hc
    cases cd
    case eq =>
      simp only [xbr] at hs
      split at hs
      · rename_i b a r
        simp only [Option.some.injEq, Prod.mk.injEq] at hs
        obtain ⟨rfl, rfl, rfl, rfl⟩ := hs
        exact lv_acmp_eq (rx := some a) (ry := some b) hexec hb hd hc (fun z => k1 (Option.some.inj z)) (fun z => k2 (fun w => z (congrArg some w)))
      · cases hs
    case ne =>
      simp only [xbr] at hs
      split at hs
      · rename_i b a r
        simp only [Option.some.injEq, Prod.mk.injEq] at hs
        obtain ⟨rfl, rfl, rfl, rfl⟩ := hs
        exact lv_acmp_ne (rx := some a) (ry := some b) hexec hb hd hc (fun z => k2 (fun w => z (congrArg some w))) (fun z => k1 (Option.some.inj z))
      · cases hs
  case ifnull off =>
    simp only [xchi, Bool.and_eq_true] at hi
    obtain ⟨hi, hc⟩ := hi
    obtain rfl := Nat.eq_of_beq_eq_true hi
    have hc := of_decide_eq_true hc
    simp only [xbr] at hs
    split at hs
    · simp only [Option.some.injEq, Prod.mk.injEq] at hs
      obtain ⟨rfl, rfl, rfl, rfl⟩ := hs
      exact lv_ifnull hexec hb hd (k2 (fun z => z))
    · simp only [Option.some.injEq, Prod.mk.injEq] at hs
      obtain ⟨rfl, rfl, rfl, rfl⟩ := hs
      exact lv_ifnullN hexec hb hd hc (k1 trivial)
    · cases hs
  case ifnonnull off =>
    simp only [xchi, Bool.and_eq_true] at hi
    obtain ⟨hi, hc⟩ := hi
    obtain rfl := Nat.eq_of_beq_eq_true hi
    have hc := of_decide_eq_true hc
    simp only [xbr] at hs
    split at hs
    · simp only [Option.some.injEq, Prod.mk.injEq] at hs
      obtain ⟨rfl, rfl, rfl, rfl⟩ := hs
      exact lv_ifnonnull hexec hb hd hc (k1 trivial)
    · simp only [Option.some.injEq, Prod.mk.injEq] at hs
      obtain ⟨rfl, rfl, rfl, rfl⟩ := hs
      exact lv_ifnonnullN hexec hb hd (k2 (fun z => z))
    · cases hs
  all_goals exact absurd hs (by simp [xbr])
end XB
def xbo (M : XM) (pc : Nat) (st : List Value) : Option (Prop × Nat × Nat × List Value) := match xlook M.2.2.2.2.2 pc with
  | some q => xbr q st
  | none => none
def xop (M : XM) (pc : Nat) : Option Instr := (xlook M.2.2.2.2.2 pc).map (fun q => q.2.1)
def xnx (M : XM) (pc : Nat) : Nat := match xlook M.2.2.2.2.2 pc with
  | some q => q.2.2.2.1
  | none => 0
theorem xop_spec {M : XM} {pc : Nat} {i : Instr} (hok : xOK M = true) (h : xop M pc = some i) : ∃ len tg cv wi, xchk M.1 M.2.1 (pc, i, len, xnx M pc, tg, cv, wi) = true := by
  unfold xop at h
  cases hq : xlook M.2.2.2.2.2 pc with
  | none => rw [hq] at h; cases h
  | some q =>
    rw [hq] at h
    obtain ⟨pc', i', len, nx, tg, cv, wi⟩ := q
    obtain ⟨hk, hp⟩ := xOK_at hok hq
    simp only [Option.map_some, Option.some.injEq] at h hp
    subst h; subst hp
    refine ⟨len, tg, cv, wi, ?_⟩
    unfold xnx
    rw [hq]
    exact hk
theorem xchk_dec {y : MethodName} {cc : ByteArray} {pc len nx tg wi : Nat} {i : Instr} {cv : Value} (h : xchk y cc (pc, i, len, nx, tg, cv, wi) = true) : decode cc pc = .ok (i, len) ∧ nx = pc + len ∧ xchi y (pc, i, len, nx, tg, cv, wi) = true := by
  unfold xchk at h
  rw [Bool.and_eq_true, Bool.and_eq_true] at h
  exact ⟨of_decide_eq_true h.1, Nat.eq_of_beq_eq_true h.2.1, h.2.2⟩
section XB6
variable {D : va_G} {N0 : Nat} {M : XM} {d pc : Nat} {lv : XL} {st : List Value} {h : XH} {Q : Outcome → XH → Prop}
theorem xV.br {P : Prop} {t1 t2 : Nat} {st' : List Value} (hs : xbo M pc st = some (P, t1, t2, st')) (k1 : P → xV D N0 M d t1 lv st' h Q) (k2 : ¬ P → xV D N0 M d t2 lv st' h Q) : xV D N0 M d pc lv st h Q := by
  intro p l e R s m args below meth c H locs cells slots ls C hH hR hL
  unfold xbo at hs
  cases hq : xlook M.2.2.2.2.2 pc with
  | none => rw [hq] at hs; cases hs
  | some q =>
    rw [hq] at hs
    obtain ⟨hk, rfl⟩ := xOK_at C.2.2.2.2.2.2.2.2.2.2.2.2.1 hq
    exact xbr_W C.1 C.2.1 hk hs (fun hP => k1 hP p l e R s m args below meth c H locs cells slots ls C hH hR hL) (fun hP => k2 hP p l e R s m args below meth c H locs cells slots ls C hH hR hL)
theorem xEnd_of {R : Room} {s : State} {args : Array Value} {below : List Frame} {locs : List Loc} {cells slots : Nat} {H : Heap} {o : Outcome} (hH : xHp D s N0 h H) (hR : xRm N0 R h locs cells slots) (hQ : Q o h) {t : State}
    (hM : MQ below (fun _ _ o' t => o' = o ∧ t.heap = H) args s cells slots (fun a => N0 ≤ a) t) : xEnd D N0 R s below Q t := by
  obtain ⟨o', h1, h2, ⟨rfl, h3⟩, L, ⟨-, h4, h5⟩, h6⟩ := hM
  exact ⟨o', h, L, cells, slots, h1, h2, h4, h5, by rw [h3]; exact hH, ⟨h6, hR.2⟩, hQ⟩
theorem xV.iret {v : Int32} {ty : FieldType} (hq : xop M pc = some .ireturn) (hr : M.2.2.2.1 = some ty) (hn : narrow ty (.int v) = .int v) (hQ : Q (.returned (some (.int v))) h) : xV D N0 M d pc lv [.int v] h Q := by
  intro p l e R s m args below meth c H locs cells slots ls C hH hR hL T hT X
  obtain ⟨len, tg, cv, wi, hk⟩ := xop_spec C.2.2.2.2.2.2.2.2.2.2.2.2.1 hq
  obtain ⟨hd, -, hi⟩ := xchk_dec hk
  obtain rfl := Nat.eq_of_beq_eq_true hi
  obtain ⟨t, a, b⟩ := W.zret (Qc := fun _ _ o' t => o' = .returned (some (.int v)) ∧ t.heap = H) (free := fun a => N0 ≤ a) (args := args) (below := below) (R := R) (l := l) (e := e) (cells := cells) (slots := slots) (locs := locs) (ls := ls) C.1 C.2.1 (by rw [C.2.2.2.2.2.1]; exact hr) hn (fun t ht _ => ⟨rfl, ht⟩) hR.1 hd C.2.2.2.2.1 T hT X
  exact ⟨t, a, xEnd_of hH hR hQ b⟩
theorem xV.lret {v : Int64} (hq : xop M pc = some .lreturn) (hr : M.2.2.2.1 = some .long) (hQ : Q (.returned (some (.long v))) h) : xV D N0 M d pc lv [.long v] h Q := by
  intro p l e R s m args below meth c H locs cells slots ls C hH hR hL T hT X
  obtain ⟨len, tg, cv, wi, hk⟩ := xop_spec C.2.2.2.2.2.2.2.2.2.2.2.2.1 hq
  obtain ⟨hd, -, hi⟩ := xchk_dec hk
  obtain rfl := Nat.eq_of_beq_eq_true hi
  obtain ⟨t, a, b⟩ := W.lret (Qc := fun _ _ o' t => o' = .returned (some (.long v)) ∧ t.heap = H) (free := fun a => N0 ≤ a) (args := args) (below := below) (R := R) (l := l) (e := e) (cells := cells) (slots := slots) (locs := locs) (ls := ls) C.1 C.2.1 (by rw [C.2.2.2.2.2.1]; exact hr) (fun t ht _ => ⟨rfl, ht⟩) hR.1 hd C.2.2.2.2.1 T hT X
  exact ⟨t, a, xEnd_of hH hR hQ b⟩
theorem xV.vret (hq : xop M pc = some .return_) (hr : M.2.2.2.1 = none) (hQ : Q (.returned none) h) : xV D N0 M d pc lv [] h Q := by
  intro p l e R s m args below meth c H locs cells slots ls C hH hR hL T hT X
  obtain ⟨len, tg, cv, wi, hk⟩ := xop_spec C.2.2.2.2.2.2.2.2.2.2.2.2.1 hq
  obtain ⟨hd, -, hi⟩ := xchk_dec hk
  obtain rfl := Nat.eq_of_beq_eq_true hi
  obtain ⟨t, a, b⟩ := W.vret (Qc := fun _ _ o' t => o' = .returned none ∧ t.heap = H) (free := fun a => N0 ≤ a) (args := args) (below := below) (R := R) (l := l) (e := e) (cells := cells) (slots := slots) (locs := locs) (ls := ls) C.1 C.2.1 (by rw [C.2.2.2.2.2.1]; exact hr) (fun t ht _ => ⟨rfl, ht⟩) hR.1 hd C.2.2.2.2.1 T hT X
  exact ⟨t, a, xEnd_of hH hR hQ b⟩
theorem xV.aret {v : Value} {ty : FieldType} (hq : xop M pc = some .areturn) (hr : M.2.2.2.1 = some ty) (hty : (∃ n, ty = .object n) ∨ ∃ t, ty = .array t) (hv : v = .null ∨ ∃ a, v = .ref a) (hQ : Q (.returned (some v)) h) : xV D N0 M d pc lv [v] h Q := by
  intro p l e R s m args below meth c H locs cells slots ls C hH hR hL T hT X
  obtain ⟨len, tg, cv, wi, hk⟩ := xop_spec C.2.2.2.2.2.2.2.2.2.2.2.2.1 hq
  obtain ⟨hd, -, hi⟩ := xchk_dec hk
  obtain rfl := Nat.eq_of_beq_eq_true hi
  obtain ⟨t, a, b⟩ := W.aret (Qc := fun _ _ o' t => o' = .returned (some v) ∧ t.heap = H) (free := fun a => N0 ≤ a) (args := args) (below := below) (R := R) (l := l) (e := e) (cells := cells) (slots := slots) (locs := locs) (ls := ls) C.1 C.2.1 (by rw [C.2.2.2.2.2.1]; exact hr) hty hv (fun t ht _ => ⟨rfl, ht⟩) hR.1 hd C.2.2.2.2.1 T hT X
  exact ⟨t, a, xEnd_of hH hR hQ b⟩
theorem xT.out {a : Nat} (hout : (tableOf M.2.2.2.2.1).all (fun x => !covers x pc) = true) (hQ : Q (.threw a) h) : xT D N0 M d pc lv a h Q := by
  intro p l e R s m args below meth c T locs cells slots ls st C hH hR hL X
  obtain ⟨h1, h2, h3, h4, h5⟩ := X.leaveThrown a (g := F0 m pc ls st) rfl rfl rfl (outside_of_table C.2.2.2.1 hout) C.2.2.2.2.1
  exact ⟨_, h1, .threw a, h, locs, cells, slots, h2, h3, h4, h5, hH, hR, hQ⟩
theorem xV.athrow {a : Nat} {r : List Value} (hq : xop M pc = some .athrow) (k : xT D N0 M d pc lv a h Q) : xV D N0 M d pc lv (.ref a :: r) h Q := by
  intro p l e R s m args below meth c H locs cells slots ls C hH hR hL T hT X
  obtain ⟨len, tg, cv, wi, hk⟩ := xop_spec C.2.2.2.2.2.2.2.2.2.2.2.2.1 hq
  obtain ⟨hd, -, hi⟩ := xchk_dec hk
  obtain rfl := Nat.eq_of_beq_eq_true hi
  subst hT
  obtain ⟨t, h1, h2⟩ := k p l e R s m args below meth c T locs cells slots ls r C hH hR hL X
  refine ⟨t, ?_, h2⟩
  have hexec := C.1
  have hb := C.2.1
  jvm_step X.here [X.here.top, hexec, hb, hd, Op.athrow.wp_sem]
  exact h1
end XB6
end
section
/- Part 07: the heap's rows. -/
def xct (ci : Nat) : List FieldType := xtys.getD ci []
/-- what is asked of the classes' tables, by computing -/
def xcl1 (ci : Nat) (q : vw_C) : Bool := (List.range q.2.2).all fun k => xwt ((xwis.getD ci []).getD k 0) (u_lay q.1 q.2.1 k) && ((decide (parseFieldDescriptor (q.2.1 k).2.2.1 = (xct ci)[k]?) && Nat.blt k (xct ci).length) && (List.range q.2.2).all fun j => decide (j = k ∨ (q.2.1 j).2.1 ≠ (q.2.1 k).2.1))
def xclOK : Bool := (List.range xcl.length).all fun ci => match xcl[ci]? with
  | some q => xcl1 ci q
  | none => true
theorem xcl1_of (hok : xclOK = true) {ci : Nat} {q : vw_C} (hc : xcl[ci]? = some q) : xcl1 ci q = true := by
  have h1 := List.all_eq_true.mp hok ci (List.mem_range.mpr (List.getElem?_eq_some_iff.mp hc).1)
  simp only [hc] at h1
  exact h1
theorem xcl1_k {ci : Nat} {q : vw_C} (h : xcl1 ci q = true) {k : Nat} (hk : k < q.2.2) : xW (u_lay q.1 q.2.1 k) ∧ parseFieldDescriptor (q.2.1 k).2.2.1 = (xct ci)[k]? ∧ k < (xct ci).length ∧ ∀ j, j < q.2.2 → j ≠ k → (q.2.1 j).2.1 ≠ (q.2.1 k).2.1 := by
  have h1 := List.all_eq_true.mp h k (List.mem_range.mpr hk)
  rw [Bool.and_eq_true, Bool.and_eq_true, Bool.and_eq_true] at h1
  obtain ⟨h2, ⟨h4, h7⟩, h5⟩ := h1
  refine ⟨xwt_W h2, of_decide_eq_true h4, Nat.le_of_ble_eq_true h7, fun j hj hne => ?_⟩
  have h6 := of_decide_eq_true (List.all_eq_true.mp h5 j (List.mem_range.mpr hj))
  exact h6.resolve_left hne
section X7
variable {D : va_G} {N0 : Nat} {M : XM} {d pc : Nat} {lv : XL} {st : List Value} {h : XH} {Q : Outcome → XH → Prop}
theorem xAt.kept {s : State} {a : Nat} {c : XC} {H H1 : Heap} (hh : xAt D s a c H) (he : H1[a]? = H[a]?) : xAt D s a c H1 := by
  cases c with
  | inl q =>
    obtain ⟨cA, e1, e2⟩ := hh
    exact ⟨cA, by rw [he]; exact e1, e2⟩
  | inr q =>
    obtain ⟨r, e1, e2⟩ := hh
    exact ⟨r, e1, e2.kept he⟩
theorem xget_put (h : XH) (a b : Nat) (c : XC) : xget (xput h a c) b = if b = a then some c else xget h b := rfl
theorem xget_new (h : XH) (c : XC) (n b : Nat) : xget (xnew h c n) b = if b = h.1 then some c else xget h b := rfl
theorem xHp.put {s : State} {H H1 : Heap} (hH : xHp D s N0 h H) {a : Nat} {c : XC} (hz : H1.size = H.size) (ho : ∀ q : Nat, q ≠ a → H1[q]? = H[q]?) (hc : xAt D s a c H1) (hn : N0 ≤ a) : xHp D s N0 (xput h a c) H1 := by
  refine ⟨hz.trans hH.1, fun b c2 hb => ?_, hH.2.2.1, hH.2.2.2.kept (fun q _ h2 => ho q (by omega))⟩
  rw [xget_put] at hb
  by_cases hba : b = a
  · rw [if_pos hba] at hb
    cases hb
    subst hba
    exact ⟨hc, fun _ => hn⟩
  · rw [if_neg hba] at hb
    obtain ⟨e1, e2⟩ := hH.2.1 b c2 hb
    exact ⟨e1.kept (ho b hba), e2⟩
theorem xHp.push {s : State} {H H1 : Heap} (hH : xHp D s N0 h H) {c : XC} {n : Nat} (hz : H1.size = H.size + 1) (ho : ∀ q : Nat, q < H.size → H1[q]? = H[q]?) (hc : xAt D s h.1 c H1) : xHp D s N0 (xnew h c n) H1 := by
  refine ⟨by show H1.size = h.1 + 1; rw [hz, hH.1], fun b c2 hb => ?_, Nat.le_succ_of_le hH.2.2.1, hH.2.2.2.kept (fun q h1 _ => ho q h1)⟩
  rw [xget_new] at hb
  by_cases hba : b = h.1
  · rw [if_pos hba] at hb
    cases hb
    subst hba
    exact ⟨hc, fun _ => hH.2.2.1⟩
  · rw [if_neg hba] at hb
    obtain ⟨e1, e2⟩ := hH.2.1 b c2 hb
    exact ⟨e1.kept (ho b (by rw [hH.1]; exact hH.lt hb)), e2⟩
theorem xRm.put {R : Room} {locs : List Loc} {cells slots : Nat} {h' : XH} (hR : xRm N0 R h locs cells slots) (h1 : h'.2.1 = h.2.1) (h2 : h'.2.2.1 = h.2.2.1) {a i : Nat} (ha : N0 ≤ a) : xRm N0 R h' (locs ++ [⟨a, i⟩]) cells slots := by
  obtain ⟨r1, r2, r3, r4, r5⟩ := hR
  refine ⟨fun q hq => ?_, r2, r3, by rw [h1]; exact r4, by rw [h2]; exact r5⟩
  rcases List.mem_append.mp hq with h3 | h3
  · exact r1 q h3
  · rw [List.mem_singleton] at h3
    rw [h3]; exact ha
def xfl (M : XM) (pc : Nat) : Option (Instr × Nat × Nat × Nat) := match xlook M.2.2.2.2.2 pc with
  | some (_, i, _, nx, kf, .ref ci, _) => some (i, nx, ci, kf)
  | _ => none
theorem xfl_spec {i : Instr} {nx ci kf : Nat} (hok : xOK M = true) (h : xfl M pc = some (i, nx, ci, kf)) : ∃ len wi, xchk M.1 M.2.1 (pc, i, len, nx, kf, .ref ci, wi) = true := by
  unfold xfl at h
  split at h
  · rename_i pc' i' len nx' kf' ci' wi hq
    obtain ⟨hk, hp⟩ := xOK_at hok hq
    simp only [Option.some.injEq, Prod.mk.injEq] at h hp
    obtain ⟨rfl, rfl, rfl, rfl⟩ := h
    subst hp
    exact ⟨len, wi, hk⟩
  · cases h
theorem xsame {s : State} {C O n ds : String} (hW : xWS s) (h : O = C ∨ xW (.sameField C O n ds)) : ∀ x, s.fieldFound? O n ds = some x → s.fieldFound? C n ds = some x := by
  rcases h with rfl | h
  · exact fun x hx => hx
  · exact fun x hx => u_same (hW _ h #[]) x hx
theorem xfk_spec {own : String} {wi idx ci kf : Nat} (hk : xfk wi own idx ci kf = true) : ∃ (q : vw_C) (ref : String), xcl[ci]? = some q ∧ kf < q.2.2 ∧ xW (.fieldLink own idx ref (q.2.1 kf).2.1 (q.2.1 kf).2.2.1) ∧ ∀ s : State, xWS s → ∀ x, s.fieldFound? (q.2.1 kf).1 (q.2.1 kf).2.1 (q.2.1 kf).2.2.1 = some x → s.fieldFound? ref (q.2.1 kf).2.1 (q.2.1 kf).2.2.1 = some x := by
  unfold xfk at hk
  split at hk
  · rename_i q hq
    rw [Bool.and_eq_true, Bool.or_eq_true, Bool.and_eq_true, Bool.or_eq_true] at hk
    obtain ⟨h1, ⟨h2, h3⟩ | h2⟩ := hk
    · exact ⟨q, q.1, hq, Nat.le_of_ble_eq_true h1, xwt_W h2, fun s hW => xsame hW (h3.imp of_decide_eq_true xwt_W)⟩
    · exact ⟨q, (q.2.1 kf).1, hq, Nat.le_of_ble_eq_true h1, xwt_W h2, fun s hW x hx => hx⟩
  · cases hk
theorem xV.get (hcl : xclOK = true) {idx nx ci kf a : Nat} {fs r : List Value} {v : Value} (hq : xfl M pc = some (.getfield idx, nx, ci, kf)) (ha : xget h a = some (.inr (ci, fs))) (hv : fs[kf]? = some v) (k : xV D N0 M d nx lv (v :: r) h Q) : xV D N0 M d pc lv (.ref a :: r) h Q := by
  intro p l e R s m args below meth c H locs cells slots ls C hH hR hL
  obtain ⟨len, wi, hk⟩ := xfl_spec C.2.2.2.2.2.2.2.2.2.2.2.2.1 hq
  obtain ⟨hd, rfl, hi⟩ := xchk_dec hk
  simp only [xchi, Bool.and_eq_true] at hi
  obtain ⟨hl, hf⟩ := hi
  obtain rfl := Nat.eq_of_beq_eq_true hl
  obtain ⟨q, ref, hc, hkf, hw, hsm⟩ := xfk_spec hf
  have hWS := C.2.2.2.2.2.2.2.2.1
  have hok := xcl1_of hcl hc
  have hts : ∀ w ∈ u_ws q.1 q.2.1 q.2.2, w.before args s = true := fun w hw => by
    obtain ⟨j, hj, rfl⟩ := List.mem_map.mp hw
    exact hWS _ (xcl1_k hok (List.mem_range.mp hj)).1 args
  have hP : va_P D xcl [(a, .inr (ci, fs))] H := fun j x hx => by
    have hj : j < 1 := (List.getElem?_eq_some_iff.mp hx).1
    rw [show j = 0 by omega] at hx
    cases hx
    exact (hH.2.1 a _ ha).1
  exact va_get (own := M.1.cls) (ref := ref) (ws := [(a, .inr (ci, fs))]) (tys := []) C.1 C.2.1 hts (fun w h => h) C.2.2.2.2.2.2.2.1 C.2.2.2.2.2.2.2.2.2.1 hP 0 rfl hc kf hkf (hWS _ hw args) (hsm s hWS) hv hd (k p l e R s m args below meth c H locs cells slots ls C hH hR hL)
theorem xV.put (hcl : xclOK = true) {idx nx ci kf a : Nat} {fs r : List Value} {v : Value} {ty : FieldType} (hq : xfl M pc = some (.putfield idx, nx, ci, kf)) (ha : xget h a = some (.inr (ci, fs))) (hty : (xct ci)[kf]? = some ty) (hn : narrow ty v = v) (hft : fits ty v = true) (hlf : kf < fs.length)
    (k : xV D N0 M d nx lv r (xput h a (.inr (ci, fs.set kf v))) Q) : xV D N0 M d pc lv (v :: .ref a :: r) h Q := by
  intro p l e R s m args below meth c H locs cells slots ls C hH hR hL
  obtain ⟨len, wi, hk⟩ := xfl_spec C.2.2.2.2.2.2.2.2.2.2.2.2.1 hq
  obtain ⟨hd, rfl, hi⟩ := xchk_dec hk
  simp only [xchi, Bool.and_eq_true] at hi
  obtain ⟨hl, hf, hpk⟩ := hi
  obtain rfl := Nat.eq_of_beq_eq_true hl
  obtain ⟨q, ref, hc, hkf, hw, hsm⟩ := xfk_spec hf
  have hWS := C.2.2.2.2.2.2.2.2.1
  have hok := xcl1_of hcl hc
  have hts : ∀ w ∈ u_ws q.1 q.2.1 q.2.2, w.before args s = true := fun w hw => by
    obtain ⟨j, hj, rfl⟩ := List.mem_map.mp hw
    exact hWS _ (xcl1_k hok (List.mem_range.mp hj)).1 args
  obtain ⟨hat, hN⟩ := hH.2.1 a _ ha
  have hN : N0 ≤ a := hN rfl
  have hKn := C.2.2.2.2.2.2.2.2.2.1
  have hap := va_apart (own := M.1.cls) hts (fun w h => h) (fun j => (xct ci).getD j .int) (fun j hj => by
    obtain ⟨-, g3, hlt, -⟩ := xcl1_k hok hj
    rw [g3]
    simp [List.getD_eq_getElem?_getD, hlt]) (fun x hx y hy hne => (xcl1_k hok hy).2.2.2 x hx hne) hKn hc
  obtain ⟨r1, h1, cell, q1, q2, q3, q4⟩ := hat
  have hr : r1 = q := Option.some.inj (h1.symm.trans hc)
  subst hr
  obtain ⟨hS, hfc, kC, hkC, hkind⟩ := hKn.1 ci _ hc
  obtain ⟨cf, kfl, fi, f, hfi, hsl⟩ := hS kf hkf
  have hd2 : parseFieldDescriptor (r1.2.1 kf).2.2.1 = some ty := by
    obtain ⟨-, g3, -⟩ := xcl1_k hok hkf
    rw [g3]; exact hty
  have hst := (u_facts hfc hkC (u_lays hts (fun w h => h) hkf) hfi).1
  have hlay := hts _ (u_in_lay hkf)
  have hfin : ∀ H' : Heap, H'[a]? = some (cell.setSlot f.slot v) → H'.size = H.size → (∀ q, q ≠ a → H'[q]? = H[q]?) → W p l e R s m args below meth c H' (locs ++ [⟨a, f.slot⟩]) cells slots (xEnd D N0 R s below Q) (F0 m (pc + 3) ls r) := by
    intro H' e1 e2 e3
    refine k p l e R s m args below meth c H' _ cells slots ls C (hH.put e2 e3 ?_ hN) (hR.put rfl rfl hN) hL
    rw [hsl] at e1
    exact ⟨_, hc, t_OB.to (V := updV (vp_V fs) kf v) ⟨_, e1, q2, q3, t_set q4 hap hkf v⟩ (fun j _ => vp_updV_set hlf v j)⟩
  unfold u_lay at hlay
  by_cases hF : (r1.2.1 kf).2.2.2 = true
  · rw [if_pos hF] at hlay
    have hpk2 : M.1.name = "<init>" ∧ (r1.2.1 kf).1 = M.1.cls := by
      unfold xpk at hpk
      rw [hc] at hpk
      simp only [hF] at hpk
      simpa using hpk
    have hcf : m.cls = cf := by
      obtain ⟨_, _, c', _, _, _, -, -, hf', -, -, -, hown2, -⟩ := Cond.laysFinal_spec hlay
      have e1 : c' = cf := by have := hfi.symm.trans hf'; simp at this; exact this.1.symm
      rw [hpk2.2] at hown2
      rw [← e1]; exact Option.some.inj (C.2.2.2.2.2.2.2.1.symm.trans hown2)
    have h6 := u_fits hfc hkC hkind (Or.inr hlay) hfi hd2 hn hft
    exact W.putFinK C.1 C.2.1 C.2.2.2.2.2.2.2.1 (hWS _ hw args) (hsm s hWS _ hfi) hst hcf (C.2.2.2.2.2.2.1.trans hpk2.1) (by rw [q2]; exact h6) q1 q3 (by rw [hsl]; exact k2_hasslot (q4 kf hkf)) rfl rfl hd hfin
  · rw [if_neg hF] at hlay
    have h6 := u_store hfc hkC hkind hlay hfi hd2 hn hft
    exact W.putK C.1 C.2.1 (f := f) ⟨C.2.2.2.2.2.2.2.1, hWS _ hw args, ⟨_, _, _, hsm s hWS _ hfi⟩, hst⟩ (by rw [q2]; exact h6) q1 q3 (by rw [hsl]; exact k2_hasslot (q4 kf hkf)) rfl rfl hd hfin
end X7
end
section
/- Part 08: arrays, new objects. -/
def xon (M : XM) (pc : Nat) : Option (Instr × Nat) := match xlook M.2.2.2.2.2 pc with
  | some (_, i, _, nx, _, _, _) => some (i, nx)
  | none => none
section X8
variable {D : va_G} {N0 : Nat} {M : XM} {d pc : Nat} {lv : XL} {st : List Value} {h : XH} {Q : Outcome → XH → Prop}
theorem xon_spec {i : Instr} {nx : Nat} (hok : xOK M = true) (h : xon M pc = some (i, nx)) : ∃ len tg cv wi, xchk M.1 M.2.1 (pc, i, len, nx, tg, cv, wi) = true := by
  unfold xon at h
  split at h
  · rename_i pc' i' len nx' tg cv wi hq
    obtain ⟨hk, hp⟩ := xOK_at hok hq
    simp only [Option.some.injEq, Prod.mk.injEq] at h hp
    obtain ⟨rfl, rfl⟩ := h
    subst hp
    exact ⟨len, tg, cv, wi, hk⟩
  · cases h
theorem xin_size {i : Int32} {n : Nat} (hin : vp_in i n) (cA : ClassId) (f : Nat → Value) : ¬ (i < 0 ∨ (arrV cA n f).slots.size ≤ i.toNatClampNeg) := by
  rw [arrV_size]; exact hin
theorem xin_lt {i : Int32} {n : Nat} (hin : vp_in i n) : i.toNatClampNeg < n := Nat.not_le.mp fun q => hin (Or.inr q)
theorem xV.alen {a nx : Nat} {b : Bool} {ty : FieldType} {x : vp_A} {r : List Value} (hq : xon M pc = some (.arraylength, nx)) (ha : xget h a = some (.inl (b, ty, x))) (k : xV D N0 M d nx lv (.int (Int32.ofNat x.1) :: r) h Q) : xV D N0 M d pc lv (.ref a :: r) h Q := by
  intro p l e R s m args below meth c H locs cells slots ls C hH hR hL
  obtain ⟨len, tg, cv, wi, hk⟩ := xon_spec C.2.2.2.2.2.2.2.2.2.2.2.2.1 hq
  obtain ⟨hd, rfl, hi⟩ := xchk_dec hk
  obtain rfl := Nat.eq_of_beq_eq_true hi
  obtain ⟨cA, h1, h2, -⟩ := (hH.2.1 a _ ha).1
  have kk := k p l e R s m args below meth c H locs cells slots ls C hH hR hL
  obtain ⟨n, f | f | f | f | f⟩ := x
  · exact W.alen (n := Int32.ofNat n) C.1 C.2.1 h1 (h2 n (fun j => .int (f j))) (by rw [vp_cell_i, arrV_size] <;> rfl) rfl rfl hd kk
  · exact W.alen (n := Int32.ofNat n) C.1 C.2.1 h1 (h2 n (fun j => .long (f j))) (by rw [vp_cell_l, arrV_size] <;> rfl) rfl rfl hd kk
  · exact W.alen (n := Int32.ofNat n) C.1 C.2.1 h1 (h2 n (fun j => .float (f j))) (by rw [vp_cell_f, arrV_size] <;> rfl) rfl rfl hd kk
  · exact W.alen (n := Int32.ofNat n) C.1 C.2.1 h1 (h2 n (fun j => .double (f j))) (by rw [vp_cell_d, arrV_size] <;> rfl) rfl rfl hd kk
  · exact W.alen (n := Int32.ofNat n) C.1 C.2.1 h1 (h2 n (fun j => va_rf (f j))) (by rw [vp_cell_q, arrV_size] <;> rfl) rfl rfl hd kk
theorem xV.iald {a n nx : Nat} {b : Bool} {f : Nat → Int32} {i : Int32} {r : List Value} (hq : xon M pc = some (.iaload, nx)) (ha : xget h a = some (.inl (b, .int, n, .inl f))) (hin : vp_in i n) (k : xV D N0 M d nx lv (.int (f i.toNatClampNeg) :: r) h Q) : xV D N0 M d pc lv (.int i :: .ref a :: r) h Q := by
  intro p l e R s m args below meth c H locs cells slots ls C hH hR hL
  obtain ⟨len, tg, cv, wi, hk⟩ := xon_spec C.2.2.2.2.2.2.2.2.2.2.2.2.1 hq
  obtain ⟨hd, rfl, hi⟩ := xchk_dec hk
  obtain rfl := Nat.eq_of_beq_eq_true hi
  obtain ⟨cA, h1, h2, -⟩ := (hH.2.1 a _ ha).1
  exact W.iald (v := .int (f i.toNatClampNeg)) C.1 C.2.1 h1 (h2 n (fun j => .int (f j))) (fun q => by cases q) (xin_size hin cA _) (by show (arrV _ _ _).slots[_]? = _; rw [arrV_read _ _ (xin_lt hin)]) rfl rfl hd (k p l e R s m args below meth c H locs cells slots ls C hH hR hL)
theorem xV.zald {a n nx : Nat} {b : Bool} {f : Nat → Int32} {i : Int32} {r : List Value} (hq : xon M pc = some (.baload, nx)) (ha : xget h a = some (.inl (b, .boolean, n, .inl f))) (hin : vp_in i n) (k : xV D N0 M d nx lv (.int (f i.toNatClampNeg) :: r) h Q) : xV D N0 M d pc lv (.int i :: .ref a :: r) h Q := by
  intro p l e R s m args below meth c H locs cells slots ls C hH hR hL
  obtain ⟨len, tg, cv, wi, hk⟩ := xon_spec C.2.2.2.2.2.2.2.2.2.2.2.2.1 hq
  obtain ⟨hd, rfl, hi⟩ := xchk_dec hk
  obtain rfl := Nat.eq_of_beq_eq_true hi
  obtain ⟨cA, h1, h2, -⟩ := (hH.2.1 a _ ha).1
  exact W.zald (v := .int (f i.toNatClampNeg)) C.1 C.2.1 h1 (h2 n (fun j => .int (f j))) (fun q => by cases q) (xin_size hin cA _) (by show (arrV _ _ _).slots[_]? = _; rw [arrV_read _ _ (xin_lt hin)]) rfl rfl hd (k p l e R s m args below meth c H locs cells slots ls C hH hR hL)
theorem xV.lald {a n nx : Nat} {b : Bool} {f : Nat → Int64} {i : Int32} {r : List Value} (hq : xon M pc = some (.laload, nx)) (ha : xget h a = some (.inl (b, .long, n, .inr (.inl f)))) (hin : vp_in i n) (k : xV D N0 M d nx lv (.long (f i.toNatClampNeg) :: r) h Q) : xV D N0 M d pc lv (.int i :: .ref a :: r) h Q := by
  intro p l e R s m args below meth c H locs cells slots ls C hH hR hL
  obtain ⟨len, tg, cv, wi, hk⟩ := xon_spec C.2.2.2.2.2.2.2.2.2.2.2.2.1 hq
  obtain ⟨hd, rfl, hi⟩ := xchk_dec hk
  obtain rfl := Nat.eq_of_beq_eq_true hi
  obtain ⟨cA, h1, h2, -⟩ := (hH.2.1 a _ ha).1
  exact W.lald (v := .long (f i.toNatClampNeg)) C.1 C.2.1 h1 (h2 n (fun j => .long (f j))) (fun q => by cases q) (xin_size hin cA _) (by show (arrV _ _ _).slots[_]? = _; rw [arrV_read _ _ (xin_lt hin)]) rfl rfl hd (k p l e R s m args below meth c H locs cells slots ls C hH hR hL)
theorem xV.aald {a n nx : Nat} {b : Bool} {E : String} {f : Nat → Option Nat} {i : Int32} {r : List Value} (hq : xon M pc = some (.aaload, nx)) (ha : xget h a = some (.inl (b, .object E, n, .inr (.inr (.inr (.inr f)))))) (hin : vp_in i n) (k : xV D N0 M d nx lv (va_rf (f i.toNatClampNeg) :: r) h Q) : xV D N0 M d pc lv (.int i :: .ref a :: r) h Q := by
  intro p l e R s m args below meth c H locs cells slots ls C hH hR hL
  obtain ⟨len, tg, cv, wi, hk⟩ := xon_spec C.2.2.2.2.2.2.2.2.2.2.2.2.1 hq
  obtain ⟨hd, rfl, hi⟩ := xchk_dec hk
  obtain rfl := Nat.eq_of_beq_eq_true hi
  obtain ⟨cA, h1, h2, -⟩ := (hH.2.1 a _ ha).1
  exact W.aald (v := va_rf (f i.toNatClampNeg)) (ty := .object E) C.1 C.2.1 h1 (h2 n (fun j => va_rf (f j))) rfl (fun q => by cases q) (xin_size hin cA _) (by show (arrV _ _ _).slots[_]? = _; rw [arrV_read _ _ (xin_lt hin)]) rfl rfl hd (k p l e R s m args below meth c H locs cells slots ls C hH hR hL)
theorem xupd_int (f : Nat → Int32) (j : Nat) (x : Int32) : updV (fun k => Value.int (f k)) j (.int x) = fun k => Value.int (upd f j x k) := by
  funext q
  by_cases hq : q = j
  · subst hq; simp [updV, upd]
  · simp [updV, upd, hq]
theorem xupd_long (f : Nat → Int64) (j : Nat) (x : Int64) : updV (fun k => Value.long (f k)) j (.long x) = fun k => Value.long (vp_updL f j x k) := by
  funext q
  by_cases hq : q = j
  · subst hq; simp [updV, vp_updL]
  · simp [updV, vp_updL, hq]
theorem xupd_ref (f : Nat → Option Nat) (j : Nat) (x : Option Nat) : updV (fun k => va_rf (f k)) j (va_rf x) = fun k => va_rf (va_up f j x k) := by
  funext q
  by_cases hq : q = j
  · subst hq; simp [updV, va_up]
  · simp [updV, va_up, hq]
theorem xV.iast {a n nx : Nat} {f : Nat → Int32} {i x : Int32} {r : List Value} (hq : xon M pc = some (.iastore, nx)) (ha : xget h a = some (.inl (false, .int, n, .inl f))) (hin : vp_in i n) (k : xV D N0 M d nx lv r (xput h a (.inl (false, .int, n, .inl (upd f i.toNatClampNeg x)))) Q) : xV D N0 M d pc lv (.int x :: .int i :: .ref a :: r) h Q := by
  intro p l e R s m args below meth c H locs cells slots ls C hH hR hL
  obtain ⟨len, tg, cv, wi, hk⟩ := xon_spec C.2.2.2.2.2.2.2.2.2.2.2.2.1 hq
  obtain ⟨hd, rfl, hi⟩ := xchk_dec hk
  obtain rfl := Nat.eq_of_beq_eq_true hi
  obtain ⟨⟨cA, h1, h2, h3⟩, hN⟩ := hH.2.1 a _ ha
  have hN : N0 ≤ a := hN rfl
  refine W.iast C.1 C.2.1 h1 (h2 n (fun j => .int (f j))) (fun q => by cases q) (xin_size hin cA _) rfl rfl hd fun H1 e1 z oq => ?_
  refine k p l e R s m args below meth c H1 _ cells slots ls C (hH.put z oq ⟨cA, ?_, h2, h3⟩ hN) (hR.put rfl rfl hN) hL
  rw [e1]
  simp only [vp_cell_i, arrV_store, xupd_int]
theorem xV.zast {a n nx : Nat} {f : Nat → Int32} {i x : Int32} {r : List Value} (hq : xon M pc = some (.bastore, nx)) (ha : xget h a = some (.inl (false, .boolean, n, .inl f))) (hin : vp_in i n) (hx : narrow .boolean (.int x) = .int x) (k : xV D N0 M d nx lv r (xput h a (.inl (false, .boolean, n, .inl (upd f i.toNatClampNeg x)))) Q) : xV D N0 M d pc lv (.int x :: .int i :: .ref a :: r) h Q := by
  intro p l e R s m args below meth c H locs cells slots ls C hH hR hL
  obtain ⟨len, tg, cv, wi, hk⟩ := xon_spec C.2.2.2.2.2.2.2.2.2.2.2.2.1 hq
  obtain ⟨hd, rfl, hi⟩ := xchk_dec hk
  obtain rfl := Nat.eq_of_beq_eq_true hi
  obtain ⟨⟨cA, h1, h2, h3⟩, hN⟩ := hH.2.1 a _ ha
  have hN : N0 ≤ a := hN rfl
  refine W.zast C.1 C.2.1 h1 (h2 n (fun j => .int (f j))) (fun q => by cases q) (xin_size hin cA _) rfl rfl hd fun H1 e1 z oq => ?_
  refine k p l e R s m args below meth c H1 _ cells slots ls C (hH.put z oq ⟨cA, ?_, h2, h3⟩ hN) (hR.put rfl rfl hN) hL
  rw [e1, hx]
  simp only [vp_cell_i, arrV_store, xupd_int]
theorem xV.last {a n nx : Nat} {f : Nat → Int64} {i : Int32} {x : Int64} {r : List Value} (hq : xon M pc = some (.lastore, nx)) (ha : xget h a = some (.inl (false, .long, n, .inr (.inl f)))) (hin : vp_in i n) (k : xV D N0 M d nx lv r (xput h a (.inl (false, .long, n, .inr (.inl (vp_updL f i.toNatClampNeg x))))) Q) : xV D N0 M d pc lv (.long x :: .int i :: .ref a :: r) h Q := by
  intro p l e R s m args below meth c H locs cells slots ls C hH hR hL
  obtain ⟨len, tg, cv, wi, hk⟩ := xon_spec C.2.2.2.2.2.2.2.2.2.2.2.2.1 hq
  obtain ⟨hd, rfl, hi⟩ := xchk_dec hk
  obtain rfl := Nat.eq_of_beq_eq_true hi
  obtain ⟨⟨cA, h1, h2, h3⟩, hN⟩ := hH.2.1 a _ ha
  have hN : N0 ≤ a := hN rfl
  refine W.last C.1 C.2.1 h1 (h2 n (fun j => .long (f j))) (fun q => by cases q) (xin_size hin cA _) rfl rfl hd fun H1 e1 z oq => ?_
  refine k p l e R s m args below meth c H1 _ cells slots ls C (hH.put z oq ⟨cA, ?_, h2, h3⟩ hN) (hR.put rfl rfl hN) hL
  rw [e1]
  simp only [vp_cell_l, arrV_store, xupd_long]
theorem xRm.new {R : Room} {locs : List Loc} {cells slots n : Nat} {c : XC} (hR : xRm N0 R h locs cells slots) (h1 : h.2.1 + 1 ≤ xCmax) (h2 : h.2.2.1 + n ≤ xSmax) : cells + 1 ≤ R.cells ∧ slots + n ≤ R.slots ∧ xRm N0 R (xnew h c n) locs (cells + 1) (slots + n) := by
  obtain ⟨r1, r2, r3, r4, r5⟩ := hR
  refine ⟨by omega, by omega, r1, by omega, by omega, ?_, ?_⟩
  · show xCmax + (cells + 1) ≤ R.cells + (h.2.1 + 1)
    omega
  · show xSmax + (slots + n) ≤ R.slots + (h.2.2.1 + n)
    omega
end X8
end
section
/- Part 09: new objects and arrays, calls. -/
def xsp : Nat → List Value → List Value → Option (List Value × List Value)
  | 0, st, acc => some (acc, st)
  | n + 1, v :: st, acc => xsp n st (v :: acc)
  | _ + 1, [], _ => none
theorem xsp_gen (n : Nat) : ∀ (st acc as rest : List Value), xsp n st acc = some (as, rest) → acc.reverse ++ st = as.reverse ++ rest ∧ as.length = n + acc.length := by
  induction n with
  | zero =>
    intro st acc as rest h
    simp only [xsp, Option.some.injEq, Prod.mk.injEq] at h
    obtain ⟨rfl, rfl⟩ := h
    exact ⟨rfl, by omega⟩
  | succ n ih =>
    intro st acc as rest h
    cases st with
    | nil => cases h
    | cons v t =>
      obtain ⟨h1, h2⟩ := ih t (v :: acc) as rest h
      refine ⟨?_, by rw [h2, List.length_cons]; omega⟩
      rw [← h1]; simp
theorem xsp_spec {n : Nat} {st as rest : List Value} (h : xsp n st [] = some (as, rest)) : st = as.reverse ++ rest ∧ as.length = n := by
  obtain ⟨h1, h2⟩ := xsp_gen n st [] as rest h
  exact ⟨by simpa using h1, by simpa using h2⟩
def xnp (y : MethodName) (n : Nat) : Bool := decide ((parseMethodDescriptor y.desc).map (fun g => g.parameters.length) = some n) && decide (y.cls ≠ "java/lang/invoke/MethodHandle" ∧ y.cls ≠ "java/lang/invoke/VarHandle")
def xcs (M M2 : XM) (idx n : Nat) : Prop := xW (.methodLink M.1.cls idx M2.1) ∧ xW (.static M2.1) ∧ xW (.initialized M2.1.cls) ∧ xW (xcw M2) ∧ xnp M2.1 n = true
def xcv (C : String) (M M2 : XM) (idx n : Nat) : Prop := xW (.methodLink M.1.cls idx M2.1) ∧ xW (.instanceMethod M2.1) ∧ xW (.selects C M2.1 M2.1) ∧ xW (xcw M2) ∧ xnp M2.1 n = true
def xci (M M2 : XM) (idx n : Nat) : Prop := xW (.methodLink M.1.cls idx M2.1) ∧ xW (.instanceMethod M2.1) ∧ xW (.code M2.1 M2.2.1 M2.2.2.1 none) ∧ (M2.2.2.2.1 = none ∧ M2.2.2.2.2.1 = [] ∧ M2.1.name = "<init>") ∧ xnp M2.1 n = true
theorem xnp_spec {y : MethodName} {n : Nat} (h : xnp y n = true) : (∀ sig, parseMethodDescriptor y.desc = some sig → n = sig.parameters.length) ∧ (y.cls ≠ "java/lang/invoke/MethodHandle" ∧ y.cls ≠ "java/lang/invoke/VarHandle") := by
  unfold xnp at h
  rw [Bool.and_eq_true] at h
  have h1 := of_decide_eq_true h.1
  refine ⟨fun sig hs => ?_, of_decide_eq_true h.2⟩
  rw [hs] at h1
  exact (Option.some.inj h1).symm
section X9
variable {D : va_G} {N0 : Nat} {M : XM} {d pc : Nat} {lv : XL} {st : List Value} {h : XH} {Q : Outcome → XH → Prop}
theorem xV.newa {at0 : ArrayType} {ty : FieldType} {n : Int32} {N nx : Nat} {A0 : vp_A} {r : List Value} (hq : xon M pc = some (.newarray at0, nx)) (hty : newarray.typeOf at0 = ty) (hw : xW (.arrayClass ty)) (hA : ∀ cA : ClassId, vp_cell cA A0 = arrV cA N (fun _ => defaultValue ty)) (hra : ∀ (U : State) (cA : ClassId), U.vm.findClass ("[" ++ ty.toString) = some cA → va_RA U cA ty)
    (hn : ¬ n < 0) (hN : n.toNatClampNeg = N) (hb : N * componentBytes ty ≤ 536870912) (hc1 : h.2.1 + 1 ≤ xCmax) (hc2 : h.2.2.1 + N ≤ xSmax) (k : xV D N0 M d nx lv (.ref h.1 :: r) (xnew h (.inl (false, ty, A0)) N) Q) : xV D N0 M d pc lv (.int n :: r) h Q := by
  intro p l e R s m args below meth c H locs cells slots ls C hH hR hL
  obtain ⟨len, tg, cv, wi, hk⟩ := xon_spec C.2.2.2.2.2.2.2.2.2.2.2.2.1 hq
  obtain ⟨hd, rfl, hi⟩ := xchk_dec hk
  obtain rfl := Nat.eq_of_beq_eq_true hi
  subst hty
  obtain ⟨r1, r2, r3⟩ := hR.new (c := .inl (false, newarray.typeOf at0, A0)) hc1 hc2
  refine va_newaK C.1 C.2.1 (C.2.2.2.2.2.2.2.2.1 _ hw args) rfl hd rfl hn hN hb r1 r2 hH.1 fun H1 cA e1 z1 o1 hAr hNm => ?_
  refine k p l e R s m args below meth c H1 locs _ _ ls C (hH.push (by rw [z1, hH.1]) (fun q hq => o1 q (by rw [← hH.1]; exact hq)) ⟨cA, ?_, hAr, hra s cA hNm⟩) r3 hL
  rw [e1, hA]
theorem xV.callS {M2 : XM} {idx nx n : Nat} {as rest : List Value} {Q2 : Outcome → XH → Prop} (hq : xon M pc = some (.invokestatic idx, nx)) (hst : xsp n st [] = some (as, rest)) (hw : xcs M M2 idx n) (hok2 : xOK M2 = true) (hsz : (lg_sl as).length ≤ M2.2.2.1) (hcat : (rest.map fun v => v.category).sum + (M2.2.2.1 + 11) ≤ 64)
    (hcon : xV D N0 M2 d 0 (xargs M2.2.2.1 as) [] h Q2) (kr : ∀ v u, Q2 (.returned v) u → xV D N0 M (d + 1) nx lv (v.toList ++ rest) u Q) (kt : ∀ a u, Q2 (.threw a) u → xT D N0 M (d + 1) pc lv a u Q) : xV D N0 M (d + 1) pc lv st h Q := by
  intro p l e R s m args below meth c H locs cells slots ls C hH hR hL T hT X
  obtain ⟨len, tg, cv, wi, hk⟩ := xon_spec C.2.2.2.2.2.2.2.2.2.2.2.2.1 hq
  obtain ⟨hd, hnx, hi⟩ := xchk_dec hk
  obtain rfl := Nat.eq_of_beq_eq_true hi
  obtain ⟨rfl, hlen⟩ := xsp_spec hst
  subst hT
  obtain ⟨w1, w2, w3, w4, w6⟩ := hw
  have hWS := C.2.2.2.2.2.2.2.2.1
  obtain ⟨mk, methk, ck, hI⟩ := xIs_of (hWS _ w4 args)
  obtain ⟨p1, p2⟩ := xnp_spec w6
  have hstat : methk.isStatic = true := Cond.static_spec hI.1 hI.2.1 (hWS _ w2 args)
  obtain ⟨kP, hkP, -⟩ := className_of_methodNamed hI.1
  have hinitP : kP.init = .initialized := Cond.initialized_spec (findClass_of_methodNamed hI.1) hkP (hWS _ w3 args)
  have hd' : decode c.code pc = .ok (.invokestatic idx, 3) := by rw [C.2.1]; exact hd
  obtain ⟨vm₁, X₁, hstep⟩ := X.invokestatic C.1 C.2.2.2.2.2.2.2.1 (hWS _ w1 args) hI.1 hI.2.1 hstat hkP hinitP p2 (g := F0 m pc ls (as.reverse ++ rest)) rfl (argsL := as) (rest := rest) (hlen.trans (p1 _ hI.2.2.2.2.2.2.2.2.2)) rfl hd'
  obtain ⟨t, h1, h2⟩ := xcallW (T := T.setVm vm₁) hcon kr kt hok2 hsz hcat C hH hR hL X₁ hd' hnx hI
  exact ⟨t, hstep t (fun acts => by rw [doInvoke_state]; exact h1), h2⟩
theorem xV.callV {M2 : XM} {idx nx n b ci : Nat} {q : vw_C} {fs as rest : List Value} {Q2 : Outcome → XH → Prop} (hq : xon M pc = some (.invokevirtual idx, nx)) (hst : xsp (n + 1) st [] = some (.ref b :: as, rest)) (hb : xget h b = some (.inr (ci, fs))) (hc : xcl[ci]? = some q) (hw : xcv q.1 M M2 idx n) (hok2 : xOK M2 = true) (hsz : (lg_sl (.ref b :: as)).length ≤ M2.2.2.1) (hcat : (rest.map fun v => v.category).sum + (M2.2.2.1 + 11) ≤ 64)
    (hcon : xV D N0 M2 d 0 (xargs M2.2.2.1 (.ref b :: as)) [] h Q2) (kr : ∀ v u, Q2 (.returned v) u → xV D N0 M (d + 1) nx lv (v.toList ++ rest) u Q) (kt : ∀ a u, Q2 (.threw a) u → xT D N0 M (d + 1) pc lv a u Q) : xV D N0 M (d + 1) pc lv st h Q := by
  intro p l e R s m args below meth c H locs cells slots ls C hH hR hL T hT X
  obtain ⟨len, tg, cv, wi, hk⟩ := xon_spec C.2.2.2.2.2.2.2.2.2.2.2.2.1 hq
  obtain ⟨hd, hnx, hi⟩ := xchk_dec hk
  obtain rfl := Nat.eq_of_beq_eq_true hi
  obtain ⟨rfl, hlen⟩ := xsp_spec hst
  subst hT
  obtain ⟨w1, w2, w3, w4, w6⟩ := hw
  have hWS := C.2.2.2.2.2.2.2.2.1
  have hKn := C.2.2.2.2.2.2.2.2.2.1
  obtain ⟨mk, methk, ck, hI⟩ := xIs_of (hWS _ w4 args)
  obtain ⟨p1, p2⟩ := xnp_spec w6
  obtain ⟨mk', methM, hnamed, hmethM, hstM, habM⟩ := Cond.instanceMethod_spec (hWS _ w2 args)
  cases hI.1.symm.trans hnamed
  cases hI.2.1.symm.trans hmethM
  obtain ⟨r1, g1, cell, g2, g3, g4, -⟩ := (hH.2.1 b _ hb).1
  have hcls : s.vm.findClass q.1 = some cell.cls := by rw [g3]; exact (hKn.1 ci q hc).2.1
  have hobj : cell.vm.isStatics = false := by rw [g4]; rfl
  obtain ⟨c2, r2, m2, q1, q2, q3, q4, kP, hkP, hkPi⟩ := Cond.selects_spec (hWS _ w3 args)
  cases hcls.symm.trans q1
  cases (State.methodFound?_of_named hnamed p2).symm.trans q2
  cases hnamed.symm.trans q3
  have hselP : selectMethod e.platform s.vm cell.cls mk = .method mk := by rw [Launch.admits_selectMethod X.admits]; exact q4
  have hd' : decode c.code pc = .ok (.invokevirtual idx, 3) := by rw [C.2.1]; exact hd
  obtain ⟨vm₁, X₁, hstep⟩ := X.invokevirtual C.1 C.2.2.2.2.2.2.2.1 (hWS _ w1 args) hnamed hmethM hstM hkP hkPi p2 (a := b) (cell := cell) g2
    (fun z h => by rw [h] at hobj; cases hobj) hselP hmethM habM hkP hkPi (g := F0 m pc ls ((Value.ref b :: as).reverse ++ rest)) rfl (argsL := as) (rest := rest) ((Nat.succ.inj (by simpa using hlen)).trans (p1 _ hI.2.2.2.2.2.2.2.2.2)) (by simp) hd'
  obtain ⟨t, h1, h2⟩ := xcallW (T := T.setVm vm₁) hcon kr kt hok2 hsz hcat C hH hR hL X₁ hd' hnx hI
  exact ⟨t, hstep t (fun acts => by rw [doInvoke_state]; exact h1), h2⟩
theorem xV.callI {M2 : XM} {idx nx n b : Nat} {as rest : List Value} {Q2 : Outcome → XH → Prop} (hq : xon M pc = some (.invokespecial idx, nx)) (hst : xsp (n + 1) st [] = some (.ref b :: as, rest)) (hw : xci M M2 idx n) (hok2 : xOK M2 = true) (hsz : (lg_sl (.ref b :: as)).length ≤ M2.2.2.1) (hcat : (rest.map fun v => v.category).sum + (M2.2.2.1 + 11) ≤ 64)
    (hcon : xV D N0 M2 d 0 (xargs M2.2.2.1 (.ref b :: as)) [] h Q2) (kr : ∀ v u, Q2 (.returned v) u → xV D N0 M (d + 1) nx lv (v.toList ++ rest) u Q) (kt : ∀ a u, Q2 (.threw a) u → xT D N0 M (d + 1) pc lv a u Q) : xV D N0 M (d + 1) pc lv st h Q := by
  intro p l e R s m args below meth c H locs cells slots ls C hH hR hL T hT X
  obtain ⟨len, tg, cv, wi, hk⟩ := xon_spec C.2.2.2.2.2.2.2.2.2.2.2.2.1 hq
  obtain ⟨hd, hnx, hi⟩ := xchk_dec hk
  obtain rfl := Nat.eq_of_beq_eq_true hi
  obtain ⟨rfl, hlen⟩ := xsp_spec hst
  subst hT
  obtain ⟨w1, w2, w4, ⟨v1, v2, v3⟩, w6⟩ := hw
  have hWS := C.2.2.2.2.2.2.2.2.1
  have hcw : xcw M2 = .code M2.1 M2.2.1 M2.2.2.1 none := by unfold xcw; rw [v2, v1]
  obtain ⟨mk, methk, ck, hI⟩ := xIs_of (M := M2) (by rw [hcw]; exact hWS _ w4 args)
  obtain ⟨p1, p2⟩ := xnp_spec w6
  have hpl : e.platform.magicAccessors = ({} : Platform).magicAccessors := by rw [X.admits.platform]
  have hd' : decode c.code pc = .ok (.invokespecial idx, 3) := by rw [C.2.1]; exact hd
  obtain ⟨mk', methM, cM, kP, vm₁, hnamed, hmethM, hcodeM, -, hlocalsM, -, hkP, -, hW₁, hstep⟩ := Steps.initColdArgs (e := e) X.here C.1 X.warmed hpl C.2.2.2.2.2.2.2.1 v3 p2 (hWS _ w1 args) (hWS _ w2 args) (hWS _ w4 args) (f := F0 m pc ls ((Value.ref b :: as).reverse ++ rest)) rfl (a := b) (argsL := as) (rest := rest) (fun sig hs => (Nat.succ.inj (by simpa using hlen)).trans (p1 sig hs)) (by simp) hd'
  cases hI.1.symm.trans hnamed
  have X₁ := X.noted hW₁
  obtain ⟨t, h1, h2⟩ := xcallW (T := T.setVm vm₁) hcon kr kt hok2 hsz hcat C hH hR hL X₁ hd' hnx hI
  exact ⟨t, hstep t (fun acts => by rw [doInvoke_state]; exact h1), h2⟩
theorem xV.obj {idx nx b : Nat} {r : List Value} (hq : xon M pc = some (.invokespecial idx, nx)) (hw : xW (.methodLink M.1.cls idx Lib.objectInit) ∧ xW (.instanceMethod Lib.objectInit) ∧ xW (.code Lib.objectInit ⟨#[0xb1]⟩ 1 none)) (hcat : (r.map fun v => v.category).sum + 12 ≤ 64) (k : xV D N0 M (d + 1) nx lv r h Q) : xV D N0 M (d + 1) pc lv (.ref b :: r) h Q := by
  intro p l e R s m args below meth c H locs cells slots ls C hH hR hL
  obtain ⟨len, tg, cv, wi, hk⟩ := xon_spec C.2.2.2.2.2.2.2.2.2.2.2.2.1 hq
  obtain ⟨hd, rfl, hi⟩ := xchk_dec hk
  obtain rfl := Nat.eq_of_beq_eq_true hi
  obtain ⟨w1, w2, w3⟩ := hw
  have hWS := C.2.2.2.2.2.2.2.2.1
  have c11 := C.2.2.2.2.2.2.2.2.2.2.1
  have c12 := C.2.2.2.2.2.2.2.2.2.2.2.1
  exact W.objInit C.1 C.2.1 C.2.2.2.2.2.2.2.1 (hWS _ w1 args) (hWS _ w2 args) (hWS _ w3 args) rfl (by show ls.size = c.maxLocals; rw [C.2.2.1]; exact hL.2.1) rfl hd (by omega) (by show 2 * 0 + _ + 12 ≤ R.locals; omega) (k p l e R s m args below meth c H locs cells slots ls C hH hR hL)
end X9
end
section
/- Part 11b: new objects, division, switches, casts, arrays of references, constructors of nest mates. -/
section X11
variable {D : va_G} {N0 : Nat} {M : XM} {d pc : Nat} {lv : XL} {st : List Value} {h : XH} {Q : Outcome → XH → Prop}
theorem xhts {s : State} (hcl : xclOK = true) (hWS : xWS s) {ci : Nat} {q : vw_C} (hc : xcl[ci]? = some q) (args : Array Value) : ∀ w ∈ u_ws q.1 q.2.1 q.2.2, w.before args s = true := fun w hw => by
  obtain ⟨j, hj, rfl⟩ := List.mem_map.mp hw
  exact hWS _ (xcl1_k (xcl1_of hcl hc) (List.mem_range.mp hj)).1 args
def xdf (ci : Nat) : List Value := (xct ci).map defaultValue
theorem xV.new (hcl : xclOK = true) {idx nx ci : Nat} {q : vw_C} (hq : xon M pc = some (.new idx, nx)) (hc : xcl[ci]? = some q) (hw : xW (.classLink M.1.cls idx q.1) ∧ xW (.instantiable q.1 q.2.2) ∧ xW (.initialized q.1))
    (hc1 : h.2.1 + 1 ≤ xCmax) (hc2 : h.2.2.1 + q.2.2 ≤ xSmax) (k : xV D N0 M d nx lv (.ref h.1 :: st) (xnew h (.inr (ci, xdf ci)) q.2.2) Q) : xV D N0 M d pc lv st h Q := by
  intro p l e R s m args below meth c H locs cells slots ls C hH hR hL
  obtain ⟨len, tg, cv, wi, hk⟩ := xon_spec C.2.2.2.2.2.2.2.2.2.2.2.2.1 hq
  obtain ⟨hd, rfl, hi⟩ := xchk_dec hk
  obtain rfl := Nat.eq_of_beq_eq_true hi
  have hWS := C.2.2.2.2.2.2.2.2.1
  have hKn := C.2.2.2.2.2.2.2.2.2.1.1 ci q hc
  have hok := xcl1_of hcl hc
  obtain ⟨r1, r2, r3⟩ := hR.new (c := .inr (ci, xdf ci)) hc1 hc2
  refine W.newcK C.1 C.2.1 C.2.2.2.2.2.2.2.1 (hWS _ hw.1 args) (hWS _ hw.2.1 args) (hWS _ hw.2.2 args) rfl hd r1 r2 hKn.2.1 hH.1 fun H1 kC hkC e1 z1 o1 => ?_
  refine k p l e R s m args below meth c H1 locs _ _ ls C (hH.push (by rw [z1, hH.1]) (fun q hq => o1 q (by rw [← hH.1]; exact hq)) ⟨q, hc, ?_⟩) r3 hL
  refine (u_born (fun j => (xct ci).getD j .int) (xhts hcl hWS hc args) (fun w h => h) hKn hkC e1 (fun j hj => ?_)).to (fun j hj => ?_)
  · obtain ⟨-, g3, hlt, -⟩ := xcl1_k hok hj
    rw [g3]
    simp [List.getD_eq_getElem?_getD, hlt]
  · obtain ⟨-, -, hlt, -⟩ := xcl1_k hok hj
    simp [vp_V, xdf, List.getD_eq_getElem?_getD, hlt]
theorem xV.ldiv {nx : Nat} {x y : Int64} {r : List Value} (hq : xon M pc = some (.ldiv, nx)) (hy : ¬ y = 0) (k : xV D N0 M d nx lv (.long (x / y) :: r) h Q) : xV D N0 M d pc lv (.long y :: .long x :: r) h Q := by
  intro p l e R s m args below meth c H locs cells slots ls C hH hR hL
  obtain ⟨len, tg, cv, wi, hk⟩ := xon_spec C.2.2.2.2.2.2.2.2.2.2.2.2.1 hq
  obtain ⟨hd, rfl, hi⟩ := xchk_dec hk
  obtain rfl := Nat.eq_of_beq_eq_true hi
  exact lv_ldiv C.1 C.2.1 hd hy (k p l e R s m args below meth c H locs cells slots ls C hH hR hL)
theorem xV.tIn {nx tgt : Nat} {dflt lo hi off : Int} {offs : Array Int} {x : Int32} {r : List Value} (hq : xon M pc = some (.tableswitch dflt lo hi offs, nx)) (h1 : ¬ x.toInt < lo) (h2 : ¬ hi < x.toInt) (ho : offs[(x.toInt - lo).toNat]? = some off) (ht : (pc : Int) + off = (tgt : Int)) (k : xV D N0 M d tgt lv r h Q) : xV D N0 M d pc lv (.int x :: r) h Q := by
  intro p l e R s m args below meth c H locs cells slots ls C hH hR hL
  obtain ⟨len, tg, cv, wi, hk⟩ := xon_spec C.2.2.2.2.2.2.2.2.2.2.2.2.1 hq
  obtain ⟨hd, -, hi⟩ := xchk_dec hk
  exact lv_tableIn C.1 C.2.1 hd h1 h2 ho ht (k p l e R s m args below meth c H locs cells slots ls C hH hR hL)
theorem xV.tOut {nx tgt : Nat} {dflt lo hi : Int} {offs : Array Int} {x : Int32} {r : List Value} (hq : xon M pc = some (.tableswitch dflt lo hi offs, nx)) (h1 : x.toInt < lo ∨ hi < x.toInt) (ht : (pc : Int) + dflt = (tgt : Int)) (k : xV D N0 M d tgt lv r h Q) : xV D N0 M d pc lv (.int x :: r) h Q := by
  intro p l e R s m args below meth c H locs cells slots ls C hH hR hL
  obtain ⟨len, tg, cv, wi, hk⟩ := xon_spec C.2.2.2.2.2.2.2.2.2.2.2.2.1 hq
  obtain ⟨hd, -, hi⟩ := xchk_dec hk
  exact lv_tableOut C.1 C.2.1 hd h1 ht (k p l e R s m args below meth c H locs cells slots ls C hH hR hL)
theorem xV.cast {idx nx a ci : Nat} {q : vw_C} {nm : String} {fs r : List Value} (hq : xon M pc = some (.checkcast idx, nx)) (ha : xget h a = some (.inr (ci, fs))) (hc : xcl[ci]? = some q) (hw : xW (.classLink M.1.cls idx nm) ∧ xW (.castable q.1 nm)) (k : xV D N0 M d nx lv (.ref a :: r) h Q) : xV D N0 M d pc lv (.ref a :: r) h Q := by
  intro p l e R s m args below meth c H locs cells slots ls C hH hR hL
  obtain ⟨len, tg, cv, wi, hk⟩ := xon_spec C.2.2.2.2.2.2.2.2.2.2.2.2.1 hq
  obtain ⟨hd, rfl, hi⟩ := xchk_dec hk
  obtain rfl := Nat.eq_of_beq_eq_true hi
  have hWS := C.2.2.2.2.2.2.2.2.1
  obtain ⟨r1, g1, cell, g2, g3, g4, -⟩ := (hH.2.1 a _ ha).1
  exact va_castY C.1 C.2.1 C.2.2.2.2.2.2.2.1 (hWS _ hw.1 args) (hWS _ hw.2 #[]) ⟨cell, g2, by rw [g4]; rfl, by rw [g3]; exact (C.2.2.2.2.2.2.2.2.2.1.1 ci q hc).2.1⟩ hd (k p l e R s m args below meth c H locs cells slots ls C hH hR hL)
theorem xV.aast {a n nx v ci : Nat} {E : String} {q : vw_C} {vs : List Value} {f : Nat → Option Nat} {i : Int32} {r : List Value} (hq : xon M pc = some (.aastore, nx)) (ha : xget h a = some (.inl (false, .object E, n, .inr (.inr (.inr (.inr f)))))) (hv : xget h v = some (.inr (ci, vs))) (hc : xcl[ci]? = some q) (hw : xW (.castable q.1 E)) (hin : vp_in i n)
    (k : xV D N0 M d nx lv r (xput h a (.inl (false, .object E, n, .inr (.inr (.inr (.inr (va_up f i.toNatClampNeg (some v)))))))) Q) : xV D N0 M d pc lv (.ref v :: .int i :: .ref a :: r) h Q := by
  intro p l e R s m args below meth c H locs cells slots ls C hH hR hL
  obtain ⟨len, tg, cv, wi, hk⟩ := xon_spec C.2.2.2.2.2.2.2.2.2.2.2.2.1 hq
  obtain ⟨hd, rfl, hi⟩ := xchk_dec hk
  obtain rfl := Nat.eq_of_beq_eq_true hi
  have hWS := C.2.2.2.2.2.2.2.2.1
  obtain ⟨⟨cA, h1, h2, h3⟩, hN⟩ := hH.2.1 a _ ha
  have hN : N0 ≤ a := hN rfl
  obtain ⟨r1, g0, cell, g1, g2, g3, -⟩ := (hH.2.1 v _ hv).1
  have hcls := (C.2.2.2.2.2.2.2.2.2.1.1 ci q hc).2
  obtain ⟨kA, comp, k1, k2, k3, k4⟩ := id h3
  obtain ⟨kE, hkE, -⟩ := Vm.findClass_spec k3
  obtain ⟨c0, t1, f1, f2, f3⟩ := Cond.castable_spec (hWS _ hw args)
  cases hcls.1.symm.trans f1
  cases k3.symm.trans f2
  obtain ⟨kC, hkC, -⟩ := hcls.2
  refine W.aast C.1 C.2.1 h1 (fun q h => by cases h) (fun h => by cases h) k1 k2 rfl hkE ⟨fun z => hin (Or.inl z), by show _ < (arrV _ _ _).slots.size; rw [arrV_size]; exact xin_lt hin⟩ g1 (fun q h => by rw [g3] at h; cases h) (by rw [g2]; exact hkC) (by rw [g2]; exact f3) rfl rfl hd fun H1 e1 z oq => ?_
  refine k p l e R s m args below meth c H1 _ cells slots ls C (hH.put z oq ⟨cA, ?_, h2, h3⟩ hN) (hR.put rfl rfl hN) hL
  rw [e1]
  simp only [vp_cell_q, arrV_store]
  rw [show Value.ref v = va_rf (some v) from rfl, xupd_ref]
theorem xV.anew {idx nx N : Nat} {E : String} {n : Int32} {r : List Value} (hq : xon M pc = some (.anewarray idx, nx)) (hw : xW (.classLink M.1.cls idx E) ∧ xW (.arrayOver (.object E))) (hn : ¬ n < 0) (hN : n.toNatClampNeg = N) (hb : N * 4 ≤ 536870912) (hc1 : h.2.1 + 1 ≤ xCmax) (hc2 : h.2.2.1 + N ≤ xSmax)
    (k : xV D N0 M d nx lv (.ref h.1 :: r) (xnew h (.inl (false, .object E, N, .inr (.inr (.inr (.inr (fun _ => none)))))) N) Q) : xV D N0 M d pc lv (.int n :: r) h Q := by
  intro p l e R s m args below meth c H locs cells slots ls C hH hR hL
  obtain ⟨len, tg, cv, wi, hk⟩ := xon_spec C.2.2.2.2.2.2.2.2.2.2.2.2.1 hq
  obtain ⟨hd, rfl, hi⟩ := xchk_dec hk
  obtain rfl := Nat.eq_of_beq_eq_true hi
  have hWS := C.2.2.2.2.2.2.2.2.1
  subst hN
  obtain ⟨r1, r2, r3⟩ := hR.new (c := .inl (false, .object E, n.toNatClampNeg, .inr (.inr (.inr (.inr (fun _ => none)))))) hc1 hc2
  refine W.anew C.1 C.2.1 C.2.2.2.2.2.2.2.1 (hWS _ hw.1 args) (hWS _ hw.2 args) rfl hd rfl hn hb r1 r2 fun cA kA comp f1 f2 f3 f4 => ?_
  generalize hH1 : H.push ({ cls := cA, slots := Array.replicate n.toNatClampNeg .null, vm := .none } : Cell) = H1
  have z1 : H1.size = H.size + 1 := by rw [← hH1, Array.size_push]
  have e1 : H1[H.size]? = some (arrV cA n.toNatClampNeg (fun _ => .null)) := by rw [← hH1, Array.getElem?_push_size, ← arrV_new]
  have o1 : ∀ q : Nat, q < H.size → H1[q]? = H[q]? := fun q hq => by rw [← hH1, Array.getElem?_push, if_neg (Nat.ne_of_lt hq)]
  have kk := k p l e R s m args below meth c H1 locs _ _ ls C (hH.push z1 o1 ⟨cA, (by rw [← hH.1]; exact e1), fun N z => ⟨(fun k h => by cases h), kA, f2, comp, f3⟩, kA, comp, f2, f3, f4, f1⟩) r3 hL
  rw [hH.1]
  exact kk
theorem xV.callN {M2 : XM} {idx nx n b : Nat} {host : String} {as rest : List Value} {Q2 : Outcome → XH → Prop} (hq : xon M pc = some (.invokespecial idx, nx)) (hst : xsp (n + 1) st [] = some (.ref b :: as, rest)) (hw : xW (.methodLinkNest M.1.cls idx M2.1 host) ∧ xW (.instanceMethod M2.1) ∧ xW (.code M2.1 M2.2.1 M2.2.2.1 none) ∧ (M2.2.2.2.1 = none ∧ M2.2.2.2.2.1 = [] ∧ M2.1.name = "<init>") ∧ xnp M2.1 n = true) (hok2 : xOK M2 = true) (hsz : (lg_sl (.ref b :: as)).length ≤ M2.2.2.1) (hcat : (rest.map fun v => v.category).sum + (M2.2.2.1 + 11) ≤ 64)
    (hcon : xV D N0 M2 d 0 (xargs M2.2.2.1 (.ref b :: as)) [] h Q2) (kr : ∀ v u, Q2 (.returned v) u → xV D N0 M (d + 1) nx lv (v.toList ++ rest) u Q) (kt : ∀ a u, Q2 (.threw a) u → xT D N0 M (d + 1) pc lv a u Q) : xV D N0 M (d + 1) pc lv st h Q := by
  intro p l e R s m args below meth c H locs cells slots ls C hH hR hL T hT X
  obtain ⟨len, tg, cv, wi, hk⟩ := xon_spec C.2.2.2.2.2.2.2.2.2.2.2.2.1 hq
  obtain ⟨hd, hnx, hi⟩ := xchk_dec hk
  obtain rfl := Nat.eq_of_beq_eq_true hi
  obtain ⟨rfl, hlen⟩ := xsp_spec hst
  subst hT
  obtain ⟨w1, w2, w4, ⟨v1, v2, v3⟩, w6⟩ := hw
  have hWS := C.2.2.2.2.2.2.2.2.1
  have hcw : xcw M2 = .code M2.1 M2.2.1 M2.2.2.1 none := by unfold xcw; rw [v2, v1]
  obtain ⟨mk, methk, ck, hI⟩ := xIs_of (M := M2) (by rw [hcw]; exact hWS _ w4 args)
  obtain ⟨p1, p2⟩ := xnp_spec w6
  have hpl : e.platform.magicAccessors = ({} : Platform).magicAccessors := by rw [X.admits.platform]
  have hd' : decode c.code pc = .ok (.invokespecial idx, 3) := by rw [C.2.1]; exact hd
  obtain ⟨mk', methM, cM, kP, vm₁, hnamed, hmethM, hcodeM, -, hlocalsM, -, hkP, -, hW₁, hstep⟩ := Steps.initColdArgsNest (e := e) X.here C.1 X.warmed hpl C.2.2.2.2.2.2.2.1 v3 p2 (hWS _ w1 args) (hWS _ w2 args) (hWS _ w4 args) (f := F0 m pc ls ((Value.ref b :: as).reverse ++ rest)) rfl (a := b) (argsL := as) (rest := rest) (fun sig hs => (Nat.succ.inj (by simpa using hlen)).trans (p1 sig hs)) (by simp) hd'
  cases hI.1.symm.trans hnamed
  have X₁ := X.noted hW₁
  obtain ⟨t, h1, h2⟩ := xcallW (T := T.setVm vm₁) hcon kr kt hok2 hsz hcat C hH hR hL X₁ hd' hnx hI
  exact ⟨t, hstep t (fun acts => by rw [doInvoke_state]; exact h1), h2⟩
end X11
end
section
/- Part 11c: throwing a new exception with a text; catching. -/
section X11c
variable {D : va_G} {N0 : Nat} {M : XM} {d pc : Nat} {lv : XL} {st : List Value} {h : XH} {Q : Outcome → XH → Prop}
theorem xT.catch {a ci : Nat} {q : vw_C} {fs : List Value} {nm : String} (pre : List ExceptionTableEntry) (x : ExceptionTableEntry) (suf : List ExceptionTableEntry) (hsplit : tableOf M.2.2.2.2.1 = pre ++ x :: suf) (ha : xget h a = some (.inr (ci, fs))) (hc : xcl[ci]? = some q)
    (hpass : ∀ z ∈ pre, covers z pc = false ∨ (z.catchType ≠ 0 ∧ ∃ n2 : String, xW (.classLink M.1.cls z.catchType n2) ∧ (q.1, n2) ∈ xncs)) (hx : covers x pc = true) (h0 : x.catchType ≠ 0) (hw : xW (.classLink M.1.cls x.catchType nm) ∧ xW (.castable q.1 nm))
    (k : xV D N0 M d x.handlerPc lv [.ref a] h Q) : xT D N0 M d pc lv a h Q := by
  intro p l e R s m args below meth c T locs cells slots ls st C hH hR hL X
  have hWS := C.2.2.2.2.2.2.2.2.1
  obtain ⟨r1, g0, cell, g1, g2, g3, -⟩ := (hH.2.1 a _ ha).1
  exact vx_catch (ls := ls) (rest := st) C.2.2.2.2.2.2.2.1 pre x suf (C.2.2.2.1.trans hsplit) (fun z hz => (hpass z hz).imp id fun ⟨z1, n2, z2, z3⟩ => ⟨z1, n2, hWS _ z2 args, C.2.2.2.2.2.2.2.2.2.2.2.2.2.2.2 _ z3⟩) hx h0 (hWS _ hw.1 args) (hWS _ hw.2 args) g1 g3
    (by rw [g2]; exact (C.2.2.2.2.2.2.2.2.2.1.1 ci q hc).2.1) (k p l e R s m args below meth c T.heap locs cells slots ls C hH hR hL) T rfl X
set_option maxHeartbeats 4000000 in
theorem xV.throw {ik is ic p1 p2 p3 p4 p5 ci : Nat} {cls text : String} {TE : u_T} {names : List String} {rest : List Value}
    (q0 : xon M pc = some (.new ik, p1)) (q1 : xon M p1 = some (.dup, p2)) (q2 : xon M p2 = some (.ldc is, p3) ∨ xon M p2 = some (.ldc_w is, p3)) (q3 : xon M p3 = some (.invokespecial ic, p4)) (q4 : xon M p4 = some (.athrow, p5))
    (hE : xcl[ci]? = some (cls, TE, 0)) (hcls : Bundle.fit cls = true) (hnames : ∀ n ∈ names, Bundle.fit n = true) (hk : xW (.classLink M.1.cls ik cls)) (hini : xW (.initialized cls)) (hat : ∀ w ∈ vx_atS M.1.cls ic cls names, xW w) (hown : M.1.cls = "ChannelNet") (hstr : (is, text) ∈ xstrs)
    (hout : (tableOf M.2.2.2.2.1).all (fun x => !covers x p4) = true) (hd : names.length + 4 ≤ d) (hcat : (rest.map fun v => v.category).sum ≤ 64) (hc1 : h.2.1 + 1 ≤ xCmax) (hc2 : h.2.2.1 + 6 ≤ xSmax)
    (hQ : Q (.threw h.1) (xnew h (.inr (ci, [])) 6)) : xV D N0 M d pc lv rest h Q := by
  intro p l e R s m args below meth c H locs cells slots ls C hH hR hL T hT X
  subst hT
  have hok := C.2.2.2.2.2.2.2.2.2.2.2.2.1
  obtain ⟨_, _, _, _, k0⟩ := xon_spec hok q0
  obtain ⟨d0, e0, i0⟩ := xchk_dec k0
  obtain rfl := Nat.eq_of_beq_eq_true i0
  obtain ⟨_, _, _, _, k1⟩ := xon_spec hok q1
  obtain ⟨d1, e1, i1⟩ := xchk_dec k1
  obtain rfl := Nat.eq_of_beq_eq_true i1
  obtain ⟨_, _, _, _, k3⟩ := xon_spec hok q3
  obtain ⟨d3, e3, i3⟩ := xchk_dec k3
  obtain rfl := Nat.eq_of_beq_eq_true i3
  obtain ⟨_, _, _, _, k4⟩ := xon_spec hok q4
  obtain ⟨d4, -, i4⟩ := xchk_dec k4
  obtain rfl := Nat.eq_of_beq_eq_true i4
  subst e0; subst e1; subst e3
  have hb := C.2.1
  have hexec := C.1
  have hWS := C.2.2.2.2.2.2.2.2.1
  have hlocks := C.2.2.2.2.1
  have hfr := C.2.2.2.2.2.2.2.2.2.2.1
  have hlo := C.2.2.2.2.2.2.2.2.2.2.2.1
  have htr : e.platform.stackTraces = false := Launch.traces_off C.2.2.2.2.2.2.2.2.2.2.2.2.2.1 X.admits
  obtain ⟨r1, r2, r3⟩ := hR.new (c := .inr (ci, [])) hc1 hc2
  have Y := vx_rebase X (R' := { frames := R.frames, locals := R.locals, cells := 1, slots := 6 }) (Nat.le_refl _) (Nat.le_refl _) r1 r2
  obtain ⟨s', hA⟩ : ∃ z, z = (T.setVm s.vm).setFrames (.invoking m args :: below) := ⟨_, rfl⟩
  rw [← hA] at Y
  have hvm : s'.vm = s.vm := by rw [hA]; rfl
  have hhp : s'.heap = T.heap := by rw [hA]; rfl
  have hW0 : s.WarmedH s'.vm := by rw [hvm]; exact State.WarmedH.refl s
  have hWS' : xWS s' := hWS.moved hW0
  obtain ⟨hU, hN⟩ : xZs N0 s' s'.heap := by rw [hhp]; exact (hH.2.2.2.moved hW0.alike).1
  have hall : ∀ w ∈ Bundle.ownAtoms M.1.cls ic cls names, w.before args s' = true := vx_own (fun w hw => hWS' _ (hat w hw) args) (vx_isRefq hU.1) (vx_isRefq hN.1) hU.2.word hN.2.word
  have hown' : s'.vm.findClass M.1.cls = some m.cls := by rw [hvm]; exact C.2.2.2.2.2.2.2.1
  have hins : (Cond.instantiable cls 6).before args s' = true := hall _ (by simp [Bundle.ownAtoms])
  obtain ⟨vm₁, cX, kX, hfX, hkX, -, -, X₁, st1⟩ := Y.newCold hexec (own := M.1.cls) (C := cls) (index := ik) (n := 6) hown' (hWS' _ hk args) hins (hWS' _ hini args)
    (g := F0 m pc ls rest) rfl (by rw [hb]; exact d0) (Nat.le_refl _) (Nat.le_refl _)
  generalize hT1 : (T.setVm vm₁).pushCell { cls := cX, slots := kX.instanceTypes.map defaultValue, vm := .none } = T1 at X₁ st1
  have hcellA : T1.heap[T.heap.size]? = some (freshCell cX kX) := by rw [← hT1]; exact State.heap_pushCell_size _ _
  have d1' : decode c.code (pc + 3) = .ok (.dup, 1) := by rw [hb]; exact d1
  obtain ⟨sa, hsa⟩ := (C.2.2.2.2.2.2.2.2.2.2.2.2.2.2.moved hW0).1 _ hstr
  have hsa' : vk_R M.1.cls is text sa s' := by rw [hown]; exact hsa
  have hsize : ls.size = c.maxLocals := by rw [C.2.2.1]; exact hL.2.1
  obtain ⟨U, hsteps, hrun, hend, hW, hsame, ce, hce, hO⟩ := X₁.ctorThrowS hexec htr (own := M.1.cls) (cls := cls) (names := names) (ic := ic) hown' hcls hnames hall (fun x hx => nomatch hx) hfX hkX hcellA (by rw [hhp]; exact Nat.le_refl _) (msg := .ref sa) rfl
    (g := { method := m, pc := p3, locals := ls, stack := .ref sa :: .ref T.heap.size :: .ref T.heap.size :: rest, locked := none }) rfl hsize rfl rfl (rest := rest) rfl
    (by rw [hb]; exact d3) (by rw [hb]; exact d4) (outside_of_table C.2.2.2.1 hout) (by show names.length + 3 < R.frames; omega)
    (by show 2 * 0 + ((Value.ref T.heap.size :: rest).map fun v => v.category).sum + (13 * (names.length + 1) + 42) ≤ R.locals; simp only [List.map_cons, List.sum_cons]; have : (Value.ref T.heap.size).category = 1 := rfl; omega) hlocks
  obtain ⟨f1, f2⟩ := vx_frame hsame
  rw [hhp] at f1 f2
  have hWs : s.WarmedH U.vm := State.WarmedH.trans hW0 hW
  have hsz : U.heap.size = T.heap.size + 1 := by
    have g1 : U.heap.size ≤ s'.heap.size + (0 + 1) := hsame.2.2.1
    have g2 := (Array.getElem?_eq_some_iff.mp hce).1
    rw [hhp] at g1
    omega
  have hcl2 : ce.cls = D.1 ci := by
    have g1 := hO.cls
    rw [hvm] at g1
    exact Option.some.inj (g1.symm.trans (C.2.2.2.2.2.2.2.2.2.1.1 ci _ hE).2.1)
  have hall2 : s.sameButNew ({ U with vm := s.vm } : State) locs (cells + 1) (slots + 6) := by
    subst hA
    obtain ⟨z1, z2⟩ := hsame
    rw [State.setFrames_setFrames] at z1
    have h2 : (T.setVm s.vm).sameButNew ({ U with vm := s.vm } : State) [] (0 + 1) (0 + 6) := ⟨z1, z2⟩
    have h3 := X.same.trans h2
    rw [List.append_nil] at h3
    exact h3.mono (by omega) (by omega)
  have hHp : xHp D s N0 (xnew h (.inr (ci, [])) 6) U.heap := hH.push hsz (fun q hq => f2 q hq (fun z hz => nomatch hz)) ⟨_, hE, ce, by rw [← hH.1]; exact hce, hcl2, hO.vm, fun j hj => absurd hj (Nat.not_lt_zero j)⟩
  refine ⟨U, ?_, .threw h.1, _, locs, cells + 1, slots + 6, hrun, by rw [← hH.1]; exact hend, hWs, hall2, hHp, r3, hQ⟩
  refine st1 _ ?_
  show Steps p.tables e below (T1.setTop { method := m, pc := pc + 3, locals := ls, stack := .ref T.heap.size :: rest, locked := none }) _
  jvm_step X₁.here [X₁.here.top, hexec, d1', Value.category]
  rcases q2 with q2 | q2
  · obtain ⟨_, _, _, _, k2⟩ := xon_spec hok q2
    obtain ⟨d2, e2, i2⟩ := xchk_dec k2
    simp only [xchi, Bool.and_eq_true] at i2
    obtain rfl := Nat.eq_of_beq_eq_true i2.1
    subst e2
    exact X₁.ldcString hexec (own := M.1.cls) (text := text) (index := is) (a := sa) hown' hsa'.1 hsa'.2
      (g := { method := m, pc := pc + 3 + 1, locals := ls, stack := .ref T.heap.size :: .ref T.heap.size :: rest, locked := none }) rfl (by rw [hb]; exact d2) _ hsteps
  · obtain ⟨_, _, _, _, k2⟩ := xon_spec hok q2
    obtain ⟨d2, e2, i2⟩ := xchk_dec k2
    simp only [xchi, Bool.and_eq_true] at i2
    obtain rfl := Nat.eq_of_beq_eq_true i2.1
    subst e2
    exact X₁.ldcStringW hexec (own := M.1.cls) (text := text) (index := is) (a := sa) hown' hsa'.1 hsa'.2
      (g := { method := m, pc := pc + 3 + 1, locals := ls, stack := .ref T.heap.size :: .ref T.heap.size :: rest, locked := none }) rfl (by rw [hb]; exact d2) _ hsteps
end X11c
end
section
/- Part 12a: method tables, printed by wip/whole/tools -/
def mA_init : XM := (⟨"java/util/ArrayList", "<init>", "()V"⟩, prog_23_method_2_code, 1, (Option.none : Option FieldType), [], [
  (0, .aload_n 0, 1, 1, 0, .null, 0),
  (1, .invokespecial 1, 3, 4, 0, .null, 0),
  (4, .aload_n 0, 1, 5, 0, .null, 0),
  (5, .getstatic 39, 3, 8, 0, .null, 0),
  (8, .putfield 9, 3, 11, 0, .ref 2, 64),
  (11, .return_, 1, 12, 0, .null, 0)])
set_option maxRecDepth 100000 in
theorem mA_init_ok : xOK mA_init = true := by decide +kernel
def mAbstractList_init : XM := (⟨"java/util/AbstractList", "<init>", "()V"⟩, prog_22_method_1_code, 1, (Option.none : Option FieldType), [], [
  (0, .aload_n 0, 1, 1, 0, .null, 0),
  (1, .invokespecial 1, 3, 4, 0, .null, 0),
  (4, .aload_n 0, 1, 5, 0, .null, 0),
  (5, .iconst 0, 1, 6, 0, .int 0, 0),
  (6, .putfield 7, 3, 9, 2, .ref 2, 66),
  (9, .return_, 1, 10, 0, .null, 0)])
set_option maxRecDepth 100000 in
theorem mAbstractList_init_ok : xOK mAbstractList_init = true := by decide +kernel
def mAbstractCollection_init : XM := (⟨"java/util/AbstractCollection", "<init>", "()V"⟩, prog_21_method_1_code, 1, (Option.none : Option FieldType), [], [
  (0, .aload_n 0, 1, 1, 0, .null, 0),
  (1, .invokespecial 1, 3, 4, 0, .null, 0),
  (4, .return_, 1, 5, 0, .null, 0)])
set_option maxRecDepth 100000 in
theorem mAbstractCollection_init_ok : xOK mAbstractCollection_init = true := by decide +kernel
def mA_size : XM := (⟨"java/util/ArrayList", "size", "()I"⟩, prog_23_method_8_code, 1, (Option.some FieldType.int), [], [
  (0, .aload_n 0, 1, 1, 0, .null, 0),
  (1, .getfield 48, 3, 4, 1, .ref 2, 65),
  (4, .ireturn, 1, 5, 0, .null, 0)])
set_option maxRecDepth 100000 in
theorem mA_size_ok : xOK mA_size = true := by decide +kernel
def mA_add : XM := (⟨"java/util/ArrayList", "add", "(Ljava/lang/Object;)Z"⟩, prog_23_method_25_code, 2, (Option.some FieldType.boolean), [], [
  (0, .aload_n 0, 1, 1, 0, .null, 0),
  (1, .dup, 1, 2, 0, .null, 0),
  (2, .getfield 63, 3, 5, 2, .ref 2, 67),
  (5, .iconst 1, 1, 6, 0, .int 1, 0),
  (6, .iadd, 1, 7, 0, .null, 0),
  (7, .putfield 63, 3, 10, 2, .ref 2, 67),
  (10, .aload_n 0, 1, 11, 0, .null, 0),
  (11, .aload_n 1, 1, 12, 0, .null, 0),
  (12, .aload_n 0, 1, 13, 0, .null, 0),
  (13, .getfield 9, 3, 16, 0, .ref 2, 64),
  (16, .aload_n 0, 1, 17, 0, .null, 0),
  (17, .getfield 48, 3, 20, 1, .ref 2, 65),
  (20, .invokevirtual 131, 3, 23, 0, .null, 0),
  (23, .iconst 1, 1, 24, 0, .int 1, 0),
  (24, .ireturn, 1, 25, 0, .null, 0)])
set_option maxRecDepth 100000 in
theorem mA_add_ok : xOK mA_add = true := by decide +kernel
def mA_add2 : XM := (⟨"java/util/ArrayList", "add", "(Ljava/lang/Object;[Ljava/lang/Object;I)V"⟩, prog_23_method_24_code, 4, (Option.none : Option FieldType), [], [
  (0, .iload_n 3, 1, 1, 0, .null, 0),
  (1, .aload_n 2, 1, 2, 0, .null, 0),
  (2, .arraylength, 1, 3, 0, .null, 0),
  (3, .if_icmp .ne 8, 3, 6, 11, .null, 0),
  (6, .aload_n 0, 1, 7, 0, .null, 0),
  (7, .invokevirtual 129, 3, 10, 0, .null, 0),
  (10, .astore_n 2, 1, 11, 0, .null, 0),
  (11, .aload_n 2, 1, 12, 0, .null, 0),
  (12, .iload_n 3, 1, 13, 0, .null, 0),
  (13, .aload_n 1, 1, 14, 0, .null, 0),
  (14, .aastore, 1, 15, 0, .null, 0),
  (15, .aload_n 0, 1, 16, 0, .null, 0),
  (16, .iload_n 3, 1, 17, 0, .null, 0),
  (17, .iconst 1, 1, 18, 0, .int 1, 0),
  (18, .iadd, 1, 19, 0, .null, 0),
  (19, .putfield 48, 3, 22, 1, .ref 2, 65),
  (22, .return_, 1, 23, 0, .null, 0)])
set_option maxRecDepth 100000 in
theorem mA_add2_ok : xOK mA_add2 = true := by decide +kernel
def mA_grow : XM := (⟨"java/util/ArrayList", "grow", "()[Ljava/lang/Object;"⟩, prog_23_method_7_code, 1, (Option.some (FieldType.array (FieldType.object "java/lang/Object"))), [], [
  (0, .aload_n 0, 1, 1, 0, .null, 0),
  (1, .aload_n 0, 1, 2, 0, .null, 0),
  (2, .getfield 48, 3, 5, 1, .ref 2, 65),
  (5, .iconst 1, 1, 6, 0, .int 1, 0),
  (6, .iadd, 1, 7, 0, .null, 0),
  (7, .invokevirtual 69, 3, 10, 0, .null, 0),
  (10, .areturn, 1, 11, 0, .null, 0)])
set_option maxRecDepth 100000 in
theorem mA_grow_ok : xOK mA_grow = true := by decide +kernel
def mA_grow2 : XM := (⟨"java/util/ArrayList", "grow", "(I)[Ljava/lang/Object;"⟩, prog_23_method_6_code, 4, (Option.some (FieldType.array (FieldType.object "java/lang/Object"))), [], [
  (0, .aload_n 0, 1, 1, 0, .null, 0),
  (1, .getfield 9, 3, 4, 0, .ref 2, 64),
  (4, .arraylength, 1, 5, 0, .null, 0),
  (5, .istore_n 2, 1, 6, 0, .null, 0),
  (6, .iload_n 2, 1, 7, 0, .null, 0),
  (7, .ifCond .gt 13, 3, 10, 20, .null, 0),
  (10, .aload_n 0, 1, 11, 0, .null, 0),
  (11, .getfield 9, 3, 14, 0, .ref 2, 64),
  (14, .getstatic 39, 3, 17, 0, .null, 0),
  (17, .if_acmp .eq 28, 3, 20, 45, .null, 0),
  (20, .iload_n 2, 1, 21, 0, .null, 0),
  (21, .iload_n 1, 1, 22, 0, .null, 0),
  (22, .iload_n 2, 1, 23, 0, .null, 0),
  (23, .isub, 1, 24, 0, .null, 0),
  (24, .iload_n 2, 1, 25, 0, .null, 0),
  (25, .iconst 1, 1, 26, 0, .int 1, 0),
  (26, .ishr, 1, 27, 0, .null, 0),
  (27, .invokestatic 73, 3, 30, 0, .null, 0),
  (30, .istore_n 3, 1, 31, 0, .null, 0),
  (31, .aload_n 0, 1, 32, 0, .null, 0),
  (32, .aload_n 0, 1, 33, 0, .null, 0),
  (33, .getfield 9, 3, 36, 0, .ref 2, 64),
  (36, .iload_n 3, 1, 37, 0, .null, 0),
  (37, .invokestatic 66, 3, 40, 0, .null, 0),
  (40, .dup_x1, 1, 41, 0, .null, 0),
  (41, .putfield 9, 3, 44, 0, .ref 2, 64),
  (44, .areturn, 1, 45, 0, .null, 0),
  (45, .aload_n 0, 1, 46, 0, .null, 0),
  (46, .bipush 10, 2, 48, 0, .int 10, 0),
  (48, .iload_n 1, 1, 49, 0, .null, 0),
  (49, .invokestatic 79, 3, 52, 0, .null, 0),
  (52, .anewarray 7, 3, 55, 0, .null, 0),
  (55, .dup_x1, 1, 56, 0, .null, 0),
  (56, .putfield 9, 3, 59, 0, .ref 2, 64),
  (59, .areturn, 1, 60, 0, .null, 0)])
set_option maxRecDepth 100000 in
theorem mA_grow2_ok : xOK mA_grow2 = true := by decide +kernel
def mArraysSupport_newLength : XM := (⟨"jdk/internal/util/ArraysSupport", "newLength", "(III)I"⟩, prog_30_method_27_code, 4, (Option.some FieldType.int), [], [
  (0, .iload_n 0, 1, 1, 0, .null, 0),
  (1, .iload_n 1, 1, 2, 0, .null, 0),
  (2, .iload_n 2, 1, 3, 0, .null, 0),
  (3, .invokestatic 194, 3, 6, 0, .null, 0),
  (6, .iadd, 1, 7, 0, .null, 0),
  (7, .istore_n 3, 1, 8, 0, .null, 0),
  (8, .iconst 0, 1, 9, 0, .int 0, 0),
  (9, .iload_n 3, 1, 10, 0, .null, 0),
  (10, .if_icmp .ge 11, 3, 13, 21, .null, 0),
  (13, .iload_n 3, 1, 14, 0, .null, 0),
  (14, .ldc 200, 2, 16, 0, .int 2147483639, 358),
  (16, .if_icmp .gt 5, 3, 19, 21, .null, 0),
  (19, .iload_n 3, 1, 20, 0, .null, 0),
  (20, .ireturn, 1, 21, 0, .null, 0),
  (21, .iload_n 0, 1, 22, 0, .null, 0),
  (22, .iload_n 1, 1, 23, 0, .null, 0),
  (23, .invokestatic 201, 3, 26, 0, .null, 0),
  (26, .ireturn, 1, 27, 0, .null, 0)])
set_option maxRecDepth 100000 in
theorem mArraysSupport_newLength_ok : xOK mArraysSupport_newLength = true := by decide +kernel
def mArraysSupport_hugeLength : XM := (⟨"jdk/internal/util/ArraysSupport", "hugeLength", "(II)I"⟩, prog_30_method_28_code, 3, (Option.some FieldType.int), [], [
  (0, .iload_n 0, 1, 1, 0, .null, 0),
  (1, .iload_n 1, 1, 2, 0, .null, 0),
  (2, .iadd, 1, 3, 0, .null, 0),
  (3, .istore_n 2, 1, 4, 0, .null, 0),
  (4, .iload_n 2, 1, 5, 0, .null, 0),
  (5, .ifCond .ge 44, 3, 8, 49, .null, 0),
  (8, .new 204, 3, 11, 0, .null, 0),
  (11, .dup, 1, 12, 0, .null, 0),
  (12, .new 89, 3, 15, 0, .null, 0),
  (15, .dup, 1, 16, 0, .null, 0),
  (16, .invokespecial 91, 3, 19, 0, .null, 0),
  (19, .ldc 206, 2, 21, 0, .null, 0),
  (21, .invokevirtual 94, 3, 24, 0, .null, 0),
  (24, .iload_n 0, 1, 25, 0, .null, 0),
  (25, .invokevirtual 98, 3, 28, 0, .null, 0),
  (28, .ldc 208, 2, 30, 0, .null, 0),
  (30, .invokevirtual 94, 3, 33, 0, .null, 0),
  (33, .iload_n 1, 1, 34, 0, .null, 0),
  (34, .invokevirtual 98, 3, 37, 0, .null, 0),
  (37, .ldc 210, 2, 39, 0, .null, 0),
  (39, .invokevirtual 94, 3, 42, 0, .null, 0),
  (42, .invokevirtual 101, 3, 45, 0, .null, 0),
  (45, .invokespecial 212, 3, 48, 0, .null, 0),
  (48, .athrow, 1, 49, 0, .null, 0),
  (49, .iload_n 2, 1, 50, 0, .null, 0),
  (50, .ldc 200, 2, 52, 0, .int 2147483639, 358),
  (52, .if_icmp .gt 6, 3, 55, 58, .null, 0),
  (55, .ldc 200, 2, 57, 0, .int 2147483639, 358),
  (57, .ireturn, 1, 58, 0, .null, 0),
  (58, .iload_n 2, 1, 59, 0, .null, 0),
  (59, .ireturn, 1, 60, 0, .null, 0)])
set_option maxRecDepth 100000 in
theorem mArraysSupport_hugeLength_ok : xOK mArraysSupport_hugeLength = true := by decide +kernel
def mArrays_copyOf : XM := (⟨"java/util/Arrays", "copyOf", "([Ljava/lang/Object;I)[Ljava/lang/Object;"⟩, prog_24_method_119_code, 2, (Option.some (FieldType.array (FieldType.object "java/lang/Object"))), [], [
  (0, .aload_n 0, 1, 1, 0, .null, 0),
  (1, .iload_n 1, 1, 2, 0, .null, 0),
  (2, .aload_n 0, 1, 3, 0, .null, 0),
  (3, .invokevirtual 86, 3, 6, 0, .null, 0),
  (6, .invokestatic 300, 3, 9, 0, .null, 0),
  (9, .areturn, 1, 10, 0, .null, 0)])
set_option maxRecDepth 100000 in
theorem mArrays_copyOf_ok : xOK mArrays_copyOf = true := by decide +kernel
def mArrays_copyOf2 : XM := (⟨"java/util/Arrays", "copyOf", "([Ljava/lang/Object;ILjava/lang/Class;)[Ljava/lang/Object;"⟩, prog_24_method_120_code, 4, (Option.some (FieldType.array (FieldType.object "java/lang/Object"))), [], [
  (0, .aload_n 2, 1, 1, 0, .null, 0),
  (1, .ldc 110, 2, 3, 0, .null, 0),
  (3, .if_acmp .ne 10, 3, 6, 13, .null, 0),
  (6, .iload_n 1, 1, 7, 0, .null, 0),
  (7, .anewarray 2, 3, 10, 0, .null, 0),
  (10, .goto 14, 3, 13, 24, .null, 0),
  (13, .aload_n 2, 1, 14, 0, .null, 0),
  (14, .invokevirtual 90, 3, 17, 0, .null, 0),
  (17, .iload_n 1, 1, 18, 0, .null, 0),
  (18, .invokestatic 95, 3, 21, 0, .null, 0),
  (21, .checkcast 110, 3, 24, 0, .null, 0),
  (24, .astore_n 3, 1, 25, 0, .null, 0),
  (25, .aload_n 0, 1, 26, 0, .null, 0),
  (26, .iconst 0, 1, 27, 0, .int 0, 0),
  (27, .aload_n 3, 1, 28, 0, .null, 0),
  (28, .iconst 0, 1, 29, 0, .int 0, 0),
  (29, .aload_n 0, 1, 30, 0, .null, 0),
  (30, .arraylength, 1, 31, 0, .null, 0),
  (31, .iload_n 1, 1, 32, 0, .null, 0),
  (32, .invokestatic 304, 3, 35, 0, .null, 0),
  (35, .invokestatic 150, 3, 38, 0, .null, 0),
  (38, .aload_n 3, 1, 39, 0, .null, 0),
  (39, .areturn, 1, 40, 0, .null, 0)])
set_option maxRecDepth 100000 in
theorem mArrays_copyOf2_ok : xOK mArrays_copyOf2 = true := by decide +kernel
def mA_get : XM := (⟨"java/util/ArrayList", "get", "(I)Ljava/lang/Object;"⟩, prog_23_method_20_code, 2, (Option.some (FieldType.object "java/lang/Object")), [], [
  (0, .iload_n 1, 1, 1, 0, .null, 0),
  (1, .aload_n 0, 1, 2, 0, .null, 0),
  (2, .getfield 48, 3, 5, 1, .ref 2, 65),
  (5, .invokestatic 118, 3, 8, 0, .null, 0),
  (8, .pop, 1, 9, 0, .null, 0),
  (9, .aload_n 0, 1, 10, 0, .null, 0),
  (10, .iload_n 1, 1, 11, 0, .null, 0),
  (11, .invokevirtual 123, 3, 14, 0, .null, 0),
  (14, .areturn, 1, 15, 0, .null, 0)])
set_option maxRecDepth 100000 in
theorem mA_get_ok : xOK mA_get = true := by decide +kernel
def mObjects_checkIndex : XM := (⟨"java/util/Objects", "checkIndex", "(II)I"⟩, prog_27_method_17_code, 2, (Option.some FieldType.int), [], [
  (0, .iload_n 0, 1, 1, 0, .null, 0),
  (1, .iload_n 1, 1, 2, 0, .null, 0),
  (2, .aconst_null, 1, 3, 0, .null, 0),
  (3, .invokestatic 105, 3, 6, 0, .null, 0),
  (6, .ireturn, 1, 7, 0, .null, 0)])
set_option maxRecDepth 100000 in
theorem mObjects_checkIndex_ok : xOK mObjects_checkIndex = true := by decide +kernel
def mPreconditions_checkIndex : XM := (⟨"jdk/internal/util/Preconditions", "checkIndex", "(IILjava/util/function/BiFunction;)I"⟩, prog_31_method_11_code, 3, (Option.some FieldType.int), [], [
  (0, .iload_n 0, 1, 1, 0, .null, 0),
  (1, .ifCond .lt 8, 3, 4, 9, .null, 0),
  (4, .iload_n 0, 1, 5, 0, .null, 0),
  (5, .iload_n 1, 1, 6, 0, .null, 0),
  (6, .if_icmp .lt 10, 3, 9, 16, .null, 0),
  (9, .aload_n 2, 1, 10, 0, .null, 0),
  (10, .iload_n 0, 1, 11, 0, .null, 0),
  (11, .iload_n 1, 1, 12, 0, .null, 0),
  (12, .invokestatic 95, 3, 15, 0, .null, 0),
  (15, .athrow, 1, 16, 0, .null, 0),
  (16, .iload_n 0, 1, 17, 0, .null, 0),
  (17, .ireturn, 1, 18, 0, .null, 0)])
set_option maxRecDepth 100000 in
theorem mPreconditions_checkIndex_ok : xOK mPreconditions_checkIndex = true := by decide +kernel
def mA_elementData : XM := (⟨"java/util/ArrayList", "elementData", "(I)Ljava/lang/Object;"⟩, prog_23_method_18_code, 2, (Option.some (FieldType.object "java/lang/Object")), [], [
  (0, .aload_n 0, 1, 1, 0, .null, 0),
  (1, .getfield 9, 3, 4, 0, .ref 2, 64),
  (4, .iload_n 1, 1, 5, 0, .null, 0),
  (5, .aaload, 1, 6, 0, .null, 0),
  (6, .areturn, 1, 7, 0, .null, 0)])
set_option maxRecDepth 100000 in
theorem mA_elementData_ok : xOK mA_elementData = true := by decide +kernel
end
section
/- Part 12c: method tables, printed by wip/whole/tools -/
def mS_init : XM := (⟨"ChannelNet$Secrets", "<init>", "()V"⟩, prog_6_method_1_code, 1, (Option.none : Option FieldType), [], [
  (0, .aload_n 0, 1, 1, 0, .null, 0),
  (1, .invokespecial 3, 3, 4, 0, .null, 0),
  (4, .aload_n 0, 1, 5, 0, .null, 0),
  (5, .bipush 24, 2, 7, 0, .int 24, 0),
  (7, .newarray .long, 2, 9, 0, .null, 0),
  (9, .putfield 9, 3, 12, 0, .ref 1, 37),
  (12, .aload_n 0, 1, 13, 0, .null, 0),
  (13, .bipush 24, 2, 15, 0, .int 24, 0),
  (15, .newarray .int, 2, 17, 0, .null, 0),
  (17, .putfield 15, 3, 20, 1, .ref 1, 38),
  (20, .aload_n 0, 1, 21, 0, .null, 0),
  (21, .iconst 0, 1, 22, 0, .int 0, 0),
  (22, .putfield 19, 3, 25, 2, .ref 1, 39),
  (25, .return_, 1, 26, 0, .null, 0)])
set_option maxRecDepth 100000 in
theorem mS_init_ok : xOK mS_init = true := by decide +kernel
def mR_init : XM := (⟨"ChannelNet$Route", "<init>", "()V"⟩, prog_5_method_1_code, 1, (Option.none : Option FieldType), [], [
  (0, .aload_n 0, 1, 1, 0, .null, 0),
  (1, .invokespecial 3, 3, 4, 0, .null, 0),
  (4, .aload_n 0, 1, 5, 0, .null, 0),
  (5, .iconst 5, 1, 6, 0, .int 5, 0),
  (6, .newarray .int, 2, 8, 0, .null, 0),
  (8, .putfield 9, 3, 11, 0, .ref 3, 82),
  (11, .aload_n 0, 1, 12, 0, .null, 0),
  (12, .iconst 5, 1, 13, 0, .int 5, 0),
  (13, .newarray .int, 2, 15, 0, .null, 0),
  (15, .putfield 15, 3, 18, 1, .ref 3, 85),
  (18, .aload_n 0, 1, 19, 0, .null, 0),
  (19, .iconst 5, 1, 20, 0, .int 5, 0),
  (20, .newarray .int, 2, 22, 0, .null, 0),
  (22, .putfield 18, 3, 25, 2, .ref 3, 87),
  (25, .aload_n 0, 1, 26, 0, .null, 0),
  (26, .iconst 0, 1, 27, 0, .int 0, 0),
  (27, .putfield 21, 3, 30, 3, .ref 3, 89),
  (30, .return_, 1, 31, 0, .null, 0)])
set_option maxRecDepth 100000 in
theorem mR_init_ok : xOK mR_init = true := by decide +kernel
def mC_init : XM := (⟨"ChannelNet$Channel", "<init>", "(IIII)V"⟩, prog_2_method_1_code, 5, (Option.none : Option FieldType), [], [
  (0, .aload_n 0, 1, 1, 0, .null, 0),
  (1, .invokespecial 3, 3, 4, 0, .null, 0),
  (4, .aload_n 0, 1, 5, 0, .null, 0),
  (5, .bipush 64, 2, 7, 0, .int 64, 0),
  (7, .newarray .int, 2, 9, 0, .null, 0),
  (9, .putfield 9, 3, 12, 2, .ref 4, 291),
  (12, .aload_n 0, 1, 13, 0, .null, 0),
  (13, .bipush 64, 2, 15, 0, .int 64, 0),
  (15, .newarray .int, 2, 17, 0, .null, 0),
  (17, .putfield 15, 3, 20, 3, .ref 4, 293),
  (20, .aload_n 0, 1, 21, 0, .null, 0),
  (21, .new 18, 3, 24, 0, .null, 0),
  (24, .dup, 1, 25, 0, .null, 0),
  (25, .invokespecial 20, 3, 28, 0, .null, 0),
  (28, .putfield 21, 3, 31, 4, .ref 4, 295),
  (31, .aload_n 0, 1, 32, 0, .null, 0),
  (32, .iconst 0, 1, 33, 0, .int 0, 0),
  (33, .putfield 25, 3, 36, 5, .ref 4, 297),
  (36, .aload_n 0, 1, 37, 0, .null, 0),
  (37, .iconst 0, 1, 38, 0, .int 0, 0),
  (38, .putfield 29, 3, 41, 6, .ref 4, 299),
  (41, .aload_n 0, 1, 42, 0, .null, 0),
  (42, .iconst (-1), 1, 43, 0, .int (-1), 0),
  (43, .putfield 32, 3, 46, 8, .ref 4, 303),
  (46, .aload_n 0, 1, 47, 0, .null, 0),
  (47, .iconst (-1), 1, 48, 0, .int (-1), 0),
  (48, .putfield 35, 3, 51, 9, .ref 4, 305),
  (51, .aload_n 0, 1, 52, 0, .null, 0),
  (52, .iconst (-1), 1, 53, 0, .int (-1), 0),
  (53, .putfield 38, 3, 56, 10, .ref 4, 307),
  (56, .aload_n 0, 1, 57, 0, .null, 0),
  (57, .iconst 0, 1, 58, 0, .int 0, 0),
  (58, .putfield 41, 3, 61, 11, .ref 4, 309),
  (61, .aload_n 0, 1, 62, 0, .null, 0),
  (62, .iload_n 1, 1, 63, 0, .null, 0),
  (63, .putfield 45, 3, 66, 0, .ref 4, 287),
  (66, .aload_n 0, 1, 67, 0, .null, 0),
  (67, .iload_n 2, 1, 68, 0, .null, 0),
  (68, .putfield 48, 3, 71, 1, .ref 4, 289),
  (71, .aload_n 0, 1, 72, 0, .null, 0),
  (72, .getfield 9, 3, 75, 2, .ref 4, 291),
  (75, .iconst 0, 1, 76, 0, .int 0, 0),
  (76, .iload_n 3, 1, 77, 0, .null, 0),
  (77, .iastore, 1, 78, 0, .null, 0),
  (78, .aload_n 0, 1, 79, 0, .null, 0),
  (79, .getfield 15, 3, 82, 3, .ref 4, 293),
  (82, .iconst 0, 1, 83, 0, .int 0, 0),
  (83, .iload 4, 2, 85, 0, .null, 0),
  (85, .iastore, 1, 86, 0, .null, 0),
  (86, .aload_n 0, 1, 87, 0, .null, 0),
  (87, .iload_n 3, 1, 88, 0, .null, 0),
  (88, .iload 4, 2, 90, 0, .null, 0),
  (90, .iadd, 1, 91, 0, .null, 0),
  (91, .putfield 51, 3, 94, 7, .ref 4, 301),
  (94, .return_, 1, 95, 0, .null, 0)])
set_option maxRecDepth 100000 in
theorem mC_init_ok : xOK mC_init = true := by decide +kernel
def mS_hasRoomFor : XM := (⟨"ChannelNet$Secrets", "hasRoomFor", "(J)Z"⟩, prog_6_method_4_code, 3, (Option.some FieldType.boolean), [], [
  (0, .aload_n 0, 1, 1, 0, .null, 0),
  (1, .getfield 19, 3, 4, 2, .ref 1, 39),
  (4, .bipush 24, 2, 6, 0, .int 24, 0),
  (6, .if_icmp .lt 12, 3, 9, 18, .null, 0),
  (9, .aload_n 0, 1, 10, 0, .null, 0),
  (10, .lload_n 1, 1, 11, 0, .null, 0),
  (11, .invokevirtual 23, 3, 14, 0, .null, 0),
  (14, .iconst (-1), 1, 15, 0, .int (-1), 0),
  (15, .if_icmp .eq 7, 3, 18, 22, .null, 0),
  (18, .iconst 1, 1, 19, 0, .int 1, 0),
  (19, .goto 4, 3, 22, 23, .null, 0),
  (22, .iconst 0, 1, 23, 0, .int 0, 0),
  (23, .ireturn, 1, 24, 0, .null, 0)])
set_option maxRecDepth 100000 in
theorem mS_hasRoomFor_ok : xOK mS_hasRoomFor = true := by decide +kernel
def mS_find : XM := (⟨"ChannelNet$Secrets", "find", "(J)I"⟩, prog_6_method_2_code, 4, (Option.some FieldType.int), [], [
  (0, .iconst 0, 1, 1, 0, .int 0, 0),
  (1, .istore_n 3, 1, 2, 0, .null, 0),
  (2, .iload_n 3, 1, 3, 0, .null, 0),
  (3, .aload_n 0, 1, 4, 0, .null, 0),
  (4, .getfield 19, 3, 7, 2, .ref 1, 39),
  (7, .if_icmp .ge 22, 3, 10, 29, .null, 0),
  (10, .aload_n 0, 1, 11, 0, .null, 0),
  (11, .getfield 9, 3, 14, 0, .ref 1, 37),
  (14, .iload_n 3, 1, 15, 0, .null, 0),
  (15, .laload, 1, 16, 0, .null, 0),
  (16, .lload_n 1, 1, 17, 0, .null, 0),
  (17, .lcmp, 1, 18, 0, .null, 0),
  (18, .ifCond .ne 5, 3, 21, 23, .null, 0),
  (21, .iload_n 3, 1, 22, 0, .null, 0),
  (22, .ireturn, 1, 23, 0, .null, 0),
  (23, .iinc 3 1, 3, 26, 0, .int 1, 0),
  (26, .goto (-24), 3, 29, 2, .null, 0),
  (29, .iconst (-1), 1, 30, 0, .int (-1), 0),
  (30, .ireturn, 1, 31, 0, .null, 0)])
set_option maxRecDepth 100000 in
theorem mS_find_ok : xOK mS_find = true := by decide +kernel
def mS_learn : XM := (⟨"ChannelNet$Secrets", "learn", "(JI)V"⟩, prog_6_method_5_code, 5, (Option.none : Option FieldType), [], [
  (0, .aload_n 0, 1, 1, 0, .null, 0),
  (1, .lload_n 1, 1, 2, 0, .null, 0),
  (2, .invokevirtual 23, 3, 5, 0, .null, 0),
  (5, .istore 4, 2, 7, 0, .null, 0),
  (7, .iload 4, 2, 9, 0, .null, 0),
  (9, .iconst (-1), 1, 10, 0, .int (-1), 0),
  (10, .if_icmp .eq 17, 3, 13, 27, .null, 0),
  (13, .aload_n 0, 1, 14, 0, .null, 0),
  (14, .getfield 15, 3, 17, 1, .ref 1, 38),
  (17, .iload 4, 2, 19, 0, .null, 0),
  (19, .dup2, 1, 20, 0, .null, 0),
  (20, .iaload, 1, 21, 0, .null, 0),
  (21, .iload_n 3, 1, 22, 0, .null, 0),
  (22, .ior, 1, 23, 0, .null, 0),
  (23, .iastore, 1, 24, 0, .null, 0),
  (24, .goto 42, 3, 27, 66, .null, 0),
  (27, .aload_n 0, 1, 28, 0, .null, 0),
  (28, .getfield 19, 3, 31, 2, .ref 1, 39),
  (31, .bipush 24, 2, 33, 0, .int 24, 0),
  (33, .if_icmp .ge 33, 3, 36, 66, .null, 0),
  (36, .aload_n 0, 1, 37, 0, .null, 0),
  (37, .getfield 9, 3, 40, 0, .ref 1, 37),
  (40, .aload_n 0, 1, 41, 0, .null, 0),
  (41, .getfield 19, 3, 44, 2, .ref 1, 39),
  (44, .lload_n 1, 1, 45, 0, .null, 0),
  (45, .lastore, 1, 46, 0, .null, 0),
  (46, .aload_n 0, 1, 47, 0, .null, 0),
  (47, .getfield 15, 3, 50, 1, .ref 1, 38),
  (50, .aload_n 0, 1, 51, 0, .null, 0),
  (51, .getfield 19, 3, 54, 2, .ref 1, 39),
  (54, .iload_n 3, 1, 55, 0, .null, 0),
  (55, .iastore, 1, 56, 0, .null, 0),
  (56, .aload_n 0, 1, 57, 0, .null, 0),
  (57, .dup, 1, 58, 0, .null, 0),
  (58, .getfield 19, 3, 61, 2, .ref 1, 39),
  (61, .iconst 1, 1, 62, 0, .int 1, 0),
  (62, .iadd, 1, 63, 0, .null, 0),
  (63, .putfield 19, 3, 66, 2, .ref 1, 39),
  (66, .return_, 1, 67, 0, .null, 0)])
set_option maxRecDepth 100000 in
theorem mS_learn_ok : xOK mS_learn = true := by decide +kernel
def mS_isKnown : XM := (⟨"ChannelNet$Secrets", "isKnown", "(IJ)Z"⟩, prog_6_method_3_code, 5, (Option.some FieldType.boolean), [], [
  (0, .aload_n 0, 1, 1, 0, .null, 0),
  (1, .lload_n 2, 1, 2, 0, .null, 0),
  (2, .invokevirtual 23, 3, 5, 0, .null, 0),
  (5, .istore 4, 2, 7, 0, .null, 0),
  (7, .iload 4, 2, 9, 0, .null, 0),
  (9, .iconst (-1), 1, 10, 0, .int (-1), 0),
  (10, .if_icmp .eq 21, 3, 13, 31, .null, 0),
  (13, .aload_n 0, 1, 14, 0, .null, 0),
  (14, .getfield 15, 3, 17, 1, .ref 1, 38),
  (17, .iload 4, 2, 19, 0, .null, 0),
  (19, .iaload, 1, 20, 0, .null, 0),
  (20, .iload_n 1, 1, 21, 0, .null, 0),
  (21, .ishr, 1, 22, 0, .null, 0),
  (22, .iconst 1, 1, 23, 0, .int 1, 0),
  (23, .iand, 1, 24, 0, .null, 0),
  (24, .ifCond .eq 7, 3, 27, 31, .null, 0),
  (27, .iconst 1, 1, 28, 0, .int 1, 0),
  (28, .goto 4, 3, 31, 32, .null, 0),
  (31, .iconst 0, 1, 32, 0, .int 0, 0),
  (32, .ireturn, 1, 33, 0, .null, 0)])
set_option maxRecDepth 100000 in
theorem mS_isKnown_ok : xOK mS_isKnown = true := by decide +kernel
def mC_joins : XM := (⟨"ChannelNet$Channel", "joins", "(I)Z"⟩, prog_2_method_2_code, 2, (Option.some FieldType.boolean), [], [
  (0, .iload_n 1, 1, 1, 0, .null, 0),
  (1, .aload_n 0, 1, 2, 0, .null, 0),
  (2, .getfield 45, 3, 5, 0, .ref 4, 287),
  (5, .if_icmp .eq 11, 3, 8, 16, .null, 0),
  (8, .iload_n 1, 1, 9, 0, .null, 0),
  (9, .aload_n 0, 1, 10, 0, .null, 0),
  (10, .getfield 48, 3, 13, 1, .ref 4, 289),
  (13, .if_icmp .ne 7, 3, 16, 20, .null, 0),
  (16, .iconst 1, 1, 17, 0, .int 1, 0),
  (17, .goto 4, 3, 20, 21, .null, 0),
  (20, .iconst 0, 1, 21, 0, .int 0, 0),
  (21, .ireturn, 1, 22, 0, .null, 0)])
set_option maxRecDepth 100000 in
theorem mC_joins_ok : xOK mC_joins = true := by decide +kernel
def mC_canCarry : XM := (⟨"ChannelNet$Channel", "canCarry", "(II)Z"⟩, prog_2_method_8_code, 4, (Option.some FieldType.boolean), [], [
  (0, .iload_n 1, 1, 1, 0, .null, 0),
  (1, .aload_n 0, 1, 2, 0, .null, 0),
  (2, .getfield 45, 3, 5, 0, .ref 4, 287),
  (5, .if_icmp .ne 15, 3, 8, 20, .null, 0),
  (8, .aload_n 0, 1, 9, 0, .null, 0),
  (9, .getfield 9, 3, 12, 2, .ref 4, 291),
  (12, .aload_n 0, 1, 13, 0, .null, 0),
  (13, .getfield 25, 3, 16, 5, .ref 4, 297),
  (16, .iaload, 1, 17, 0, .null, 0),
  (17, .goto 12, 3, 20, 29, .null, 0),
  (20, .aload_n 0, 1, 21, 0, .null, 0),
  (21, .getfield 15, 3, 24, 3, .ref 4, 293),
  (24, .aload_n 0, 1, 25, 0, .null, 0),
  (25, .getfield 25, 3, 28, 5, .ref 4, 297),
  (28, .iaload, 1, 29, 0, .null, 0),
  (29, .istore_n 3, 1, 30, 0, .null, 0),
  (30, .aload_n 0, 1, 31, 0, .null, 0),
  (31, .getfield 29, 3, 34, 6, .ref 4, 299),
  (34, .ifCond .ne 25, 3, 37, 59, .null, 0),
  (37, .iload_n 3, 1, 38, 0, .null, 0),
  (38, .iload_n 2, 1, 39, 0, .null, 0),
  (39, .if_icmp .lt 20, 3, 42, 59, .null, 0),
  (42, .aload_n 0, 1, 43, 0, .null, 0),
  (43, .aload_n 0, 1, 44, 0, .null, 0),
  (44, .getfield 25, 3, 47, 5, .ref 4, 297),
  (47, .invokevirtual 71, 3, 50, 0, .null, 0),
  (50, .bipush 6, 2, 52, 0, .int 6, 0),
  (52, .if_icmp .ge 7, 3, 55, 59, .null, 0),
  (55, .iconst 1, 1, 56, 0, .int 1, 0),
  (56, .goto 4, 3, 59, 60, .null, 0),
  (59, .iconst 0, 1, 60, 0, .int 0, 0),
  (60, .ireturn, 1, 61, 0, .null, 0)])
set_option maxRecDepth 100000 in
theorem mC_canCarry_ok : xOK mC_canCarry = true := by decide +kernel
def mC_promisesIn : XM := (⟨"ChannelNet$Channel", "promisesIn", "(I)I"⟩, prog_2_method_6_code, 4, (Option.some FieldType.int), [], [
  (0, .iconst 0, 1, 1, 0, .int 0, 0),
  (1, .istore_n 2, 1, 2, 0, .null, 0),
  (2, .iconst 0, 1, 3, 0, .int 0, 0),
  (3, .istore_n 3, 1, 4, 0, .null, 0),
  (4, .iload_n 3, 1, 5, 0, .null, 0),
  (5, .aload_n 0, 1, 6, 0, .null, 0),
  (6, .getfield 21, 3, 9, 4, .ref 4, 295),
  (9, .invokevirtual 54, 3, 12, 0, .null, 0),
  (12, .if_icmp .ge 30, 3, 15, 42, .null, 0),
  (15, .aload_n 0, 1, 16, 0, .null, 0),
  (16, .getfield 21, 3, 19, 4, .ref 4, 295),
  (19, .iload_n 3, 1, 20, 0, .null, 0),
  (20, .invokevirtual 58, 3, 23, 0, .null, 0),
  (23, .checkcast 62, 3, 26, 0, .null, 0),
  (26, .iload_n 1, 1, 27, 0, .null, 0),
  (27, .invokevirtual 64, 3, 30, 0, .null, 0),
  (30, .ifCond .eq 6, 3, 33, 36, .null, 0),
  (33, .iinc 2 1, 3, 36, 0, .int 1, 0),
  (36, .iinc 3 1, 3, 39, 0, .int 1, 0),
  (39, .goto (-35), 3, 42, 4, .null, 0),
  (42, .iload_n 2, 1, 43, 0, .null, 0),
  (43, .ireturn, 1, 44, 0, .null, 0)])
set_option maxRecDepth 100000 in
theorem mC_promisesIn_ok : xOK mC_promisesIn = true := by decide +kernel
def mP_isIn : XM := (⟨"ChannelNet$Promise", "isIn", "(I)Z"⟩, prog_4_method_2_code, 2, (Option.some FieldType.boolean), [], [
  (0, .iload_n 1, 1, 1, 0, .null, 0),
  (1, .aload_n 0, 1, 2, 0, .null, 0),
  (2, .getfield 35, 3, 5, 5, .ref 5, 507),
  (5, .if_icmp .lt 23, 3, 8, 28, .null, 0),
  (8, .aload_n 0, 1, 9, 0, .null, 0),
  (9, .getfield 9, 3, 12, 6, .ref 5, 508),
  (12, .iconst (-1), 1, 13, 0, .int (-1), 0),
  (13, .if_icmp .eq 11, 3, 16, 24, .null, 0),
  (16, .iload_n 1, 1, 17, 0, .null, 0),
  (17, .aload_n 0, 1, 18, 0, .null, 0),
  (18, .getfield 9, 3, 21, 6, .ref 5, 508),
  (21, .if_icmp .ge 7, 3, 24, 28, .null, 0),
  (24, .iconst 1, 1, 25, 0, .int 1, 0),
  (25, .goto 4, 3, 28, 29, .null, 0),
  (28, .iconst 0, 1, 29, 0, .int 0, 0),
  (29, .ireturn, 1, 30, 0, .null, 0)])
set_option maxRecDepth 100000 in
theorem mP_isIn_ok : xOK mP_isIn = true := by decide +kernel
def mC_hasRoomForState : XM := (⟨"ChannelNet$Channel", "hasRoomForState", "()Z"⟩, prog_2_method_5_code, 1, (Option.some FieldType.boolean), [], [
  (0, .aload_n 0, 1, 1, 0, .null, 0),
  (1, .getfield 25, 3, 4, 5, .ref 4, 297),
  (4, .bipush 63, 2, 6, 0, .int 63, 0),
  (6, .if_icmp .ge 7, 3, 9, 13, .null, 0),
  (9, .iconst 1, 1, 10, 0, .int 1, 0),
  (10, .goto 4, 3, 13, 14, .null, 0),
  (13, .iconst 0, 1, 14, 0, .int 0, 0),
  (14, .ireturn, 1, 15, 0, .null, 0)])
set_option maxRecDepth 100000 in
theorem mC_hasRoomForState_ok : xOK mC_hasRoomForState = true := by decide +kernel
def mC_addPromise : XM := (⟨"ChannelNet$Channel", "addPromise", "(IIJI)I"⟩, prog_2_method_9_code, 6, (Option.some FieldType.int), [], [
  (0, .aload_n 0, 1, 1, 0, .null, 0),
  (1, .iload_n 1, 1, 2, 0, .null, 0),
  (2, .iload_n 2, 1, 3, 0, .null, 0),
  (3, .ineg, 1, 4, 0, .null, 0),
  (4, .invokevirtual 75, 3, 7, 0, .null, 0),
  (7, .aload_n 0, 1, 8, 0, .null, 0),
  (8, .getfield 21, 3, 11, 4, .ref 4, 295),
  (11, .new 62, 3, 14, 0, .null, 0),
  (14, .dup, 1, 15, 0, .null, 0),
  (15, .iload_n 1, 1, 16, 0, .null, 0),
  (16, .aload_n 0, 1, 17, 0, .null, 0),
  (17, .iload_n 1, 1, 18, 0, .null, 0),
  (18, .invokevirtual 79, 3, 21, 0, .null, 0),
  (21, .iload_n 2, 1, 22, 0, .null, 0),
  (22, .lload_n 3, 1, 23, 0, .null, 0),
  (23, .iload 5, 2, 25, 0, .null, 0),
  (25, .aload_n 0, 1, 26, 0, .null, 0),
  (26, .getfield 25, 3, 29, 5, .ref 4, 297),
  (29, .invokespecial 82, 3, 32, 0, .null, 0),
  (32, .invokevirtual 85, 3, 35, 0, .null, 0),
  (35, .pop, 1, 36, 0, .null, 0),
  (36, .aload_n 0, 1, 37, 0, .null, 0),
  (37, .getfield 21, 3, 40, 4, .ref 4, 295),
  (40, .invokevirtual 54, 3, 43, 0, .null, 0),
  (43, .iconst 1, 1, 44, 0, .int 1, 0),
  (44, .isub, 1, 45, 0, .null, 0),
  (45, .ireturn, 1, 46, 0, .null, 0)])
set_option maxRecDepth 100000 in
theorem mC_addPromise_ok : xOK mC_addPromise = true := by decide +kernel
def mC_makeState : XM := (⟨"ChannelNet$Channel", "makeState", "(II)V"⟩, prog_2_method_11_code, 3, (Option.none : Option FieldType), [], [
  (0, .aload_n 0, 1, 1, 0, .null, 0),
  (1, .getfield 9, 3, 4, 2, .ref 4, 291),
  (4, .aload_n 0, 1, 5, 0, .null, 0),
  (5, .getfield 25, 3, 8, 5, .ref 4, 297),
  (8, .iconst 1, 1, 9, 0, .int 1, 0),
  (9, .iadd, 1, 10, 0, .null, 0),
  (10, .aload_n 0, 1, 11, 0, .null, 0),
  (11, .getfield 9, 3, 14, 2, .ref 4, 291),
  (14, .aload_n 0, 1, 15, 0, .null, 0),
  (15, .getfield 25, 3, 18, 5, .ref 4, 297),
  (18, .iaload, 1, 19, 0, .null, 0),
  (19, .iload_n 1, 1, 20, 0, .null, 0),
  (20, .aload_n 0, 1, 21, 0, .null, 0),
  (21, .getfield 45, 3, 24, 0, .ref 4, 287),
  (24, .if_icmp .ne 7, 3, 27, 31, .null, 0),
  (27, .iload_n 2, 1, 28, 0, .null, 0),
  (28, .goto 4, 3, 31, 32, .null, 0),
  (31, .iconst 0, 1, 32, 0, .int 0, 0),
  (32, .iadd, 1, 33, 0, .null, 0),
  (33, .iastore, 1, 34, 0, .null, 0),
  (34, .aload_n 0, 1, 35, 0, .null, 0),
  (35, .getfield 15, 3, 38, 3, .ref 4, 293),
  (38, .aload_n 0, 1, 39, 0, .null, 0),
  (39, .getfield 25, 3, 42, 5, .ref 4, 297),
  (42, .iconst 1, 1, 43, 0, .int 1, 0),
  (43, .iadd, 1, 44, 0, .null, 0),
  (44, .aload_n 0, 1, 45, 0, .null, 0),
  (45, .getfield 15, 3, 48, 3, .ref 4, 293),
  (48, .aload_n 0, 1, 49, 0, .null, 0),
  (49, .getfield 25, 3, 52, 5, .ref 4, 297),
  (52, .iaload, 1, 53, 0, .null, 0),
  (53, .iload_n 1, 1, 54, 0, .null, 0),
  (54, .aload_n 0, 1, 55, 0, .null, 0),
  (55, .getfield 48, 3, 58, 1, .ref 4, 289),
  (58, .if_icmp .ne 7, 3, 61, 65, .null, 0),
  (61, .iload_n 2, 1, 62, 0, .null, 0),
  (62, .goto 4, 3, 65, 66, .null, 0),
  (65, .iconst 0, 1, 66, 0, .int 0, 0),
  (66, .iadd, 1, 67, 0, .null, 0),
  (67, .iastore, 1, 68, 0, .null, 0),
  (68, .aload_n 0, 1, 69, 0, .null, 0),
  (69, .dup, 1, 70, 0, .null, 0),
  (70, .getfield 25, 3, 73, 5, .ref 4, 297),
  (73, .iconst 1, 1, 74, 0, .int 1, 0),
  (74, .iadd, 1, 75, 0, .null, 0),
  (75, .putfield 25, 3, 78, 5, .ref 4, 297),
  (78, .return_, 1, 79, 0, .null, 0)])
set_option maxRecDepth 100000 in
theorem mC_makeState_ok : xOK mC_makeState = true := by decide +kernel
def mC_partnerOf : XM := (⟨"ChannelNet$Channel", "partnerOf", "(I)I"⟩, prog_2_method_3_code, 2, (Option.some FieldType.int), [], [
  (0, .iload_n 1, 1, 1, 0, .null, 0),
  (1, .aload_n 0, 1, 2, 0, .null, 0),
  (2, .getfield 45, 3, 5, 0, .ref 4, 287),
  (5, .if_icmp .ne 10, 3, 8, 15, .null, 0),
  (8, .aload_n 0, 1, 9, 0, .null, 0),
  (9, .getfield 48, 3, 12, 1, .ref 4, 289),
  (12, .goto 7, 3, 15, 19, .null, 0),
  (15, .aload_n 0, 1, 16, 0, .null, 0),
  (16, .getfield 45, 3, 19, 0, .ref 4, 287),
  (19, .ireturn, 1, 20, 0, .null, 0)])
set_option maxRecDepth 100000 in
theorem mC_partnerOf_ok : xOK mC_partnerOf = true := by decide +kernel
def mP_init : XM := (⟨"ChannelNet$Promise", "<init>", "(IIIJII)V"⟩, prog_4_method_1_code, 8, (Option.none : Option FieldType), [], [
  (0, .aload_n 0, 1, 1, 0, .null, 0),
  (1, .invokespecial 3, 3, 4, 0, .null, 0),
  (4, .aload_n 0, 1, 5, 0, .null, 0),
  (5, .iconst (-1), 1, 6, 0, .int (-1), 0),
  (6, .putfield 9, 3, 9, 6, .ref 5, 508),
  (9, .aload_n 0, 1, 10, 0, .null, 0),
  (10, .iconst 0, 1, 11, 0, .int 0, 0),
  (11, .putfield 15, 3, 14, 7, .ref 5, 510),
  (14, .aload_n 0, 1, 15, 0, .null, 0),
  (15, .iload_n 1, 1, 16, 0, .null, 0),
  (16, .putfield 19, 3, 19, 0, .ref 5, 496),
  (19, .aload_n 0, 1, 20, 0, .null, 0),
  (20, .iload_n 2, 1, 21, 0, .null, 0),
  (21, .putfield 22, 3, 24, 1, .ref 5, 498),
  (24, .aload_n 0, 1, 25, 0, .null, 0),
  (25, .iload_n 3, 1, 26, 0, .null, 0),
  (26, .putfield 25, 3, 29, 2, .ref 5, 500),
  (29, .aload_n 0, 1, 30, 0, .null, 0),
  (30, .lload 4, 2, 32, 0, .null, 0),
  (32, .putfield 28, 3, 35, 3, .ref 5, 503),
  (35, .aload_n 0, 1, 36, 0, .null, 0),
  (36, .iload 6, 2, 38, 0, .null, 0),
  (38, .putfield 32, 3, 41, 4, .ref 5, 505),
  (41, .aload_n 0, 1, 42, 0, .null, 0),
  (42, .iload 7, 2, 44, 0, .null, 0),
  (44, .putfield 35, 3, 47, 5, .ref 5, 507),
  (47, .return_, 1, 48, 0, .null, 0)])
set_option maxRecDepth 100000 in
theorem mP_init_ok : xOK mP_init = true := by decide +kernel
def mC_endPromise : XM := (⟨"ChannelNet$Channel", "endPromise", "(LChannelNet$Promise;I)V"⟩, prog_2_method_10_code, 3, (Option.none : Option FieldType), [], [
  (0, .aload_n 0, 1, 1, 0, .null, 0),
  (1, .iload_n 2, 1, 2, 0, .null, 0),
  (2, .aload_n 1, 1, 3, 0, .null, 0),
  (3, .getfield 68, 3, 6, 2, .ref 5, 501),
  (6, .invokevirtual 75, 3, 9, 0, .null, 0),
  (9, .aload_n 1, 1, 10, 0, .null, 0),
  (10, .aload_n 0, 1, 11, 0, .null, 0),
  (11, .getfield 25, 3, 14, 5, .ref 4, 297),
  (14, .putfield 89, 3, 17, 6, .ref 5, 509),
  (17, .return_, 1, 18, 0, .null, 0)])
set_option maxRecDepth 100000 in
theorem mC_endPromise_ok : xOK mC_endPromise = true := by decide +kernel
def mR_put : XM := (⟨"ChannelNet$Route", "put", "(IIII)V"⟩, prog_5_method_4_code, 5, (Option.none : Option FieldType), [], [
  (0, .aload_n 0, 1, 1, 0, .null, 0),
  (1, .getfield 9, 3, 4, 0, .ref 3, 82),
  (4, .iload_n 1, 1, 5, 0, .null, 0),
  (5, .iload_n 2, 1, 6, 0, .null, 0),
  (6, .iastore, 1, 7, 0, .null, 0),
  (7, .aload_n 0, 1, 8, 0, .null, 0),
  (8, .getfield 15, 3, 11, 1, .ref 3, 85),
  (11, .iload_n 1, 1, 12, 0, .null, 0),
  (12, .iload_n 3, 1, 13, 0, .null, 0),
  (13, .iastore, 1, 14, 0, .null, 0),
  (14, .aload_n 0, 1, 15, 0, .null, 0),
  (15, .getfield 18, 3, 18, 2, .ref 3, 87),
  (18, .iload_n 1, 1, 19, 0, .null, 0),
  (19, .iload 4, 2, 21, 0, .null, 0),
  (21, .iastore, 1, 22, 0, .null, 0),
  (22, .aload_n 0, 1, 23, 0, .null, 0),
  (23, .iload_n 1, 1, 24, 0, .null, 0),
  (24, .iconst 1, 1, 25, 0, .int 1, 0),
  (25, .iadd, 1, 26, 0, .null, 0),
  (26, .putfield 21, 3, 29, 3, .ref 3, 89),
  (29, .return_, 1, 30, 0, .null, 0)])
set_option maxRecDepth 100000 in
theorem mR_put_ok : xOK mR_put = true := by decide +kernel
def mR_isBetterThan : XM := (⟨"ChannelNet$Route", "isBetterThan", "(LChannelNet$Route;)Z"⟩, prog_5_method_6_code, 3, (Option.some FieldType.boolean), [], [
  (0, .aload_n 1, 1, 1, 0, .null, 0),
  (1, .getfield 21, 3, 4, 3, .ref 3, 89),
  (4, .ifCond .ne 5, 3, 7, 9, .null, 0),
  (7, .iconst 1, 1, 8, 0, .int 1, 0),
  (8, .ireturn, 1, 9, 0, .null, 0),
  (9, .aload_n 0, 1, 10, 0, .null, 0),
  (10, .invokevirtual 35, 3, 13, 0, .null, 0),
  (13, .aload_n 1, 1, 14, 0, .null, 0),
  (14, .invokevirtual 35, 3, 17, 0, .null, 0),
  (17, .if_icmp .eq 20, 3, 20, 37, .null, 0),
  (20, .aload_n 0, 1, 21, 0, .null, 0),
  (21, .invokevirtual 35, 3, 24, 0, .null, 0),
  (24, .aload_n 1, 1, 25, 0, .null, 0),
  (25, .invokevirtual 35, 3, 28, 0, .null, 0),
  (28, .if_icmp .ge 7, 3, 31, 35, .null, 0),
  (31, .iconst 1, 1, 32, 0, .int 1, 0),
  (32, .goto 4, 3, 35, 36, .null, 0),
  (35, .iconst 0, 1, 36, 0, .int 0, 0),
  (36, .ireturn, 1, 37, 0, .null, 0),
  (37, .aload_n 0, 1, 38, 0, .null, 0),
  (38, .getfield 21, 3, 41, 3, .ref 3, 89),
  (41, .aload_n 1, 1, 42, 0, .null, 0),
  (42, .getfield 21, 3, 45, 3, .ref 3, 89),
  (45, .if_icmp .eq 20, 3, 48, 65, .null, 0),
  (48, .aload_n 0, 1, 49, 0, .null, 0),
  (49, .getfield 21, 3, 52, 3, .ref 3, 89),
  (52, .aload_n 1, 1, 53, 0, .null, 0),
  (53, .getfield 21, 3, 56, 3, .ref 3, 89),
  (56, .if_icmp .ge 7, 3, 59, 63, .null, 0),
  (59, .iconst 1, 1, 60, 0, .int 1, 0),
  (60, .goto 4, 3, 63, 64, .null, 0),
  (63, .iconst 0, 1, 64, 0, .int 0, 0),
  (64, .ireturn, 1, 65, 0, .null, 0),
  (65, .aload_n 0, 1, 66, 0, .null, 0),
  (66, .getfield 21, 3, 69, 3, .ref 3, 89),
  (69, .iconst 1, 1, 70, 0, .int 1, 0),
  (70, .isub, 1, 71, 0, .null, 0),
  (71, .istore_n 2, 1, 72, 0, .null, 0),
  (72, .iload_n 2, 1, 73, 0, .null, 0),
  (73, .ifCond .lt 45, 3, 76, 118, .null, 0),
  (76, .aload_n 0, 1, 77, 0, .null, 0),
  (77, .getfield 9, 3, 80, 0, .ref 3, 82),
  (80, .iload_n 2, 1, 81, 0, .null, 0),
  (81, .iaload, 1, 82, 0, .null, 0),
  (82, .aload_n 1, 1, 83, 0, .null, 0),
  (83, .getfield 9, 3, 86, 0, .ref 3, 82),
  (86, .iload_n 2, 1, 87, 0, .null, 0),
  (87, .iaload, 1, 88, 0, .null, 0),
  (88, .if_icmp .eq 24, 3, 91, 112, .null, 0),
  (91, .aload_n 0, 1, 92, 0, .null, 0),
  (92, .getfield 9, 3, 95, 0, .ref 3, 82),
  (95, .iload_n 2, 1, 96, 0, .null, 0),
  (96, .iaload, 1, 97, 0, .null, 0),
  (97, .aload_n 1, 1, 98, 0, .null, 0),
  (98, .getfield 9, 3, 101, 0, .ref 3, 82),
  (101, .iload_n 2, 1, 102, 0, .null, 0),
  (102, .iaload, 1, 103, 0, .null, 0),
  (103, .if_icmp .ge 7, 3, 106, 110, .null, 0),
  (106, .iconst 1, 1, 107, 0, .int 1, 0),
  (107, .goto 4, 3, 110, 111, .null, 0),
  (110, .iconst 0, 1, 111, 0, .int 0, 0),
  (111, .ireturn, 1, 112, 0, .null, 0),
  (112, .iinc 2 (-1), 3, 115, 0, .int (-1), 0),
  (115, .goto (-43), 3, 118, 72, .null, 0),
  (118, .iconst 0, 1, 119, 0, .int 0, 0),
  (119, .ireturn, 1, 120, 0, .null, 0)])
set_option maxRecDepth 100000 in
theorem mR_isBetterThan_ok : xOK mR_isBetterThan = true := by decide +kernel
def mR_firstAmount : XM := (⟨"ChannelNet$Route", "firstAmount", "()I"⟩, prog_5_method_3_code, 1, (Option.some FieldType.int), [], [
  (0, .aload_n 0, 1, 1, 0, .null, 0),
  (1, .getfield 18, 3, 4, 2, .ref 3, 87),
  (4, .aload_n 0, 1, 5, 0, .null, 0),
  (5, .iconst 0, 1, 6, 0, .int 0, 0),
  (6, .invokevirtual 25, 3, 9, 0, .null, 0),
  (9, .iaload, 1, 10, 0, .null, 0),
  (10, .ireturn, 1, 11, 0, .null, 0)])
set_option maxRecDepth 100000 in
theorem mR_firstAmount_ok : xOK mR_firstAmount = true := by decide +kernel
def mR_slot : XM := (⟨"ChannelNet$Route", "slot", "(I)I"⟩, prog_5_method_2_code, 2, (Option.some FieldType.int), [], [
  (0, .aload_n 0, 1, 1, 0, .null, 0),
  (1, .getfield 21, 3, 4, 3, .ref 3, 89),
  (4, .iconst 1, 1, 5, 0, .int 1, 0),
  (5, .isub, 1, 6, 0, .null, 0),
  (6, .iload_n 1, 1, 7, 0, .null, 0),
  (7, .isub, 1, 8, 0, .null, 0),
  (8, .ireturn, 1, 9, 0, .null, 0)])
set_option maxRecDepth 100000 in
theorem mR_slot_ok : xOK mR_slot = true := by decide +kernel
def mR_copy : XM := (⟨"ChannelNet$Route", "copy", "(LChannelNet$Route;)V"⟩, prog_5_method_5_code, 2, (Option.none : Option FieldType), [], [
  (0, .aload_n 1, 1, 1, 0, .null, 0),
  (1, .getfield 9, 3, 4, 0, .ref 3, 82),
  (4, .iconst 0, 1, 5, 0, .int 0, 0),
  (5, .aload_n 0, 1, 6, 0, .null, 0),
  (6, .getfield 9, 3, 9, 0, .ref 3, 82),
  (9, .iconst 0, 1, 10, 0, .int 0, 0),
  (10, .iconst 5, 1, 11, 0, .int 5, 0),
  (11, .invokestatic 29, 3, 14, 0, .null, 0),
  (14, .aload_n 1, 1, 15, 0, .null, 0),
  (15, .getfield 15, 3, 18, 1, .ref 3, 85),
  (18, .iconst 0, 1, 19, 0, .int 0, 0),
  (19, .aload_n 0, 1, 20, 0, .null, 0),
  (20, .getfield 15, 3, 23, 1, .ref 3, 85),
  (23, .iconst 0, 1, 24, 0, .int 0, 0),
  (24, .iconst 5, 1, 25, 0, .int 5, 0),
  (25, .invokestatic 29, 3, 28, 0, .null, 0),
  (28, .aload_n 1, 1, 29, 0, .null, 0),
  (29, .getfield 18, 3, 32, 2, .ref 3, 87),
  (32, .iconst 0, 1, 33, 0, .int 0, 0),
  (33, .aload_n 0, 1, 34, 0, .null, 0),
  (34, .getfield 18, 3, 37, 2, .ref 3, 87),
  (37, .iconst 0, 1, 38, 0, .int 0, 0),
  (38, .iconst 5, 1, 39, 0, .int 5, 0),
  (39, .invokestatic 29, 3, 42, 0, .null, 0),
  (42, .aload_n 0, 1, 43, 0, .null, 0),
  (43, .aload_n 1, 1, 44, 0, .null, 0),
  (44, .getfield 21, 3, 47, 3, .ref 3, 89),
  (47, .putfield 21, 3, 50, 3, .ref 3, 89),
  (50, .return_, 1, 51, 0, .null, 0)])
set_option maxRecDepth 100000 in
theorem mR_copy_ok : xOK mR_copy = true := by decide +kernel
def mY_init : XM := (⟨"ChannelNet$Payment", "<init>", "(LChannelNet$Route;IJ)V"⟩, prog_3_method_1_code, 6, (Option.none : Option FieldType), [], [
  (0, .aload_n 0, 1, 1, 0, .null, 0),
  (1, .invokespecial 3, 3, 4, 0, .null, 0),
  (4, .aload_n 0, 1, 5, 0, .null, 0),
  (5, .iconst 0, 1, 6, 0, .int 0, 0),
  (6, .putfield 9, 3, 9, 8, .ref 6, 658),
  (9, .aload_n 0, 1, 10, 0, .null, 0),
  (10, .iconst 0, 1, 11, 0, .int 0, 0),
  (11, .putfield 15, 3, 14, 9, .ref 6, 660),
  (14, .aload_n 0, 1, 15, 0, .null, 0),
  (15, .iconst 0, 1, 16, 0, .int 0, 0),
  (16, .putfield 18, 3, 19, 10, .ref 6, 662),
  (19, .aload_n 0, 1, 20, 0, .null, 0),
  (20, .iconst 0, 1, 21, 0, .int 0, 0),
  (21, .putfield 21, 3, 24, 11, .ref 6, 664),
  (24, .aload_n 0, 1, 25, 0, .null, 0),
  (25, .iconst 0, 1, 26, 0, .int 0, 0),
  (26, .putfield 24, 3, 29, 12, .ref 6, 666),
  (29, .aload_n 0, 1, 30, 0, .null, 0),
  (30, .iload_n 2, 1, 31, 0, .null, 0),
  (31, .putfield 27, 3, 34, 0, .ref 6, 642),
  (34, .aload_n 0, 1, 35, 0, .null, 0),
  (35, .lload_n 3, 1, 36, 0, .null, 0),
  (36, .putfield 30, 3, 39, 1, .ref 6, 644),
  (39, .aload_n 0, 1, 40, 0, .null, 0),
  (40, .aload_n 1, 1, 41, 0, .null, 0),
  (41, .getfield 34, 3, 44, 3, .ref 3, 90),
  (44, .putfield 39, 3, 47, 2, .ref 6, 646),
  (47, .aload_n 0, 1, 48, 0, .null, 0),
  (48, .aload_n 0, 1, 49, 0, .null, 0),
  (49, .getfield 39, 3, 52, 2, .ref 6, 646),
  (52, .newarray .int, 2, 54, 0, .null, 0),
  (54, .putfield 40, 3, 57, 3, .ref 6, 648),
  (57, .aload_n 0, 1, 58, 0, .null, 0),
  (58, .aload_n 0, 1, 59, 0, .null, 0),
  (59, .getfield 39, 3, 62, 2, .ref 6, 646),
  (62, .newarray .int, 2, 64, 0, .null, 0),
  (64, .putfield 44, 3, 67, 4, .ref 6, 650),
  (67, .aload_n 0, 1, 68, 0, .null, 0),
  (68, .aload_n 0, 1, 69, 0, .null, 0),
  (69, .getfield 39, 3, 72, 2, .ref 6, 646),
  (72, .newarray .int, 2, 74, 0, .null, 0),
  (74, .putfield 47, 3, 77, 5, .ref 6, 652),
  (77, .aload_n 0, 1, 78, 0, .null, 0),
  (78, .aload_n 0, 1, 79, 0, .null, 0),
  (79, .getfield 39, 3, 82, 2, .ref 6, 646),
  (82, .newarray .int, 2, 84, 0, .null, 0),
  (84, .putfield 50, 3, 87, 6, .ref 6, 654),
  (87, .aload_n 0, 1, 88, 0, .null, 0),
  (88, .aload_n 0, 1, 89, 0, .null, 0),
  (89, .getfield 39, 3, 92, 2, .ref 6, 646),
  (92, .newarray .int, 2, 94, 0, .null, 0),
  (94, .putfield 53, 3, 97, 7, .ref 6, 656),
  (97, .iconst 0, 1, 98, 0, .int 0, 0),
  (98, .istore 5, 2, 100, 0, .null, 0),
  (100, .iload 5, 2, 102, 0, .null, 0),
  (102, .aload_n 0, 1, 103, 0, .null, 0),
  (103, .getfield 39, 3, 106, 2, .ref 6, 646),
  (106, .if_icmp .ge 63, 3, 109, 169, .null, 0),
  (109, .aload_n 0, 1, 110, 0, .null, 0),
  (110, .getfield 40, 3, 113, 3, .ref 6, 648),
  (113, .iload 5, 2, 115, 0, .null, 0),
  (115, .aload_n 1, 1, 116, 0, .null, 0),
  (116, .getfield 56, 3, 119, 0, .ref 3, 83),
  (119, .aload_n 1, 1, 120, 0, .null, 0),
  (120, .iload 5, 2, 122, 0, .null, 0),
  (122, .invokevirtual 57, 3, 125, 0, .null, 0),
  (125, .iaload, 1, 126, 0, .null, 0),
  (126, .iastore, 1, 127, 0, .null, 0),
  (127, .aload_n 0, 1, 128, 0, .null, 0),
  (128, .getfield 44, 3, 131, 4, .ref 6, 650),
  (131, .iload 5, 2, 133, 0, .null, 0),
  (133, .aload_n 1, 1, 134, 0, .null, 0),
  (134, .getfield 61, 3, 137, 1, .ref 3, 86),
  (137, .aload_n 1, 1, 138, 0, .null, 0),
  (138, .iload 5, 2, 140, 0, .null, 0),
  (140, .invokevirtual 57, 3, 143, 0, .null, 0),
  (143, .iaload, 1, 144, 0, .null, 0),
  (144, .iastore, 1, 145, 0, .null, 0),
  (145, .aload_n 0, 1, 146, 0, .null, 0),
  (146, .getfield 47, 3, 149, 5, .ref 6, 652),
  (149, .iload 5, 2, 151, 0, .null, 0),
  (151, .aload_n 1, 1, 152, 0, .null, 0),
  (152, .getfield 62, 3, 155, 2, .ref 3, 88),
  (155, .aload_n 1, 1, 156, 0, .null, 0),
  (156, .iload 5, 2, 158, 0, .null, 0),
  (158, .invokevirtual 57, 3, 161, 0, .null, 0),
  (161, .iaload, 1, 162, 0, .null, 0),
  (162, .iastore, 1, 163, 0, .null, 0),
  (163, .iinc 5 1, 3, 166, 0, .int 1, 0),
  (166, .goto (-66), 3, 169, 100, .null, 0),
  (169, .return_, 1, 170, 0, .null, 0)])
set_option maxRecDepth 100000 in
theorem mY_init_ok : xOK mY_init = true := by decide +kernel
def mY_goneBack : XM := (⟨"ChannelNet$Payment", "goneBack", "()V"⟩, prog_3_method_3_code, 1, (Option.none : Option FieldType), [], [
  (0, .aload_n 0, 1, 1, 0, .null, 0),
  (1, .dup, 1, 2, 0, .null, 0),
  (2, .getfield 21, 3, 5, 11, .ref 6, 664),
  (5, .iconst 1, 1, 6, 0, .int 1, 0),
  (6, .isub, 1, 7, 0, .null, 0),
  (7, .putfield 21, 3, 10, 11, .ref 6, 664),
  (10, .aload_n 0, 1, 11, 0, .null, 0),
  (11, .getfield 21, 3, 14, 11, .ref 6, 664),
  (14, .ifCond .ne 8, 3, 17, 22, .null, 0),
  (17, .aload_n 0, 1, 18, 0, .null, 0),
  (18, .iconst 3, 1, 19, 0, .int 3, 0),
  (19, .putfield 9, 3, 22, 8, .ref 6, 658),
  (22, .return_, 1, 23, 0, .null, 0)])
set_option maxRecDepth 100000 in
theorem mY_goneBack_ok : xOK mY_goneBack = true := by decide +kernel
def mY_turnBack : XM := (⟨"ChannelNet$Payment", "turnBack", "(I)V"⟩, prog_3_method_2_code, 2, (Option.none : Option FieldType), [], [
  (0, .aload_n 0, 1, 1, 0, .null, 0),
  (1, .iload_n 1, 1, 2, 0, .null, 0),
  (2, .putfield 15, 3, 5, 9, .ref 6, 660),
  (5, .aload_n 0, 1, 6, 0, .null, 0),
  (6, .aload_n 0, 1, 7, 0, .null, 0),
  (7, .getfield 18, 3, 10, 10, .ref 6, 662),
  (10, .putfield 21, 3, 13, 11, .ref 6, 664),
  (13, .aload_n 0, 1, 14, 0, .null, 0),
  (14, .aload_n 0, 1, 15, 0, .null, 0),
  (15, .getfield 21, 3, 18, 11, .ref 6, 664),
  (18, .ifCond .ne 7, 3, 21, 25, .null, 0),
  (21, .iconst 3, 1, 22, 0, .int 3, 0),
  (22, .goto 4, 3, 25, 26, .null, 0),
  (25, .iload_n 1, 1, 26, 0, .null, 0),
  (26, .putfield 9, 3, 29, 8, .ref 6, 658),
  (29, .return_, 1, 30, 0, .null, 0)])
set_option maxRecDepth 100000 in
theorem mY_turnBack_ok : xOK mY_turnBack = true := by decide +kernel
def mC_hasState : XM := (⟨"ChannelNet$Channel", "hasState", "(I)Z"⟩, prog_2_method_4_code, 2, (Option.some FieldType.boolean), [], [
  (0, .iload_n 1, 1, 1, 0, .null, 0),
  (1, .ifCond .lt 15, 3, 4, 16, .null, 0),
  (4, .iload_n 1, 1, 5, 0, .null, 0),
  (5, .aload_n 0, 1, 6, 0, .null, 0),
  (6, .getfield 25, 3, 9, 5, .ref 4, 297),
  (9, .if_icmp .gt 7, 3, 12, 16, .null, 0),
  (12, .iconst 1, 1, 13, 0, .int 1, 0),
  (13, .goto 4, 3, 16, 17, .null, 0),
  (16, .iconst 0, 1, 17, 0, .int 0, 0),
  (17, .ireturn, 1, 18, 0, .null, 0)])
set_option maxRecDepth 100000 in
theorem mC_hasState_ok : xOK mC_hasState = true := by decide +kernel
def mC_isPunishable : XM := (⟨"ChannelNet$Channel", "isPunishable", "(I)Z"⟩, prog_2_method_13_code, 2, (Option.some FieldType.boolean), [], [
  (0, .aload_n 0, 1, 1, 0, .null, 0),
  (1, .getfield 29, 3, 4, 6, .ref 4, 299),
  (4, .iconst 1, 1, 5, 0, .int 1, 0),
  (5, .if_icmp .ne 29, 3, 8, 34, .null, 0),
  (8, .aload_n 0, 1, 9, 0, .null, 0),
  (9, .getfield 35, 3, 12, 9, .ref 4, 305),
  (12, .aload_n 0, 1, 13, 0, .null, 0),
  (13, .getfield 25, 3, 16, 5, .ref 4, 297),
  (16, .if_icmp .ge 18, 3, 19, 34, .null, 0),
  (19, .iload_n 1, 1, 20, 0, .null, 0),
  (20, .aload_n 0, 1, 21, 0, .null, 0),
  (21, .getfield 38, 3, 24, 10, .ref 4, 307),
  (24, .bipush 10, 2, 26, 0, .int 10, 0),
  (26, .iadd, 1, 27, 0, .null, 0),
  (27, .if_icmp .ge 7, 3, 30, 34, .null, 0),
  (30, .iconst 1, 1, 31, 0, .int 1, 0),
  (31, .goto 4, 3, 34, 35, .null, 0),
  (34, .iconst 0, 1, 35, 0, .int 0, 0),
  (35, .ireturn, 1, 36, 0, .null, 0)])
set_option maxRecDepth 100000 in
theorem mC_isPunishable_ok : xOK mC_isPunishable = true := by decide +kernel
def mC_punisher : XM := (⟨"ChannelNet$Channel", "punisher", "()I"⟩, prog_2_method_12_code, 1, (Option.some FieldType.int), [], [
  (0, .aload_n 0, 1, 1, 0, .null, 0),
  (1, .aload_n 0, 1, 2, 0, .null, 0),
  (2, .getfield 32, 3, 5, 8, .ref 4, 303),
  (5, .invokevirtual 79, 3, 8, 0, .null, 0),
  (8, .ireturn, 1, 9, 0, .null, 0)])
set_option maxRecDepth 100000 in
theorem mC_punisher_ok : xOK mC_punisher = true := by decide +kernel
def mC_closeIfSpent : XM := (⟨"ChannelNet$Channel", "closeIfSpent", "()V"⟩, prog_2_method_14_code, 1, (Option.none : Option FieldType), [], [
  (0, .aload_n 0, 1, 1, 0, .null, 0),
  (1, .getfield 41, 3, 4, 11, .ref 4, 309),
  (4, .ifCond .eq 15, 3, 7, 19, .null, 0),
  (7, .aload_n 0, 1, 8, 0, .null, 0),
  (8, .getfield 51, 3, 11, 7, .ref 4, 301),
  (11, .ifCond .ne 8, 3, 14, 19, .null, 0),
  (14, .aload_n 0, 1, 15, 0, .null, 0),
  (15, .iconst 2, 1, 16, 0, .int 2, 0),
  (16, .putfield 29, 3, 19, 6, .ref 4, 299),
  (19, .return_, 1, 20, 0, .null, 0)])
set_option maxRecDepth 100000 in
theorem mC_closeIfSpent_ok : xOK mC_closeIfSpent = true := by decide +kernel
def mC_promisedIn : XM := (⟨"ChannelNet$Channel", "promisedIn", "(I)I"⟩, prog_2_method_7_code, 4, (Option.some FieldType.int), [], [
  (0, .iconst 0, 1, 1, 0, .int 0, 0),
  (1, .istore_n 2, 1, 2, 0, .null, 0),
  (2, .iconst 0, 1, 3, 0, .int 0, 0),
  (3, .istore_n 3, 1, 4, 0, .null, 0),
  (4, .iload_n 3, 1, 5, 0, .null, 0),
  (5, .aload_n 0, 1, 6, 0, .null, 0),
  (6, .getfield 21, 3, 9, 4, .ref 4, 295),
  (9, .invokevirtual 54, 3, 12, 0, .null, 0),
  (12, .if_icmp .ge 44, 3, 15, 56, .null, 0),
  (15, .aload_n 0, 1, 16, 0, .null, 0),
  (16, .getfield 21, 3, 19, 4, .ref 4, 295),
  (19, .iload_n 3, 1, 20, 0, .null, 0),
  (20, .invokevirtual 58, 3, 23, 0, .null, 0),
  (23, .checkcast 62, 3, 26, 0, .null, 0),
  (26, .iload_n 1, 1, 27, 0, .null, 0),
  (27, .invokevirtual 64, 3, 30, 0, .null, 0),
  (30, .ifCond .eq 20, 3, 33, 50, .null, 0),
  (33, .iload_n 2, 1, 34, 0, .null, 0),
  (34, .aload_n 0, 1, 35, 0, .null, 0),
  (35, .getfield 21, 3, 38, 4, .ref 4, 295),
  (38, .iload_n 3, 1, 39, 0, .null, 0),
  (39, .invokevirtual 58, 3, 42, 0, .null, 0),
  (42, .checkcast 62, 3, 45, 0, .null, 0),
  (45, .getfield 68, 3, 48, 2, .ref 5, 501),
  (48, .iadd, 1, 49, 0, .null, 0),
  (49, .istore_n 2, 1, 50, 0, .null, 0),
  (50, .iinc 3 1, 3, 53, 0, .int 1, 0),
  (53, .goto (-49), 3, 56, 4, .null, 0),
  (56, .iload_n 2, 1, 57, 0, .null, 0),
  (57, .ireturn, 1, 58, 0, .null, 0)])
set_option maxRecDepth 100000 in
theorem mC_promisedIn_ok : xOK mC_promisedIn = true := by decide +kernel
set_option maxRecDepth 100000 in
theorem xcl_ok : xclOK = true := by decide +kernel
end
section
/- Part 12l: method tables, printed by wip/whole/tools -/
def mL_open : XM := (⟨"ChannelNetLaw", "open", "(LChannelNet;IIII[J)I"⟩, method_3_code, 7, (Option.some FieldType.int), [(0, 14, 17, 13), (0, 14, 21, 15), (0, 14, 25, 17)], [
  (0, .aload 5, 2, 2, 0, .null, 0),
  (2, .iconst 0, 1, 3, 0, .int 0, 0),
  (3, .aload_n 0, 1, 4, 0, .null, 0),
  (4, .iload_n 1, 1, 5, 0, .null, 0),
  (5, .iload_n 2, 1, 6, 0, .null, 0),
  (6, .iload_n 3, 1, 7, 0, .null, 0),
  (7, .iload 4, 2, 9, 0, .null, 0),
  (9, .invokevirtual 7, 3, 12, 0, .null, 0),
  (12, .i2l, 1, 13, 0, .null, 0),
  (13, .lastore, 1, 14, 0, .null, 0),
  (14, .goto 15, 3, 17, 29, .null, 0),
  (17, .astore 6, 2, 19, 0, .null, 0),
  (19, .iconst 1, 1, 20, 0, .int 1, 0),
  (20, .ireturn, 1, 21, 0, .null, 0),
  (21, .astore 6, 2, 23, 0, .null, 0),
  (23, .iconst 2, 1, 24, 0, .int 2, 0),
  (24, .ireturn, 1, 25, 0, .null, 0),
  (25, .astore 6, 2, 27, 0, .null, 0),
  (27, .iconst 3, 1, 28, 0, .int 3, 0),
  (28, .ireturn, 1, 29, 0, .null, 0),
  (29, .iconst 0, 1, 30, 0, .int 0, 0),
  (30, .ireturn, 1, 31, 0, .null, 0)])
set_option maxRecDepth 100000 in
theorem mL_open_ok : xOK mL_open = true := by decide +kernel
def mL_fees : XM := (⟨"ChannelNetLaw", "fees", "(LChannelNet;IIII)I"⟩, method_4_code, 6, (Option.some FieldType.int), [(0, 9, 12, 13), (0, 9, 16, 15)], [
  (0, .aload_n 0, 1, 1, 0, .null, 0),
  (1, .iload_n 1, 1, 2, 0, .null, 0),
  (2, .iload_n 2, 1, 3, 0, .null, 0),
  (3, .iload_n 3, 1, 4, 0, .null, 0),
  (4, .iload 4, 2, 6, 0, .null, 0),
  (6, .invokevirtual 19, 3, 9, 0, .null, 0),
  (9, .goto 11, 3, 12, 20, .null, 0),
  (12, .astore 5, 2, 14, 0, .null, 0),
  (14, .iconst 1, 1, 15, 0, .int 1, 0),
  (15, .ireturn, 1, 16, 0, .null, 0),
  (16, .astore 5, 2, 18, 0, .null, 0),
  (18, .iconst 2, 1, 19, 0, .int 2, 0),
  (19, .ireturn, 1, 20, 0, .null, 0),
  (20, .iconst 0, 1, 21, 0, .int 0, 0),
  (21, .ireturn, 1, 22, 0, .null, 0)])
set_option maxRecDepth 100000 in
theorem mL_fees_ok : xOK mL_fees = true := by decide +kernel
def mL_tell : XM := (⟨"ChannelNetLaw", "tell", "(LChannelNet;IJ[J)I"⟩, method_5_code, 6, (Option.some FieldType.int), [(0, 10, 13, 13), (0, 10, 17, 17)], [
  (0, .aload 4, 2, 2, 0, .null, 0),
  (2, .iconst 0, 1, 3, 0, .int 0, 0),
  (3, .aload_n 0, 1, 4, 0, .null, 0),
  (4, .iload_n 1, 1, 5, 0, .null, 0),
  (5, .lload_n 2, 1, 6, 0, .null, 0),
  (6, .invokevirtual 23, 3, 9, 0, .null, 0),
  (9, .lastore, 1, 10, 0, .null, 0),
  (10, .goto 11, 3, 13, 21, .null, 0),
  (13, .astore 5, 2, 15, 0, .null, 0),
  (15, .iconst 1, 1, 16, 0, .int 1, 0),
  (16, .ireturn, 1, 17, 0, .null, 0),
  (17, .astore 5, 2, 19, 0, .null, 0),
  (19, .iconst 2, 1, 20, 0, .int 2, 0),
  (20, .ireturn, 1, 21, 0, .null, 0),
  (21, .iconst 0, 1, 22, 0, .int 0, 0),
  (22, .ireturn, 1, 23, 0, .null, 0)])
set_option maxRecDepth 100000 in
theorem mL_tell_ok : xOK mL_tell = true := by decide +kernel
def mL_knows : XM := (⟨"ChannelNetLaw", "knows", "(LChannelNet;IJ[J)I"⟩, method_6_code, 6, (Option.some FieldType.int), [(0, 18, 21, 13)], [
  (0, .aload 4, 2, 2, 0, .null, 0),
  (2, .iconst 0, 1, 3, 0, .int 0, 0),
  (3, .aload_n 0, 1, 4, 0, .null, 0),
  (4, .iload_n 1, 1, 5, 0, .null, 0),
  (5, .lload_n 2, 1, 6, 0, .null, 0),
  (6, .invokevirtual 27, 3, 9, 0, .null, 0),
  (9, .ifCond .eq 7, 3, 12, 16, .null, 0),
  (12, .lconst 1, 1, 13, 0, .long 1, 0),
  (13, .goto 4, 3, 16, 17, .null, 0),
  (16, .lconst 0, 1, 17, 0, .long 0, 0),
  (17, .lastore, 1, 18, 0, .null, 0),
  (18, .goto 7, 3, 21, 25, .null, 0),
  (21, .astore 5, 2, 23, 0, .null, 0),
  (23, .iconst 1, 1, 24, 0, .int 1, 0),
  (24, .ireturn, 1, 25, 0, .null, 0),
  (25, .iconst 0, 1, 26, 0, .int 0, 0),
  (26, .ireturn, 1, 27, 0, .null, 0)])
set_option maxRecDepth 100000 in
theorem mL_knows_ok : xOK mL_knows = true := by decide +kernel
def mL_promise : XM := (⟨"ChannelNetLaw", "promise", "(LChannelNet;IIIJI[J)I"⟩, method_7_code, 9, (Option.some FieldType.int), [(0, 16, 19, 13), (0, 16, 23, 15), (0, 16, 27, 17)], [
  (0, .aload 7, 2, 2, 0, .null, 0),
  (2, .iconst 0, 1, 3, 0, .int 0, 0),
  (3, .aload_n 0, 1, 4, 0, .null, 0),
  (4, .iload_n 1, 1, 5, 0, .null, 0),
  (5, .iload_n 2, 1, 6, 0, .null, 0),
  (6, .iload_n 3, 1, 7, 0, .null, 0),
  (7, .lload 4, 2, 9, 0, .null, 0),
  (9, .iload 6, 2, 11, 0, .null, 0),
  (11, .invokevirtual 31, 3, 14, 0, .null, 0),
  (14, .i2l, 1, 15, 0, .null, 0),
  (15, .lastore, 1, 16, 0, .null, 0),
  (16, .goto 15, 3, 19, 31, .null, 0),
  (19, .astore 8, 2, 21, 0, .null, 0),
  (21, .iconst 1, 1, 22, 0, .int 1, 0),
  (22, .ireturn, 1, 23, 0, .null, 0),
  (23, .astore 8, 2, 25, 0, .null, 0),
  (25, .iconst 2, 1, 26, 0, .int 2, 0),
  (26, .ireturn, 1, 27, 0, .null, 0),
  (27, .astore 8, 2, 29, 0, .null, 0),
  (29, .iconst 3, 1, 30, 0, .int 3, 0),
  (30, .ireturn, 1, 31, 0, .null, 0),
  (31, .iconst 0, 1, 32, 0, .int 0, 0),
  (32, .ireturn, 1, 33, 0, .null, 0)])
set_option maxRecDepth 100000 in
theorem mL_promise_ok : xOK mL_promise = true := by decide +kernel
def mL_keep : XM := (⟨"ChannelNetLaw", "keep", "(LChannelNet;IIJ[J)I"⟩, method_8_code, 7, (Option.some FieldType.int), [(0, 12, 15, 13), (0, 12, 19, 15), (0, 12, 23, 17)], [
  (0, .aload 5, 2, 2, 0, .null, 0),
  (2, .iconst 0, 1, 3, 0, .int 0, 0),
  (3, .aload_n 0, 1, 4, 0, .null, 0),
  (4, .iload_n 1, 1, 5, 0, .null, 0),
  (5, .iload_n 2, 1, 6, 0, .null, 0),
  (6, .lload_n 3, 1, 7, 0, .null, 0),
  (7, .invokevirtual 35, 3, 10, 0, .null, 0),
  (10, .i2l, 1, 11, 0, .null, 0),
  (11, .lastore, 1, 12, 0, .null, 0),
  (12, .goto 15, 3, 15, 27, .null, 0),
  (15, .astore 6, 2, 17, 0, .null, 0),
  (17, .iconst 1, 1, 18, 0, .int 1, 0),
  (18, .ireturn, 1, 19, 0, .null, 0),
  (19, .astore 6, 2, 21, 0, .null, 0),
  (21, .iconst 2, 1, 22, 0, .int 2, 0),
  (22, .ireturn, 1, 23, 0, .null, 0),
  (23, .astore 6, 2, 25, 0, .null, 0),
  (25, .iconst 3, 1, 26, 0, .int 3, 0),
  (26, .ireturn, 1, 27, 0, .null, 0),
  (27, .iconst 0, 1, 28, 0, .int 0, 0),
  (28, .ireturn, 1, 29, 0, .null, 0)])
set_option maxRecDepth 100000 in
theorem mL_keep_ok : xOK mL_keep = true := by decide +kernel
def mL_drop : XM := (⟨"ChannelNetLaw", "drop", "(LChannelNet;II[J)I"⟩, method_9_code, 5, (Option.some FieldType.int), [(0, 10, 13, 13), (0, 10, 17, 17)], [
  (0, .aload_n 3, 1, 1, 0, .null, 0),
  (1, .iconst 0, 1, 2, 0, .int 0, 0),
  (2, .aload_n 0, 1, 3, 0, .null, 0),
  (3, .iload_n 1, 1, 4, 0, .null, 0),
  (4, .iload_n 2, 1, 5, 0, .null, 0),
  (5, .invokevirtual 39, 3, 8, 0, .null, 0),
  (8, .i2l, 1, 9, 0, .null, 0),
  (9, .lastore, 1, 10, 0, .null, 0),
  (10, .goto 11, 3, 13, 21, .null, 0),
  (13, .astore 4, 2, 15, 0, .null, 0),
  (15, .iconst 1, 1, 16, 0, .int 1, 0),
  (16, .ireturn, 1, 17, 0, .null, 0),
  (17, .astore 4, 2, 19, 0, .null, 0),
  (19, .iconst 2, 1, 20, 0, .int 2, 0),
  (20, .ireturn, 1, 21, 0, .null, 0),
  (21, .iconst 0, 1, 22, 0, .int 0, 0),
  (22, .ireturn, 1, 23, 0, .null, 0)])
set_option maxRecDepth 100000 in
theorem mL_drop_ok : xOK mL_drop = true := by decide +kernel
def mL_close : XM := (⟨"ChannelNetLaw", "close", "(LChannelNet;I)I"⟩, method_10_code, 3, (Option.some FieldType.int), [(0, 5, 8, 13), (0, 5, 11, 17)], [
  (0, .aload_n 0, 1, 1, 0, .null, 0),
  (1, .iload_n 1, 1, 2, 0, .null, 0),
  (2, .invokevirtual 43, 3, 5, 0, .null, 0),
  (5, .goto 9, 3, 8, 14, .null, 0),
  (8, .astore_n 2, 1, 9, 0, .null, 0),
  (9, .iconst 1, 1, 10, 0, .int 1, 0),
  (10, .ireturn, 1, 11, 0, .null, 0),
  (11, .astore_n 2, 1, 12, 0, .null, 0),
  (12, .iconst 2, 1, 13, 0, .int 2, 0),
  (13, .ireturn, 1, 14, 0, .null, 0),
  (14, .iconst 0, 1, 15, 0, .int 0, 0),
  (15, .ireturn, 1, 16, 0, .null, 0)])
set_option maxRecDepth 100000 in
theorem mL_close_ok : xOK mL_close = true := by decide +kernel
def mL_route : XM := (⟨"ChannelNetLaw", "route", "(LChannelNet;III[J)I"⟩, method_11_code, 6, (Option.some FieldType.int), [(0, 12, 15, 13), (0, 12, 19, 15)], [
  (0, .aload 4, 2, 2, 0, .null, 0),
  (2, .iconst 0, 1, 3, 0, .int 0, 0),
  (3, .aload_n 0, 1, 4, 0, .null, 0),
  (4, .iload_n 1, 1, 5, 0, .null, 0),
  (5, .iload_n 2, 1, 6, 0, .null, 0),
  (6, .iload_n 3, 1, 7, 0, .null, 0),
  (7, .invokevirtual 47, 3, 10, 0, .null, 0),
  (10, .i2l, 1, 11, 0, .null, 0),
  (11, .lastore, 1, 12, 0, .null, 0),
  (12, .goto 11, 3, 15, 23, .null, 0),
  (15, .astore 5, 2, 17, 0, .null, 0),
  (17, .iconst 1, 1, 18, 0, .int 1, 0),
  (18, .ireturn, 1, 19, 0, .null, 0),
  (19, .astore 5, 2, 21, 0, .null, 0),
  (21, .iconst 2, 1, 22, 0, .int 2, 0),
  (22, .ireturn, 1, 23, 0, .null, 0),
  (23, .iconst 0, 1, 24, 0, .int 0, 0),
  (24, .ireturn, 1, 25, 0, .null, 0)])
set_option maxRecDepth 100000 in
theorem mL_route_ok : xOK mL_route = true := by decide +kernel
def mL_hop : XM := (⟨"ChannelNetLaw", "hop", "(LChannelNet;I[J)I"⟩, method_12_code, 4, (Option.some FieldType.int), [(0, 9, 12, 13)], [
  (0, .aload_n 2, 1, 1, 0, .null, 0),
  (1, .iconst 0, 1, 2, 0, .int 0, 0),
  (2, .aload_n 0, 1, 3, 0, .null, 0),
  (3, .iload_n 1, 1, 4, 0, .null, 0),
  (4, .invokevirtual 51, 3, 7, 0, .null, 0),
  (7, .i2l, 1, 8, 0, .null, 0),
  (8, .lastore, 1, 9, 0, .null, 0),
  (9, .goto 6, 3, 12, 15, .null, 0),
  (12, .astore_n 3, 1, 13, 0, .null, 0),
  (13, .iconst 1, 1, 14, 0, .int 1, 0),
  (14, .ireturn, 1, 15, 0, .null, 0),
  (15, .iconst 0, 1, 16, 0, .int 0, 0),
  (16, .ireturn, 1, 17, 0, .null, 0)])
set_option maxRecDepth 100000 in
theorem mL_hop_ok : xOK mL_hop = true := by decide +kernel
def mL_pay : XM := (⟨"ChannelNetLaw", "pay", "(LChannelNet;IIIJI[J)I"⟩, method_13_code, 9, (Option.some FieldType.int), [(0, 16, 19, 13), (0, 16, 23, 15), (0, 16, 27, 17)], [
  (0, .aload 7, 2, 2, 0, .null, 0),
  (2, .iconst 0, 1, 3, 0, .int 0, 0),
  (3, .aload_n 0, 1, 4, 0, .null, 0),
  (4, .iload_n 1, 1, 5, 0, .null, 0),
  (5, .iload_n 2, 1, 6, 0, .null, 0),
  (6, .iload_n 3, 1, 7, 0, .null, 0),
  (7, .lload 4, 2, 9, 0, .null, 0),
  (9, .iload 6, 2, 11, 0, .null, 0),
  (11, .invokevirtual 55, 3, 14, 0, .null, 0),
  (14, .i2l, 1, 15, 0, .null, 0),
  (15, .lastore, 1, 16, 0, .null, 0),
  (16, .goto 15, 3, 19, 31, .null, 0),
  (19, .astore 8, 2, 21, 0, .null, 0),
  (21, .iconst 1, 1, 22, 0, .int 1, 0),
  (22, .ireturn, 1, 23, 0, .null, 0),
  (23, .astore 8, 2, 25, 0, .null, 0),
  (25, .iconst 2, 1, 26, 0, .int 2, 0),
  (26, .ireturn, 1, 27, 0, .null, 0),
  (27, .astore 8, 2, 29, 0, .null, 0),
  (29, .iconst 3, 1, 30, 0, .int 3, 0),
  (30, .ireturn, 1, 31, 0, .null, 0),
  (31, .iconst 0, 1, 32, 0, .int 0, 0),
  (32, .ireturn, 1, 33, 0, .null, 0)])
set_option maxRecDepth 100000 in
theorem mL_pay_ok : xOK mL_pay = true := by decide +kernel
def mL_step : XM := (⟨"ChannelNetLaw", "step", "(LChannelNet;I[J)I"⟩, method_14_code, 4, (Option.some FieldType.int), [(0, 9, 12, 13), (0, 9, 15, 17)], [
  (0, .aload_n 2, 1, 1, 0, .null, 0),
  (1, .iconst 0, 1, 2, 0, .int 0, 0),
  (2, .aload_n 0, 1, 3, 0, .null, 0),
  (3, .iload_n 1, 1, 4, 0, .null, 0),
  (4, .invokevirtual 58, 3, 7, 0, .null, 0),
  (7, .i2l, 1, 8, 0, .null, 0),
  (8, .lastore, 1, 9, 0, .null, 0),
  (9, .goto 9, 3, 12, 18, .null, 0),
  (12, .astore_n 3, 1, 13, 0, .null, 0),
  (13, .iconst 1, 1, 14, 0, .int 1, 0),
  (14, .ireturn, 1, 15, 0, .null, 0),
  (15, .astore_n 3, 1, 16, 0, .null, 0),
  (16, .iconst 2, 1, 17, 0, .int 2, 0),
  (17, .ireturn, 1, 18, 0, .null, 0),
  (18, .iconst 0, 1, 19, 0, .int 0, 0),
  (19, .ireturn, 1, 20, 0, .null, 0)])
set_option maxRecDepth 100000 in
theorem mL_step_ok : xOK mL_step = true := by decide +kernel
def mL_payment : XM := (⟨"ChannelNetLaw", "payment", "(LChannelNet;II[J)I"⟩, method_15_code, 5, (Option.some FieldType.int), [(0, 10, 13, 13), (0, 10, 17, 15)], [
  (0, .aload_n 3, 1, 1, 0, .null, 0),
  (1, .iconst 0, 1, 2, 0, .int 0, 0),
  (2, .aload_n 0, 1, 3, 0, .null, 0),
  (3, .iload_n 1, 1, 4, 0, .null, 0),
  (4, .iload_n 2, 1, 5, 0, .null, 0),
  (5, .invokevirtual 61, 3, 8, 0, .null, 0),
  (8, .i2l, 1, 9, 0, .null, 0),
  (9, .lastore, 1, 10, 0, .null, 0),
  (10, .goto 11, 3, 13, 21, .null, 0),
  (13, .astore 4, 2, 15, 0, .null, 0),
  (15, .iconst 1, 1, 16, 0, .int 1, 0),
  (16, .ireturn, 1, 17, 0, .null, 0),
  (17, .astore 4, 2, 19, 0, .null, 0),
  (19, .iconst 2, 1, 20, 0, .int 2, 0),
  (20, .ireturn, 1, 21, 0, .null, 0),
  (21, .iconst 0, 1, 22, 0, .int 0, 0),
  (22, .ireturn, 1, 23, 0, .null, 0)])
set_option maxRecDepth 100000 in
theorem mL_payment_ok : xOK mL_payment = true := by decide +kernel
def mL_publish : XM := (⟨"ChannelNetLaw", "publish", "(LChannelNet;III)I"⟩, method_16_code, 5, (Option.some FieldType.int), [(0, 7, 10, 13), (0, 7, 14, 17)], [
  (0, .aload_n 0, 1, 1, 0, .null, 0),
  (1, .iload_n 1, 1, 2, 0, .null, 0),
  (2, .iload_n 2, 1, 3, 0, .null, 0),
  (3, .iload_n 3, 1, 4, 0, .null, 0),
  (4, .invokevirtual 64, 3, 7, 0, .null, 0),
  (7, .goto 11, 3, 10, 18, .null, 0),
  (10, .astore 4, 2, 12, 0, .null, 0),
  (12, .iconst 1, 1, 13, 0, .int 1, 0),
  (13, .ireturn, 1, 14, 0, .null, 0),
  (14, .astore 4, 2, 16, 0, .null, 0),
  (16, .iconst 2, 1, 17, 0, .int 2, 0),
  (17, .ireturn, 1, 18, 0, .null, 0),
  (18, .iconst 0, 1, 19, 0, .int 0, 0),
  (19, .ireturn, 1, 20, 0, .null, 0)])
set_option maxRecDepth 100000 in
theorem mL_publish_ok : xOK mL_publish = true := by decide +kernel
def mL_punish : XM := (⟨"ChannelNetLaw", "punish", "(LChannelNet;I[J)I"⟩, method_17_code, 4, (Option.some FieldType.int), [(0, 9, 12, 13), (0, 9, 15, 17)], [
  (0, .aload_n 2, 1, 1, 0, .null, 0),
  (1, .iconst 0, 1, 2, 0, .int 0, 0),
  (2, .aload_n 0, 1, 3, 0, .null, 0),
  (3, .iload_n 1, 1, 4, 0, .null, 0),
  (4, .invokevirtual 68, 3, 7, 0, .null, 0),
  (7, .i2l, 1, 8, 0, .null, 0),
  (8, .lastore, 1, 9, 0, .null, 0),
  (9, .goto 9, 3, 12, 18, .null, 0),
  (12, .astore_n 3, 1, 13, 0, .null, 0),
  (13, .iconst 1, 1, 14, 0, .int 1, 0),
  (14, .ireturn, 1, 15, 0, .null, 0),
  (15, .astore_n 3, 1, 16, 0, .null, 0),
  (16, .iconst 2, 1, 17, 0, .int 2, 0),
  (17, .ireturn, 1, 18, 0, .null, 0),
  (18, .iconst 0, 1, 19, 0, .int 0, 0),
  (19, .ireturn, 1, 20, 0, .null, 0)])
set_option maxRecDepth 100000 in
theorem mL_punish_ok : xOK mL_punish = true := by decide +kernel
def mL_claim : XM := (⟨"ChannelNetLaw", "claim", "(LChannelNet;IIJ[J)I"⟩, method_18_code, 7, (Option.some FieldType.int), [(0, 12, 15, 13), (0, 12, 19, 15), (0, 12, 23, 17)], [
  (0, .aload 5, 2, 2, 0, .null, 0),
  (2, .iconst 0, 1, 3, 0, .int 0, 0),
  (3, .aload_n 0, 1, 4, 0, .null, 0),
  (4, .iload_n 1, 1, 5, 0, .null, 0),
  (5, .iload_n 2, 1, 6, 0, .null, 0),
  (6, .lload_n 3, 1, 7, 0, .null, 0),
  (7, .invokevirtual 71, 3, 10, 0, .null, 0),
  (10, .i2l, 1, 11, 0, .null, 0),
  (11, .lastore, 1, 12, 0, .null, 0),
  (12, .goto 15, 3, 15, 27, .null, 0),
  (15, .astore 6, 2, 17, 0, .null, 0),
  (17, .iconst 1, 1, 18, 0, .int 1, 0),
  (18, .ireturn, 1, 19, 0, .null, 0),
  (19, .astore 6, 2, 21, 0, .null, 0),
  (21, .iconst 2, 1, 22, 0, .int 2, 0),
  (22, .ireturn, 1, 23, 0, .null, 0),
  (23, .astore 6, 2, 25, 0, .null, 0),
  (25, .iconst 3, 1, 26, 0, .int 3, 0),
  (26, .ireturn, 1, 27, 0, .null, 0),
  (27, .iconst 0, 1, 28, 0, .int 0, 0),
  (28, .ireturn, 1, 29, 0, .null, 0)])
set_option maxRecDepth 100000 in
theorem mL_claim_ok : xOK mL_claim = true := by decide +kernel
def mL_takeBack : XM := (⟨"ChannelNetLaw", "takeBack", "(LChannelNet;II[J)I"⟩, method_19_code, 5, (Option.some FieldType.int), [(0, 10, 13, 13), (0, 10, 17, 17)], [
  (0, .aload_n 3, 1, 1, 0, .null, 0),
  (1, .iconst 0, 1, 2, 0, .int 0, 0),
  (2, .aload_n 0, 1, 3, 0, .null, 0),
  (3, .iload_n 1, 1, 4, 0, .null, 0),
  (4, .iload_n 2, 1, 5, 0, .null, 0),
  (5, .invokevirtual 74, 3, 8, 0, .null, 0),
  (8, .i2l, 1, 9, 0, .null, 0),
  (9, .lastore, 1, 10, 0, .null, 0),
  (10, .goto 11, 3, 13, 21, .null, 0),
  (13, .astore 4, 2, 15, 0, .null, 0),
  (15, .iconst 1, 1, 16, 0, .int 1, 0),
  (16, .ireturn, 1, 17, 0, .null, 0),
  (17, .astore 4, 2, 19, 0, .null, 0),
  (19, .iconst 2, 1, 20, 0, .int 2, 0),
  (20, .ireturn, 1, 21, 0, .null, 0),
  (21, .iconst 0, 1, 22, 0, .int 0, 0),
  (22, .ireturn, 1, 23, 0, .null, 0)])
set_option maxRecDepth 100000 in
theorem mL_takeBack_ok : xOK mL_takeBack = true := by decide +kernel
def mL_settle : XM := (⟨"ChannelNetLaw", "settle", "(LChannelNet;I[J)I"⟩, method_20_code, 4, (Option.some FieldType.int), [(0, 9, 12, 13), (0, 9, 15, 17)], [
  (0, .aload_n 2, 1, 1, 0, .null, 0),
  (1, .iconst 0, 1, 2, 0, .int 0, 0),
  (2, .aload_n 0, 1, 3, 0, .null, 0),
  (3, .iload_n 1, 1, 4, 0, .null, 0),
  (4, .invokevirtual 77, 3, 7, 0, .null, 0),
  (7, .i2l, 1, 8, 0, .null, 0),
  (8, .lastore, 1, 9, 0, .null, 0),
  (9, .goto 9, 3, 12, 18, .null, 0),
  (12, .astore_n 3, 1, 13, 0, .null, 0),
  (13, .iconst 1, 1, 14, 0, .int 1, 0),
  (14, .ireturn, 1, 15, 0, .null, 0),
  (15, .astore_n 3, 1, 16, 0, .null, 0),
  (16, .iconst 2, 1, 17, 0, .int 2, 0),
  (17, .ireturn, 1, 18, 0, .null, 0),
  (18, .iconst 0, 1, 19, 0, .int 0, 0),
  (19, .ireturn, 1, 20, 0, .null, 0)])
set_option maxRecDepth 100000 in
theorem mL_settle_ok : xOK mL_settle = true := by decide +kernel
def mL_watch : XM := (⟨"ChannelNetLaw", "watch", "(LChannelNet;IZ)I"⟩, method_21_code, 4, (Option.some FieldType.int), [(0, 6, 9, 13)], [
  (0, .aload_n 0, 1, 1, 0, .null, 0),
  (1, .iload_n 1, 1, 2, 0, .null, 0),
  (2, .iload_n 2, 1, 3, 0, .null, 0),
  (3, .invokevirtual 80, 3, 6, 0, .null, 0),
  (6, .goto 6, 3, 9, 12, .null, 0),
  (9, .astore_n 3, 1, 10, 0, .null, 0),
  (10, .iconst 1, 1, 11, 0, .int 1, 0),
  (11, .ireturn, 1, 12, 0, .null, 0),
  (12, .iconst 0, 1, 13, 0, .int 0, 0),
  (13, .ireturn, 1, 14, 0, .null, 0)])
set_option maxRecDepth 100000 in
theorem mL_watch_ok : xOK mL_watch = true := by decide +kernel
def mL_grow : XM := (⟨"ChannelNetLaw", "grow", "(LChannelNet;I[J)I"⟩, method_22_code, 4, (Option.some FieldType.int), [(0, 9, 12, 15)], [
  (0, .aload_n 2, 1, 1, 0, .null, 0),
  (1, .iconst 0, 1, 2, 0, .int 0, 0),
  (2, .aload_n 0, 1, 3, 0, .null, 0),
  (3, .iload_n 1, 1, 4, 0, .null, 0),
  (4, .invokevirtual 84, 3, 7, 0, .null, 0),
  (7, .i2l, 1, 8, 0, .null, 0),
  (8, .lastore, 1, 9, 0, .null, 0),
  (9, .goto 6, 3, 12, 15, .null, 0),
  (12, .astore_n 3, 1, 13, 0, .null, 0),
  (13, .iconst 1, 1, 14, 0, .int 1, 0),
  (14, .ireturn, 1, 15, 0, .null, 0),
  (15, .iconst 0, 1, 16, 0, .int 0, 0),
  (16, .ireturn, 1, 17, 0, .null, 0)])
set_option maxRecDepth 100000 in
theorem mL_grow_ok : xOK mL_grow = true := by decide +kernel
def mL_coins : XM := (⟨"ChannelNetLaw", "coins", "(LChannelNet;I[J)I"⟩, method_23_code, 4, (Option.some FieldType.int), [(0, 9, 12, 13)], [
  (0, .aload_n 2, 1, 1, 0, .null, 0),
  (1, .iconst 0, 1, 2, 0, .int 0, 0),
  (2, .aload_n 0, 1, 3, 0, .null, 0),
  (3, .iload_n 1, 1, 4, 0, .null, 0),
  (4, .invokevirtual 87, 3, 7, 0, .null, 0),
  (7, .i2l, 1, 8, 0, .null, 0),
  (8, .lastore, 1, 9, 0, .null, 0),
  (9, .goto 6, 3, 12, 15, .null, 0),
  (12, .astore_n 3, 1, 13, 0, .null, 0),
  (13, .iconst 1, 1, 14, 0, .int 1, 0),
  (14, .ireturn, 1, 15, 0, .null, 0),
  (15, .iconst 0, 1, 16, 0, .int 0, 0),
  (16, .ireturn, 1, 17, 0, .null, 0)])
set_option maxRecDepth 100000 in
theorem mL_coins_ok : xOK mL_coins = true := by decide +kernel
def mL_channel : XM := (⟨"ChannelNetLaw", "channel", "(LChannelNet;II[J)I"⟩, method_24_code, 5, (Option.some FieldType.int), [(0, 10, 13, 13), (0, 10, 17, 15)], [
  (0, .aload_n 3, 1, 1, 0, .null, 0),
  (1, .iconst 0, 1, 2, 0, .int 0, 0),
  (2, .aload_n 0, 1, 3, 0, .null, 0),
  (3, .iload_n 1, 1, 4, 0, .null, 0),
  (4, .iload_n 2, 1, 5, 0, .null, 0),
  (5, .invokevirtual 90, 3, 8, 0, .null, 0),
  (8, .i2l, 1, 9, 0, .null, 0),
  (9, .lastore, 1, 10, 0, .null, 0),
  (10, .goto 11, 3, 13, 21, .null, 0),
  (13, .astore 4, 2, 15, 0, .null, 0),
  (15, .iconst 1, 1, 16, 0, .int 1, 0),
  (16, .ireturn, 1, 17, 0, .null, 0),
  (17, .astore 4, 2, 19, 0, .null, 0),
  (19, .iconst 2, 1, 20, 0, .int 2, 0),
  (20, .ireturn, 1, 21, 0, .null, 0),
  (21, .iconst 0, 1, 22, 0, .int 0, 0),
  (22, .ireturn, 1, 23, 0, .null, 0)])
set_option maxRecDepth 100000 in
theorem mL_channel_ok : xOK mL_channel = true := by decide +kernel
def mL_state : XM := (⟨"ChannelNetLaw", "state", "(LChannelNet;III[J)I"⟩, method_25_code, 6, (Option.some FieldType.int), [(0, 12, 15, 13), (0, 12, 19, 15)], [
  (0, .aload 4, 2, 2, 0, .null, 0),
  (2, .iconst 0, 1, 3, 0, .int 0, 0),
  (3, .aload_n 0, 1, 4, 0, .null, 0),
  (4, .iload_n 1, 1, 5, 0, .null, 0),
  (5, .iload_n 2, 1, 6, 0, .null, 0),
  (6, .iload_n 3, 1, 7, 0, .null, 0),
  (7, .invokevirtual 93, 3, 10, 0, .null, 0),
  (10, .i2l, 1, 11, 0, .null, 0),
  (11, .lastore, 1, 12, 0, .null, 0),
  (12, .goto 11, 3, 15, 23, .null, 0),
  (15, .astore 5, 2, 17, 0, .null, 0),
  (17, .iconst 1, 1, 18, 0, .int 1, 0),
  (18, .ireturn, 1, 19, 0, .null, 0),
  (19, .astore 5, 2, 21, 0, .null, 0),
  (21, .iconst 2, 1, 22, 0, .int 2, 0),
  (22, .ireturn, 1, 23, 0, .null, 0),
  (23, .iconst 0, 1, 24, 0, .int 0, 0),
  (24, .ireturn, 1, 25, 0, .null, 0)])
set_option maxRecDepth 100000 in
theorem mL_state_ok : xOK mL_state = true := by decide +kernel
def mL_made : XM := (⟨"ChannelNetLaw", "made", "(LChannelNet;III[J)I"⟩, method_26_code, 6, (Option.some FieldType.int), [(0, 12, 15, 13), (0, 12, 19, 15)], [
  (0, .aload 4, 2, 2, 0, .null, 0),
  (2, .iconst 0, 1, 3, 0, .int 0, 0),
  (3, .aload_n 0, 1, 4, 0, .null, 0),
  (4, .iload_n 1, 1, 5, 0, .null, 0),
  (5, .iload_n 2, 1, 6, 0, .null, 0),
  (6, .iload_n 3, 1, 7, 0, .null, 0),
  (7, .invokevirtual 96, 3, 10, 0, .null, 0),
  (10, .i2l, 1, 11, 0, .null, 0),
  (11, .lastore, 1, 12, 0, .null, 0),
  (12, .goto 11, 3, 15, 23, .null, 0),
  (15, .astore 5, 2, 17, 0, .null, 0),
  (17, .iconst 1, 1, 18, 0, .int 1, 0),
  (18, .ireturn, 1, 19, 0, .null, 0),
  (19, .astore 5, 2, 21, 0, .null, 0),
  (21, .iconst 2, 1, 22, 0, .int 2, 0),
  (22, .ireturn, 1, 23, 0, .null, 0),
  (23, .iconst 0, 1, 24, 0, .int 0, 0),
  (24, .ireturn, 1, 25, 0, .null, 0)])
set_option maxRecDepth 100000 in
theorem mL_made_ok : xOK mL_made = true := by decide +kernel
end
section
/- Part 12m: method tables, printed by wip/whole/tools -/
def mM_init : XM := (⟨"ChannelNetModel", "<init>", "()V"⟩, prog_8_method_1_code, 1, (Option.none : Option FieldType), [], [
  (0, .aload_n 0, 1, 1, 0, .null, 0),
  (1, .invokespecial 1, 3, 4, 0, .null, 0),
  (4, .aload_n 0, 1, 5, 0, .null, 0),
  (5, .bipush 6, 2, 7, 0, .int 6, 0),
  (7, .newarray .int, 2, 9, 0, .null, 0),
  (9, .dup, 1, 10, 0, .null, 0),
  (10, .iconst 0, 1, 11, 0, .int 0, 0),
  (11, .ldc 7, 2, 13, 0, .int 1000000, 860),
  (13, .iastore, 1, 14, 0, .null, 0),
  (14, .dup, 1, 15, 0, .null, 0),
  (15, .iconst 1, 1, 16, 0, .int 1, 0),
  (16, .ldc 7, 2, 18, 0, .int 1000000, 860),
  (18, .iastore, 1, 19, 0, .null, 0),
  (19, .dup, 1, 20, 0, .null, 0),
  (20, .iconst 2, 1, 21, 0, .int 2, 0),
  (21, .ldc 7, 2, 23, 0, .int 1000000, 860),
  (23, .iastore, 1, 24, 0, .null, 0),
  (24, .dup, 1, 25, 0, .null, 0),
  (25, .iconst 3, 1, 26, 0, .int 3, 0),
  (26, .ldc 7, 2, 28, 0, .int 1000000, 860),
  (28, .iastore, 1, 29, 0, .null, 0),
  (29, .dup, 1, 30, 0, .null, 0),
  (30, .iconst 4, 1, 31, 0, .int 4, 0),
  (31, .ldc 7, 2, 33, 0, .int 1000000, 860),
  (33, .iastore, 1, 34, 0, .null, 0),
  (34, .dup, 1, 35, 0, .null, 0),
  (35, .iconst 5, 1, 36, 0, .int 5, 0),
  (36, .ldc 7, 2, 38, 0, .int 1000000, 860),
  (38, .iastore, 1, 39, 0, .null, 0),
  (39, .putfield 8, 3, 42, 1, .ref 7, 862),
  (42, .aload_n 0, 1, 43, 0, .null, 0),
  (43, .bipush 6, 2, 45, 0, .int 6, 0),
  (45, .newarray .int, 2, 47, 0, .null, 0),
  (47, .putfield 14, 3, 50, 2, .ref 7, 863),
  (50, .aload_n 0, 1, 51, 0, .null, 0),
  (51, .bipush 6, 2, 53, 0, .int 6, 0),
  (53, .newarray .int, 2, 55, 0, .null, 0),
  (55, .putfield 17, 3, 58, 3, .ref 7, 864),
  (58, .aload_n 0, 1, 59, 0, .null, 0),
  (59, .bipush 6, 2, 61, 0, .int 6, 0),
  (61, .newarray .int, 2, 63, 0, .null, 0),
  (63, .dup, 1, 64, 0, .null, 0),
  (64, .iconst 0, 1, 65, 0, .int 0, 0),
  (65, .iconst 1, 1, 66, 0, .int 1, 0),
  (66, .iastore, 1, 67, 0, .null, 0),
  (67, .dup, 1, 68, 0, .null, 0),
  (68, .iconst 1, 1, 69, 0, .int 1, 0),
  (69, .iconst 1, 1, 70, 0, .int 1, 0),
  (70, .iastore, 1, 71, 0, .null, 0),
  (71, .dup, 1, 72, 0, .null, 0),
  (72, .iconst 2, 1, 73, 0, .int 2, 0),
  (73, .iconst 1, 1, 74, 0, .int 1, 0),
  (74, .iastore, 1, 75, 0, .null, 0),
  (75, .dup, 1, 76, 0, .null, 0),
  (76, .iconst 3, 1, 77, 0, .int 3, 0),
  (77, .iconst 1, 1, 78, 0, .int 1, 0),
  (78, .iastore, 1, 79, 0, .null, 0),
  (79, .dup, 1, 80, 0, .null, 0),
  (80, .iconst 4, 1, 81, 0, .int 4, 0),
  (81, .iconst 1, 1, 82, 0, .int 1, 0),
  (82, .iastore, 1, 83, 0, .null, 0),
  (83, .dup, 1, 84, 0, .null, 0),
  (84, .iconst 5, 1, 85, 0, .int 5, 0),
  (85, .iconst 1, 1, 86, 0, .int 1, 0),
  (86, .iastore, 1, 87, 0, .null, 0),
  (87, .putfield 20, 3, 90, 4, .ref 7, 865),
  (90, .aload_n 0, 1, 91, 0, .null, 0),
  (91, .bipush 6, 2, 93, 0, .int 6, 0),
  (93, .newarray .boolean, 2, 95, 0, .null, 0),
  (95, .putfield 23, 3, 98, 5, .ref 7, 866),
  (98, .aload_n 0, 1, 99, 0, .null, 0),
  (99, .bipush 8, 2, 101, 0, .int 8, 0),
  (101, .newarray .int, 2, 103, 0, .null, 0),
  (103, .putfield 27, 3, 106, 8, .ref 7, 869),
  (106, .aload_n 0, 1, 107, 0, .null, 0),
  (107, .bipush 8, 2, 109, 0, .int 8, 0),
  (109, .newarray .int, 2, 111, 0, .null, 0),
  (111, .putfield 30, 3, 114, 9, .ref 7, 870),
  (114, .aload_n 0, 1, 115, 0, .null, 0),
  (115, .bipush 8, 2, 117, 0, .int 8, 0),
  (117, .newarray .int, 2, 119, 0, .null, 0),
  (119, .putfield 33, 3, 122, 10, .ref 7, 871),
  (122, .aload_n 0, 1, 123, 0, .null, 0),
  (123, .bipush 8, 2, 125, 0, .int 8, 0),
  (125, .newarray .int, 2, 127, 0, .null, 0),
  (127, .putfield 36, 3, 130, 11, .ref 7, 872),
  (130, .aload_n 0, 1, 131, 0, .null, 0),
  (131, .sipush 1024, 3, 134, 0, .int 1024, 0),
  (134, .newarray .int, 2, 136, 0, .null, 0),
  (136, .putfield 39, 3, 139, 12, .ref 7, 873),
  (139, .aload_n 0, 1, 140, 0, .null, 0),
  (140, .sipush 512, 3, 143, 0, .int 512, 0),
  (143, .newarray .long, 2, 145, 0, .null, 0),
  (145, .putfield 42, 3, 148, 13, .ref 7, 874),
  (148, .aload_n 0, 1, 149, 0, .null, 0),
  (149, .bipush 8, 2, 151, 0, .int 8, 0),
  (151, .newarray .int, 2, 153, 0, .null, 0),
  (153, .putfield 46, 3, 156, 14, .ref 7, 875),
  (156, .aload_n 0, 1, 157, 0, .null, 0),
  (157, .bipush 8, 2, 159, 0, .int 8, 0),
  (159, .newarray .int, 2, 161, 0, .null, 0),
  (161, .putfield 49, 3, 164, 15, .ref 7, 876),
  (164, .aload_n 0, 1, 165, 0, .null, 0),
  (165, .sipush 512, 3, 168, 0, .int 512, 0),
  (168, .newarray .int, 2, 170, 0, .null, 0),
  (170, .putfield 52, 3, 173, 16, .ref 7, 877),
  (173, .aload_n 0, 1, 174, 0, .null, 0),
  (174, .sipush 512, 3, 177, 0, .int 512, 0),
  (177, .newarray .int, 2, 179, 0, .null, 0),
  (179, .putfield 55, 3, 182, 17, .ref 7, 878),
  (182, .aload_n 0, 1, 183, 0, .null, 0),
  (183, .sipush 512, 3, 186, 0, .int 512, 0),
  (186, .newarray .long, 2, 188, 0, .null, 0),
  (188, .putfield 58, 3, 191, 18, .ref 7, 879),
  (191, .aload_n 0, 1, 192, 0, .null, 0),
  (192, .sipush 512, 3, 195, 0, .int 512, 0),
  (195, .newarray .int, 2, 197, 0, .null, 0),
  (197, .putfield 61, 3, 200, 19, .ref 7, 880),
  (200, .aload_n 0, 1, 201, 0, .null, 0),
  (201, .bipush 8, 2, 203, 0, .int 8, 0),
  (203, .newarray .int, 2, 205, 0, .null, 0),
  (205, .dup, 1, 206, 0, .null, 0),
  (206, .iconst 0, 1, 207, 0, .int 0, 0),
  (207, .iconst (-1), 1, 208, 0, .int (-1), 0),
  (208, .iastore, 1, 209, 0, .null, 0),
  (209, .dup, 1, 210, 0, .null, 0),
  (210, .iconst 1, 1, 211, 0, .int 1, 0),
  (211, .iconst (-1), 1, 212, 0, .int (-1), 0),
  (212, .iastore, 1, 213, 0, .null, 0),
  (213, .dup, 1, 214, 0, .null, 0),
  (214, .iconst 2, 1, 215, 0, .int 2, 0),
  (215, .iconst (-1), 1, 216, 0, .int (-1), 0),
  (216, .iastore, 1, 217, 0, .null, 0),
  (217, .dup, 1, 218, 0, .null, 0),
  (218, .iconst 3, 1, 219, 0, .int 3, 0),
  (219, .iconst (-1), 1, 220, 0, .int (-1), 0),
  (220, .iastore, 1, 221, 0, .null, 0),
  (221, .dup, 1, 222, 0, .null, 0),
  (222, .iconst 4, 1, 223, 0, .int 4, 0),
  (223, .iconst (-1), 1, 224, 0, .int (-1), 0),
  (224, .iastore, 1, 225, 0, .null, 0),
  (225, .dup, 1, 226, 0, .null, 0),
  (226, .iconst 5, 1, 227, 0, .int 5, 0),
  (227, .iconst (-1), 1, 228, 0, .int (-1), 0),
  (228, .iastore, 1, 229, 0, .null, 0),
  (229, .dup, 1, 230, 0, .null, 0),
  (230, .bipush 6, 2, 232, 0, .int 6, 0),
  (232, .iconst (-1), 1, 233, 0, .int (-1), 0),
  (233, .iastore, 1, 234, 0, .null, 0),
  (234, .dup, 1, 235, 0, .null, 0),
  (235, .bipush 7, 2, 237, 0, .int 7, 0),
  (237, .iconst (-1), 1, 238, 0, .int (-1), 0),
  (238, .iastore, 1, 239, 0, .null, 0),
  (239, .putfield 64, 3, 242, 20, .ref 7, 881),
  (242, .aload_n 0, 1, 243, 0, .null, 0),
  (243, .bipush 8, 2, 245, 0, .int 8, 0),
  (245, .newarray .int, 2, 247, 0, .null, 0),
  (247, .putfield 67, 3, 250, 21, .ref 7, 882),
  (250, .aload_n 0, 1, 251, 0, .null, 0),
  (251, .bipush 8, 2, 253, 0, .int 8, 0),
  (253, .newarray .int, 2, 255, 0, .null, 0),
  (255, .dup, 1, 256, 0, .null, 0),
  (256, .iconst 0, 1, 257, 0, .int 0, 0),
  (257, .iconst (-1), 1, 258, 0, .int (-1), 0),
  (258, .iastore, 1, 259, 0, .null, 0),
  (259, .dup, 1, 260, 0, .null, 0),
  (260, .iconst 1, 1, 261, 0, .int 1, 0),
  (261, .iconst (-1), 1, 262, 0, .int (-1), 0),
  (262, .iastore, 1, 263, 0, .null, 0),
  (263, .dup, 1, 264, 0, .null, 0),
  (264, .iconst 2, 1, 265, 0, .int 2, 0),
  (265, .iconst (-1), 1, 266, 0, .int (-1), 0),
  (266, .iastore, 1, 267, 0, .null, 0),
  (267, .dup, 1, 268, 0, .null, 0),
  (268, .iconst 3, 1, 269, 0, .int 3, 0),
  (269, .iconst (-1), 1, 270, 0, .int (-1), 0),
  (270, .iastore, 1, 271, 0, .null, 0),
  (271, .dup, 1, 272, 0, .null, 0),
  (272, .iconst 4, 1, 273, 0, .int 4, 0),
  (273, .iconst (-1), 1, 274, 0, .int (-1), 0),
  (274, .iastore, 1, 275, 0, .null, 0),
  (275, .dup, 1, 276, 0, .null, 0),
  (276, .iconst 5, 1, 277, 0, .int 5, 0),
  (277, .iconst (-1), 1, 278, 0, .int (-1), 0),
  (278, .iastore, 1, 279, 0, .null, 0),
  (279, .dup, 1, 280, 0, .null, 0),
  (280, .bipush 6, 2, 282, 0, .int 6, 0),
  (282, .iconst (-1), 1, 283, 0, .int (-1), 0),
  (283, .iastore, 1, 284, 0, .null, 0),
  (284, .dup, 1, 285, 0, .null, 0),
  (285, .bipush 7, 2, 287, 0, .int 7, 0),
  (287, .iconst (-1), 1, 288, 0, .int (-1), 0),
  (288, .iastore, 1, 289, 0, .null, 0),
  (289, .putfield 70, 3, 292, 22, .ref 7, 883),
  (292, .aload_n 0, 1, 293, 0, .null, 0),
  (293, .bipush 8, 2, 295, 0, .int 8, 0),
  (295, .newarray .long, 2, 297, 0, .null, 0),
  (297, .putfield 73, 3, 300, 23, .ref 7, 884),
  (300, .aload_n 0, 1, 301, 0, .null, 0),
  (301, .bipush 8, 2, 303, 0, .int 8, 0),
  (303, .newarray .boolean, 2, 305, 0, .null, 0),
  (305, .putfield 76, 3, 308, 24, .ref 7, 885),
  (308, .aload_n 0, 1, 309, 0, .null, 0),
  (309, .bipush 24, 2, 311, 0, .int 24, 0),
  (311, .newarray .long, 2, 313, 0, .null, 0),
  (313, .putfield 79, 3, 316, 26, .ref 7, 887),
  (316, .aload_n 0, 1, 317, 0, .null, 0),
  (317, .bipush 24, 2, 319, 0, .int 24, 0),
  (319, .newarray .int, 2, 321, 0, .null, 0),
  (321, .putfield 82, 3, 324, 27, .ref 7, 888),
  (324, .aload_n 0, 1, 325, 0, .null, 0),
  (325, .iconst 5, 1, 326, 0, .int 5, 0),
  (326, .newarray .int, 2, 328, 0, .null, 0),
  (328, .putfield 85, 3, 331, 29, .ref 7, 890),
  (331, .aload_n 0, 1, 332, 0, .null, 0),
  (332, .iconst 5, 1, 333, 0, .int 5, 0),
  (333, .newarray .int, 2, 335, 0, .null, 0),
  (335, .putfield 88, 3, 338, 31, .ref 7, 892),
  (338, .aload_n 0, 1, 339, 0, .null, 0),
  (339, .bipush 6, 2, 341, 0, .int 6, 0),
  (341, .newarray .long, 2, 343, 0, .null, 0),
  (343, .putfield 91, 3, 346, 32, .ref 7, 893),
  (346, .aload_n 0, 1, 347, 0, .null, 0),
  (347, .bipush 6, 2, 349, 0, .int 6, 0),
  (349, .newarray .int, 2, 351, 0, .null, 0),
  (351, .putfield 94, 3, 354, 33, .ref 7, 894),
  (354, .aload_n 0, 1, 355, 0, .null, 0),
  (355, .bipush 16, 2, 357, 0, .int 16, 0),
  (357, .newarray .int, 2, 359, 0, .null, 0),
  (359, .putfield 97, 3, 362, 35, .ref 7, 896),
  (362, .aload_n 0, 1, 363, 0, .null, 0),
  (363, .bipush 16, 2, 365, 0, .int 16, 0),
  (365, .newarray .int, 2, 367, 0, .null, 0),
  (367, .putfield 100, 3, 370, 36, .ref 7, 897),
  (370, .aload_n 0, 1, 371, 0, .null, 0),
  (371, .bipush 16, 2, 373, 0, .int 16, 0),
  (373, .newarray .int, 2, 375, 0, .null, 0),
  (375, .putfield 103, 3, 378, 37, .ref 7, 898),
  (378, .aload_n 0, 1, 379, 0, .null, 0),
  (379, .bipush 16, 2, 381, 0, .int 16, 0),
  (381, .newarray .int, 2, 383, 0, .null, 0),
  (383, .putfield 106, 3, 386, 38, .ref 7, 899),
  (386, .aload_n 0, 1, 387, 0, .null, 0),
  (387, .bipush 16, 2, 389, 0, .int 16, 0),
  (389, .newarray .int, 2, 391, 0, .null, 0),
  (391, .putfield 109, 3, 394, 39, .ref 7, 900),
  (394, .aload_n 0, 1, 395, 0, .null, 0),
  (395, .bipush 16, 2, 397, 0, .int 16, 0),
  (397, .newarray .int, 2, 399, 0, .null, 0),
  (399, .putfield 112, 3, 402, 40, .ref 7, 901),
  (402, .aload_n 0, 1, 403, 0, .null, 0),
  (403, .bipush 16, 2, 405, 0, .int 16, 0),
  (405, .newarray .int, 2, 407, 0, .null, 0),
  (407, .putfield 115, 3, 410, 41, .ref 7, 902),
  (410, .aload_n 0, 1, 411, 0, .null, 0),
  (411, .bipush 16, 2, 413, 0, .int 16, 0),
  (413, .newarray .long, 2, 415, 0, .null, 0),
  (415, .putfield 118, 3, 418, 42, .ref 7, 903),
  (418, .aload_n 0, 1, 419, 0, .null, 0),
  (419, .bipush 80, 2, 421, 0, .int 80, 0),
  (421, .newarray .int, 2, 423, 0, .null, 0),
  (423, .putfield 121, 3, 426, 43, .ref 7, 904),
  (426, .aload_n 0, 1, 427, 0, .null, 0),
  (427, .bipush 80, 2, 429, 0, .int 80, 0),
  (429, .newarray .int, 2, 431, 0, .null, 0),
  (431, .putfield 124, 3, 434, 44, .ref 7, 905),
  (434, .aload_n 0, 1, 435, 0, .null, 0),
  (435, .bipush 80, 2, 437, 0, .int 80, 0),
  (437, .newarray .int, 2, 439, 0, .null, 0),
  (439, .putfield 127, 3, 442, 45, .ref 7, 906),
  (442, .aload_n 0, 1, 443, 0, .null, 0),
  (443, .bipush 80, 2, 445, 0, .int 80, 0),
  (445, .newarray .int, 2, 447, 0, .null, 0),
  (447, .putfield 130, 3, 450, 46, .ref 7, 907),
  (450, .aload_n 0, 1, 451, 0, .null, 0),
  (451, .bipush 80, 2, 453, 0, .int 80, 0),
  (453, .newarray .int, 2, 455, 0, .null, 0),
  (455, .putfield 133, 3, 458, 47, .ref 7, 908),
  (458, .return_, 1, 459, 0, .null, 0)])
set_option maxRecDepth 100000 in
theorem mM_init_ok : xOK mM_init = true := by decide +kernel
def mM_thrown : XM := (⟨"ChannelNetModel", "thrown", "()I"⟩, prog_8_method_2_code, 1, (Option.some FieldType.int), [], [
  (0, .aload_n 0, 1, 1, 0, .null, 0),
  (1, .getfield 136, 3, 4, 0, .ref 7, 861),
  (4, .ireturn, 1, 5, 0, .null, 0)])
set_option maxRecDepth 100000 in
theorem mM_thrown_ok : xOK mM_thrown = true := by decide +kernel
def mM_tell : XM := (⟨"ChannelNetModel", "tell", "(IJ)J"⟩, prog_8_method_11_code, 6, (Option.some FieldType.long), [], [
  (0, .lload_n 2, 1, 1, 0, .null, 0),
  (1, .invokestatic 158, 3, 4, 0, .null, 0),
  (4, .lstore 4, 2, 6, 0, .null, 0),
  (6, .aload_n 0, 1, 7, 0, .null, 0),
  (7, .iload_n 1, 1, 8, 0, .null, 0),
  (8, .invokestatic 162, 3, 11, 0, .null, 0),
  (11, .ifCond .ne 7, 3, 14, 18, .null, 0),
  (14, .iconst 1, 1, 15, 0, .int 1, 0),
  (15, .goto 17, 3, 18, 32, .null, 0),
  (18, .aload_n 0, 1, 19, 0, .null, 0),
  (19, .lload 4, 2, 21, 0, .null, 0),
  (21, .invokevirtual 166, 3, 24, 0, .null, 0),
  (24, .ifCond .ne 7, 3, 27, 31, .null, 0),
  (27, .iconst 2, 1, 28, 0, .int 2, 0),
  (28, .goto 4, 3, 31, 32, .null, 0),
  (31, .iconst 0, 1, 32, 0, .int 0, 0),
  (32, .putfield 136, 3, 35, 0, .ref 7, 861),
  (35, .aload_n 0, 1, 36, 0, .null, 0),
  (36, .getfield 136, 3, 39, 0, .ref 7, 861),
  (39, .ifCond .le 5, 3, 42, 44, .null, 0),
  (42, .lconst 0, 1, 43, 0, .long 0, 0),
  (43, .lreturn, 1, 44, 0, .null, 0),
  (44, .aload_n 0, 1, 45, 0, .null, 0),
  (45, .lload 4, 2, 47, 0, .null, 0),
  (47, .iconst 1, 1, 48, 0, .int 1, 0),
  (48, .iload_n 1, 1, 49, 0, .null, 0),
  (49, .ishl, 1, 50, 0, .null, 0),
  (50, .invokevirtual 170, 3, 53, 0, .null, 0),
  (53, .lload 4, 2, 55, 0, .null, 0),
  (55, .lreturn, 1, 56, 0, .null, 0)])
set_option maxRecDepth 100000 in
theorem mM_tell_ok : xOK mM_tell = true := by decide +kernel
def mM_lockOf : XM := (⟨"ChannelNetModel", "lockOf", "(J)J"⟩, prog_8_method_6_code, 4, (Option.some FieldType.long), [], [
  (0, .lload_n 0, 1, 1, 0, .null, 0),
  (1, .ldc2_w 147, 3, 4, 0, .long 7046029254386353131, 1017),
  (4, .lmul, 1, 5, 0, .null, 0),
  (5, .lstore_n 2, 1, 6, 0, .null, 0),
  (6, .lload_n 2, 1, 7, 0, .null, 0),
  (7, .lload_n 2, 1, 8, 0, .null, 0),
  (8, .bipush 29, 2, 10, 0, .int 29, 0),
  (10, .lushr, 1, 11, 0, .null, 0),
  (11, .lxor, 1, 12, 0, .null, 0),
  (12, .lstore_n 2, 1, 13, 0, .null, 0),
  (13, .lload_n 2, 1, 14, 0, .null, 0),
  (14, .ldc2_w 149, 3, 17, 0, .long 4768777513237032717, 1018),
  (17, .lmul, 1, 18, 0, .null, 0),
  (18, .lstore_n 2, 1, 19, 0, .null, 0),
  (19, .lload_n 2, 1, 20, 0, .null, 0),
  (20, .lload_n 2, 1, 21, 0, .null, 0),
  (21, .bipush 32, 2, 23, 0, .int 32, 0),
  (23, .lushr, 1, 24, 0, .null, 0),
  (24, .lxor, 1, 25, 0, .null, 0),
  (25, .lreturn, 1, 26, 0, .null, 0)])
set_option maxRecDepth 100000 in
theorem mM_lockOf_ok : xOK mM_lockOf = true := by decide +kernel
def mM_isNode : XM := (⟨"ChannelNetModel", "isNode", "(I)Z"⟩, prog_8_method_4_code, 1, (Option.some FieldType.boolean), [], [
  (0, .iload_n 0, 1, 1, 0, .null, 0),
  (1, .iconst 0, 1, 2, 0, .int 0, 0),
  (2, .iconst 5, 1, 3, 0, .int 5, 0),
  (3, .invokestatic 140, 3, 6, 0, .null, 0),
  (6, .ireturn, 1, 7, 0, .null, 0)])
set_option maxRecDepth 100000 in
theorem mM_isNode_ok : xOK mM_isNode = true := by decide +kernel
def mM_isIn : XM := (⟨"ChannelNetModel", "isIn", "(III)Z"⟩, prog_8_method_3_code, 3, (Option.some FieldType.boolean), [], [
  (0, .iload_n 0, 1, 1, 0, .null, 0),
  (1, .iload_n 1, 1, 2, 0, .null, 0),
  (2, .if_icmp .lt 12, 3, 5, 14, .null, 0),
  (5, .iload_n 0, 1, 6, 0, .null, 0),
  (6, .iload_n 2, 1, 7, 0, .null, 0),
  (7, .if_icmp .gt 7, 3, 10, 14, .null, 0),
  (10, .iconst 1, 1, 11, 0, .int 1, 0),
  (11, .goto 4, 3, 14, 15, .null, 0),
  (14, .iconst 0, 1, 15, 0, .int 0, 0),
  (15, .ireturn, 1, 16, 0, .null, 0)])
set_option maxRecDepth 100000 in
theorem mM_isIn_ok : xOK mM_isIn = true := by decide +kernel
def mM_hasRoom : XM := (⟨"ChannelNetModel", "hasRoom", "(J)Z"⟩, prog_8_method_8_code, 3, (Option.some FieldType.boolean), [], [
  (0, .aload_n 0, 1, 1, 0, .null, 0),
  (1, .lload_n 1, 1, 2, 0, .null, 0),
  (2, .invokevirtual 154, 3, 5, 0, .null, 0),
  (5, .iconst (-1), 1, 6, 0, .int (-1), 0),
  (6, .if_icmp .ne 12, 3, 9, 18, .null, 0),
  (9, .aload_n 0, 1, 10, 0, .null, 0),
  (10, .getfield 151, 3, 13, 25, .ref 7, 886),
  (13, .bipush 24, 2, 15, 0, .int 24, 0),
  (15, .if_icmp .ge 7, 3, 18, 22, .null, 0),
  (18, .iconst 1, 1, 19, 0, .int 1, 0),
  (19, .goto 4, 3, 22, 23, .null, 0),
  (22, .iconst 0, 1, 23, 0, .int 0, 0),
  (23, .ireturn, 1, 24, 0, .null, 0)])
set_option maxRecDepth 100000 in
theorem mM_hasRoom_ok : xOK mM_hasRoom = true := by decide +kernel
def mM_find : XM := (⟨"ChannelNetModel", "find", "(J)I"⟩, prog_8_method_7_code, 5, (Option.some FieldType.int), [], [
  (0, .iconst (-1), 1, 1, 0, .int (-1), 0),
  (1, .istore_n 3, 1, 2, 0, .null, 0),
  (2, .iconst 0, 1, 3, 0, .int 0, 0),
  (3, .istore 4, 2, 5, 0, .null, 0),
  (5, .iload 4, 2, 7, 0, .null, 0),
  (7, .aload_n 0, 1, 8, 0, .null, 0),
  (8, .getfield 151, 3, 11, 25, .ref 7, 886),
  (11, .if_icmp .ge 28, 3, 14, 39, .null, 0),
  (14, .aload_n 0, 1, 15, 0, .null, 0),
  (15, .getfield 79, 3, 18, 26, .ref 7, 887),
  (18, .iload 4, 2, 20, 0, .null, 0),
  (20, .laload, 1, 21, 0, .null, 0),
  (21, .lload_n 1, 1, 22, 0, .null, 0),
  (22, .lcmp, 1, 23, 0, .null, 0),
  (23, .ifCond .ne 8, 3, 26, 31, .null, 0),
  (26, .iload 4, 2, 28, 0, .null, 0),
  (28, .goto 4, 3, 31, 32, .null, 0),
  (31, .iload_n 3, 1, 32, 0, .null, 0),
  (32, .istore_n 3, 1, 33, 0, .null, 0),
  (33, .iinc 4 1, 3, 36, 0, .int 1, 0),
  (36, .goto (-31), 3, 39, 5, .null, 0),
  (39, .iload_n 3, 1, 40, 0, .null, 0),
  (40, .ireturn, 1, 41, 0, .null, 0)])
set_option maxRecDepth 100000 in
theorem mM_find_ok : xOK mM_find = true := by decide +kernel
def mM_learn : XM := (⟨"ChannelNetModel", "learn", "(JI)V"⟩, prog_8_method_9_code, 5, (Option.none : Option FieldType), [], [
  (0, .aload_n 0, 1, 1, 0, .null, 0),
  (1, .lload_n 1, 1, 2, 0, .null, 0),
  (2, .invokevirtual 154, 3, 5, 0, .null, 0),
  (5, .istore 4, 2, 7, 0, .null, 0),
  (7, .iload 4, 2, 9, 0, .null, 0),
  (9, .iconst (-1), 1, 10, 0, .int (-1), 0),
  (10, .if_icmp .ne 35, 3, 13, 45, .null, 0),
  (13, .aload_n 0, 1, 14, 0, .null, 0),
  (14, .getfield 151, 3, 17, 25, .ref 7, 886),
  (17, .istore 4, 2, 19, 0, .null, 0),
  (19, .aload_n 0, 1, 20, 0, .null, 0),
  (20, .getfield 79, 3, 23, 26, .ref 7, 887),
  (23, .iload 4, 2, 25, 0, .null, 0),
  (25, .lload_n 1, 1, 26, 0, .null, 0),
  (26, .lastore, 1, 27, 0, .null, 0),
  (27, .aload_n 0, 1, 28, 0, .null, 0),
  (28, .getfield 82, 3, 31, 27, .ref 7, 888),
  (31, .iload 4, 2, 33, 0, .null, 0),
  (33, .iconst 0, 1, 34, 0, .int 0, 0),
  (34, .iastore, 1, 35, 0, .null, 0),
  (35, .aload_n 0, 1, 36, 0, .null, 0),
  (36, .dup, 1, 37, 0, .null, 0),
  (37, .getfield 151, 3, 40, 25, .ref 7, 886),
  (40, .iconst 1, 1, 41, 0, .int 1, 0),
  (41, .iadd, 1, 42, 0, .null, 0),
  (42, .putfield 151, 3, 45, 25, .ref 7, 886),
  (45, .aload_n 0, 1, 46, 0, .null, 0),
  (46, .getfield 82, 3, 49, 27, .ref 7, 888),
  (49, .iload 4, 2, 51, 0, .null, 0),
  (51, .aload_n 0, 1, 52, 0, .null, 0),
  (52, .getfield 82, 3, 55, 27, .ref 7, 888),
  (55, .iload 4, 2, 57, 0, .null, 0),
  (57, .iaload, 1, 58, 0, .null, 0),
  (58, .iload_n 3, 1, 59, 0, .null, 0),
  (59, .ior, 1, 60, 0, .null, 0),
  (60, .iastore, 1, 61, 0, .null, 0),
  (61, .return_, 1, 62, 0, .null, 0)])
set_option maxRecDepth 100000 in
theorem mM_learn_ok : xOK mM_learn = true := by decide +kernel
def mM_lock : XM := (⟨"ChannelNetModel", "lock", "(J)J"⟩, prog_8_method_12_code, 3, (Option.some FieldType.long), [], [
  (0, .aload_n 0, 1, 1, 0, .null, 0),
  (1, .iconst 0, 1, 2, 0, .int 0, 0),
  (2, .putfield 136, 3, 5, 0, .ref 7, 861),
  (5, .lload_n 1, 1, 6, 0, .null, 0),
  (6, .invokestatic 158, 3, 9, 0, .null, 0),
  (9, .lreturn, 1, 10, 0, .null, 0)])
set_option maxRecDepth 100000 in
theorem mM_lock_ok : xOK mM_lock = true := by decide +kernel
def mM_knows : XM := (⟨"ChannelNetModel", "knows", "(IJ)Z"⟩, prog_8_method_13_code, 4, (Option.some FieldType.boolean), [], [
  (0, .aload_n 0, 1, 1, 0, .null, 0),
  (1, .iload_n 1, 1, 2, 0, .null, 0),
  (2, .invokestatic 162, 3, 5, 0, .null, 0),
  (5, .ifCond .eq 7, 3, 8, 12, .null, 0),
  (8, .iconst 0, 1, 9, 0, .int 0, 0),
  (9, .goto 4, 3, 12, 13, .null, 0),
  (12, .iconst 1, 1, 13, 0, .int 1, 0),
  (13, .putfield 136, 3, 16, 0, .ref 7, 861),
  (16, .aload_n 0, 1, 17, 0, .null, 0),
  (17, .getfield 136, 3, 20, 0, .ref 7, 861),
  (20, .ifCond .ne 16, 3, 23, 36, .null, 0),
  (23, .aload_n 0, 1, 24, 0, .null, 0),
  (24, .iload_n 1, 1, 25, 0, .null, 0),
  (25, .lload_n 2, 1, 26, 0, .null, 0),
  (26, .invokevirtual 174, 3, 29, 0, .null, 0),
  (29, .ifCond .eq 7, 3, 32, 36, .null, 0),
  (32, .iconst 1, 1, 33, 0, .int 1, 0),
  (33, .goto 4, 3, 36, 37, .null, 0),
  (36, .iconst 0, 1, 37, 0, .int 0, 0),
  (37, .ireturn, 1, 38, 0, .null, 0)])
set_option maxRecDepth 100000 in
theorem mM_knows_ok : xOK mM_knows = true := by decide +kernel
def mM_isKnown : XM := (⟨"ChannelNetModel", "isKnown", "(IJ)Z"⟩, prog_8_method_10_code, 5, (Option.some FieldType.boolean), [], [
  (0, .aload_n 0, 1, 1, 0, .null, 0),
  (1, .lload_n 2, 1, 2, 0, .null, 0),
  (2, .invokevirtual 154, 3, 5, 0, .null, 0),
  (5, .istore 4, 2, 7, 0, .null, 0),
  (7, .iload 4, 2, 9, 0, .null, 0),
  (9, .iconst (-1), 1, 10, 0, .int (-1), 0),
  (10, .if_icmp .eq 22, 3, 13, 32, .null, 0),
  (13, .aload_n 0, 1, 14, 0, .null, 0),
  (14, .getfield 82, 3, 17, 27, .ref 7, 888),
  (17, .iload 4, 2, 19, 0, .null, 0),
  (19, .iaload, 1, 20, 0, .null, 0),
  (20, .iload_n 1, 1, 21, 0, .null, 0),
  (21, .ishr, 1, 22, 0, .null, 0),
  (22, .iconst 1, 1, 23, 0, .int 1, 0),
  (23, .iand, 1, 24, 0, .null, 0),
  (24, .iconst 1, 1, 25, 0, .int 1, 0),
  (25, .if_icmp .ne 7, 3, 28, 32, .null, 0),
  (28, .iconst 1, 1, 29, 0, .int 1, 0),
  (29, .goto 4, 3, 32, 33, .null, 0),
  (32, .iconst 0, 1, 33, 0, .int 0, 0),
  (33, .ireturn, 1, 34, 0, .null, 0)])
set_option maxRecDepth 100000 in
theorem mM_isKnown_ok : xOK mM_isKnown = true := by decide +kernel
def mM_fees : XM := (⟨"ChannelNetModel", "fees", "(IIII)V"⟩, prog_8_method_14_code, 5, (Option.none : Option FieldType), [], [
  (0, .aload_n 0, 1, 1, 0, .null, 0),
  (1, .iload_n 1, 1, 2, 0, .null, 0),
  (2, .invokestatic 162, 3, 5, 0, .null, 0),
  (5, .ifCond .ne 7, 3, 8, 12, .null, 0),
  (8, .iconst 1, 1, 9, 0, .int 1, 0),
  (9, .goto 40, 3, 12, 49, .null, 0),
  (12, .iload_n 2, 1, 13, 0, .null, 0),
  (13, .iconst 0, 1, 14, 0, .int 0, 0),
  (14, .sipush 10000, 3, 17, 0, .int 10000, 0),
  (17, .invokestatic 140, 3, 20, 0, .null, 0),
  (20, .ifCond .eq 28, 3, 23, 48, .null, 0),
  (23, .iload_n 3, 1, 24, 0, .null, 0),
  (24, .iconst 0, 1, 25, 0, .int 0, 0),
  (25, .ldc 7, 2, 27, 0, .int 1000000, 860),
  (27, .invokestatic 140, 3, 30, 0, .null, 0),
  (30, .ifCond .eq 18, 3, 33, 48, .null, 0),
  (33, .iload 4, 2, 35, 0, .null, 0),
  (35, .iconst 1, 1, 36, 0, .int 1, 0),
  (36, .bipush 100, 2, 38, 0, .int 100, 0),
  (38, .invokestatic 140, 3, 41, 0, .null, 0),
  (41, .ifCond .eq 7, 3, 44, 48, .null, 0),
  (44, .iconst 0, 1, 45, 0, .int 0, 0),
  (45, .goto 4, 3, 48, 49, .null, 0),
  (48, .iconst 2, 1, 49, 0, .int 2, 0),
  (49, .putfield 136, 3, 52, 0, .ref 7, 861),
  (52, .aload_n 0, 1, 53, 0, .null, 0),
  (53, .getfield 136, 3, 56, 0, .ref 7, 861),
  (56, .ifCond .ne 25, 3, 59, 81, .null, 0),
  (59, .aload_n 0, 1, 60, 0, .null, 0),
  (60, .getfield 14, 3, 63, 2, .ref 7, 863),
  (63, .iload_n 1, 1, 64, 0, .null, 0),
  (64, .iload_n 2, 1, 65, 0, .null, 0),
  (65, .iastore, 1, 66, 0, .null, 0),
  (66, .aload_n 0, 1, 67, 0, .null, 0),
  (67, .getfield 17, 3, 70, 3, .ref 7, 864),
  (70, .iload_n 1, 1, 71, 0, .null, 0),
  (71, .iload_n 3, 1, 72, 0, .null, 0),
  (72, .iastore, 1, 73, 0, .null, 0),
  (73, .aload_n 0, 1, 74, 0, .null, 0),
  (74, .getfield 20, 3, 77, 4, .ref 7, 865),
  (77, .iload_n 1, 1, 78, 0, .null, 0),
  (78, .iload 4, 2, 80, 0, .null, 0),
  (80, .iastore, 1, 81, 0, .null, 0),
  (81, .return_, 1, 82, 0, .null, 0)])
set_option maxRecDepth 100000 in
theorem mM_fees_ok : xOK mM_fees = true := by decide +kernel
def mM_open : XM := (⟨"ChannelNetModel", "open", "(IIII)I"⟩, prog_8_method_15_code, 6, (Option.some FieldType.int), [], [
  (0, .aload_n 0, 1, 1, 0, .null, 0),
  (1, .iload_n 1, 1, 2, 0, .null, 0),
  (2, .invokestatic 162, 3, 5, 0, .null, 0),
  (5, .ifCond .eq 10, 3, 8, 15, .null, 0),
  (8, .iload_n 2, 1, 9, 0, .null, 0),
  (9, .invokestatic 162, 3, 12, 0, .null, 0),
  (12, .ifCond .ne 7, 3, 15, 19, .null, 0),
  (15, .iconst 1, 1, 16, 0, .int 1, 0),
  (16, .goto 65, 3, 19, 81, .null, 0),
  (19, .iload_n 1, 1, 20, 0, .null, 0),
  (20, .iload_n 2, 1, 21, 0, .null, 0),
  (21, .if_icmp .eq 21, 3, 24, 42, .null, 0),
  (24, .iload_n 3, 1, 25, 0, .null, 0),
  (25, .ifCond .lt 17, 3, 28, 42, .null, 0),
  (28, .iload 4, 2, 30, 0, .null, 0),
  (30, .ifCond .lt 12, 3, 33, 42, .null, 0),
  (33, .iload_n 3, 1, 34, 0, .null, 0),
  (34, .ifCond .ne 12, 3, 37, 46, .null, 0),
  (37, .iload 4, 2, 39, 0, .null, 0),
  (39, .ifCond .ne 7, 3, 42, 46, .null, 0),
  (42, .iconst 2, 1, 43, 0, .int 2, 0),
  (43, .goto 38, 3, 46, 81, .null, 0),
  (46, .aload_n 0, 1, 47, 0, .null, 0),
  (47, .getfield 144, 3, 50, 7, .ref 7, 868),
  (50, .bipush 8, 2, 52, 0, .int 8, 0),
  (52, .if_icmp .eq 24, 3, 55, 76, .null, 0),
  (55, .iload_n 3, 1, 56, 0, .null, 0),
  (56, .aload_n 0, 1, 57, 0, .null, 0),
  (57, .getfield 8, 3, 60, 1, .ref 7, 862),
  (60, .iload_n 1, 1, 61, 0, .null, 0),
  (61, .iaload, 1, 62, 0, .null, 0),
  (62, .if_icmp .gt 14, 3, 65, 76, .null, 0),
  (65, .iload 4, 2, 67, 0, .null, 0),
  (67, .aload_n 0, 1, 68, 0, .null, 0),
  (68, .getfield 8, 3, 71, 1, .ref 7, 862),
  (71, .iload_n 2, 1, 72, 0, .null, 0),
  (72, .iaload, 1, 73, 0, .null, 0),
  (73, .if_icmp .le 7, 3, 76, 80, .null, 0),
  (76, .iconst 3, 1, 77, 0, .int 3, 0),
  (77, .goto 4, 3, 80, 81, .null, 0),
  (80, .iconst 0, 1, 81, 0, .int 0, 0),
  (81, .putfield 136, 3, 84, 0, .ref 7, 861),
  (84, .aload_n 0, 1, 85, 0, .null, 0),
  (85, .getfield 136, 3, 88, 0, .ref 7, 861),
  (88, .ifCond .le 5, 3, 91, 93, .null, 0),
  (91, .iconst 0, 1, 92, 0, .int 0, 0),
  (92, .ireturn, 1, 93, 0, .null, 0),
  (93, .aload_n 0, 1, 94, 0, .null, 0),
  (94, .getfield 144, 3, 97, 7, .ref 7, 868),
  (97, .istore 5, 2, 99, 0, .null, 0),
  (99, .aload_n 0, 1, 100, 0, .null, 0),
  (100, .dup, 1, 101, 0, .null, 0),
  (101, .getfield 144, 3, 104, 7, .ref 7, 868),
  (104, .iconst 1, 1, 105, 0, .int 1, 0),
  (105, .iadd, 1, 106, 0, .null, 0),
  (106, .putfield 144, 3, 109, 7, .ref 7, 868),
  (109, .aload_n 0, 1, 110, 0, .null, 0),
  (110, .getfield 27, 3, 113, 8, .ref 7, 869),
  (113, .iload 5, 2, 115, 0, .null, 0),
  (115, .iload_n 1, 1, 116, 0, .null, 0),
  (116, .iastore, 1, 117, 0, .null, 0),
  (117, .aload_n 0, 1, 118, 0, .null, 0),
  (118, .getfield 30, 3, 121, 9, .ref 7, 870),
  (121, .iload 5, 2, 123, 0, .null, 0),
  (123, .iload_n 2, 1, 124, 0, .null, 0),
  (124, .iastore, 1, 125, 0, .null, 0),
  (125, .aload_n 0, 1, 126, 0, .null, 0),
  (126, .getfield 8, 3, 129, 1, .ref 7, 862),
  (129, .iload_n 1, 1, 130, 0, .null, 0),
  (130, .dup2, 1, 131, 0, .null, 0),
  (131, .iaload, 1, 132, 0, .null, 0),
  (132, .iload_n 3, 1, 133, 0, .null, 0),
  (133, .isub, 1, 134, 0, .null, 0),
  (134, .iastore, 1, 135, 0, .null, 0),
  (135, .aload_n 0, 1, 136, 0, .null, 0),
  (136, .getfield 8, 3, 139, 1, .ref 7, 862),
  (139, .iload_n 2, 1, 140, 0, .null, 0),
  (140, .dup2, 1, 141, 0, .null, 0),
  (141, .iaload, 1, 142, 0, .null, 0),
  (142, .iload 4, 2, 144, 0, .null, 0),
  (144, .isub, 1, 145, 0, .null, 0),
  (145, .iastore, 1, 146, 0, .null, 0),
  (146, .aload_n 0, 1, 147, 0, .null, 0),
  (147, .getfield 39, 3, 150, 12, .ref 7, 873),
  (150, .iload 5, 2, 152, 0, .null, 0),
  (152, .iconst 0, 1, 153, 0, .int 0, 0),
  (153, .iconst 0, 1, 154, 0, .int 0, 0),
  (154, .invokestatic 178, 3, 157, 0, .null, 0),
  (157, .iload_n 3, 1, 158, 0, .null, 0),
  (158, .iastore, 1, 159, 0, .null, 0),
  (159, .aload_n 0, 1, 160, 0, .null, 0),
  (160, .getfield 39, 3, 163, 12, .ref 7, 873),
  (163, .iload 5, 2, 165, 0, .null, 0),
  (165, .iconst 0, 1, 166, 0, .int 0, 0),
  (166, .iconst 1, 1, 167, 0, .int 1, 0),
  (167, .invokestatic 178, 3, 170, 0, .null, 0),
  (170, .iload 4, 2, 172, 0, .null, 0),
  (172, .iastore, 1, 173, 0, .null, 0),
  (173, .aload_n 0, 1, 174, 0, .null, 0),
  (174, .getfield 46, 3, 177, 14, .ref 7, 875),
  (177, .iload 5, 2, 179, 0, .null, 0),
  (179, .iload_n 3, 1, 180, 0, .null, 0),
  (180, .iload 4, 2, 182, 0, .null, 0),
  (182, .iadd, 1, 183, 0, .null, 0),
  (183, .iastore, 1, 184, 0, .null, 0),
  (184, .iload 5, 2, 186, 0, .null, 0),
  (186, .ireturn, 1, 187, 0, .null, 0)])
set_option maxRecDepth 100000 in
theorem mM_open_ok : xOK mM_open = true := by decide +kernel
def mM_cell : XM := (⟨"ChannelNetModel", "cell", "(III)I"⟩, prog_8_method_16_code, 3, (Option.some FieldType.int), [], [
  (0, .iconst 2, 1, 1, 0, .int 2, 0),
  (1, .bipush 64, 2, 3, 0, .int 64, 0),
  (3, .iload_n 0, 1, 4, 0, .null, 0),
  (4, .imul, 1, 5, 0, .null, 0),
  (5, .iload_n 1, 1, 6, 0, .null, 0),
  (6, .iadd, 1, 7, 0, .null, 0),
  (7, .imul, 1, 8, 0, .null, 0),
  (8, .iload_n 2, 1, 9, 0, .null, 0),
  (9, .iadd, 1, 10, 0, .null, 0),
  (10, .ireturn, 1, 11, 0, .null, 0)])
set_option maxRecDepth 100000 in
theorem mM_cell_ok : xOK mM_cell = true := by decide +kernel
def mM_promise : XM := (⟨"ChannelNetModel", "promise", "(IIIJI)I"⟩, prog_8_method_28_code, 8, (Option.some FieldType.int), [], [
  (0, .aload_n 0, 1, 1, 0, .null, 0),
  (1, .iload_n 1, 1, 2, 0, .null, 0),
  (2, .invokevirtual 196, 3, 5, 0, .null, 0),
  (5, .ifCond .eq 12, 3, 8, 17, .null, 0),
  (8, .aload_n 0, 1, 9, 0, .null, 0),
  (9, .iload_n 1, 1, 10, 0, .null, 0),
  (10, .iload_n 2, 1, 11, 0, .null, 0),
  (11, .invokevirtual 199, 3, 14, 0, .null, 0),
  (14, .goto 4, 3, 17, 18, .null, 0),
  (17, .iconst (-1), 1, 18, 0, .int (-1), 0),
  (18, .istore 7, 2, 20, 0, .null, 0),
  (20, .aload_n 0, 1, 21, 0, .null, 0),
  (21, .iload 7, 2, 23, 0, .null, 0),
  (23, .iconst (-1), 1, 24, 0, .int (-1), 0),
  (24, .if_icmp .ne 7, 3, 27, 31, .null, 0),
  (27, .iconst 1, 1, 28, 0, .int 1, 0),
  (28, .goto 67, 3, 31, 95, .null, 0),
  (31, .iload_n 3, 1, 32, 0, .null, 0),
  (32, .iconst 1, 1, 33, 0, .int 1, 0),
  (33, .if_icmp .ge 7, 3, 36, 40, .null, 0),
  (36, .iconst 2, 1, 37, 0, .int 2, 0),
  (37, .goto 58, 3, 40, 95, .null, 0),
  (40, .aload_n 0, 1, 41, 0, .null, 0),
  (41, .getfield 33, 3, 44, 10, .ref 7, 871),
  (44, .iload_n 1, 1, 45, 0, .null, 0),
  (45, .iaload, 1, 46, 0, .null, 0),
  (46, .ifCond .ne 44, 3, 49, 90, .null, 0),
  (49, .aload_n 0, 1, 50, 0, .null, 0),
  (50, .iload_n 1, 1, 51, 0, .null, 0),
  (51, .invokevirtual 182, 3, 54, 0, .null, 0),
  (54, .invokestatic 202, 3, 57, 0, .null, 0),
  (57, .bipush 6, 2, 59, 0, .int 6, 0),
  (59, .if_icmp .eq 31, 3, 62, 90, .null, 0),
  (62, .aload_n 0, 1, 63, 0, .null, 0),
  (63, .iload_n 1, 1, 64, 0, .null, 0),
  (64, .invokevirtual 205, 3, 67, 0, .null, 0),
  (67, .ifCond .eq 23, 3, 70, 90, .null, 0),
  (70, .aload_n 0, 1, 71, 0, .null, 0),
  (71, .iload_n 1, 1, 72, 0, .null, 0),
  (72, .iload 7, 2, 74, 0, .null, 0),
  (74, .invokevirtual 208, 3, 77, 0, .null, 0),
  (77, .iload_n 3, 1, 78, 0, .null, 0),
  (78, .if_icmp .lt 12, 3, 81, 90, .null, 0),
  (81, .iload 6, 2, 83, 0, .null, 0),
  (83, .aload_n 0, 1, 84, 0, .null, 0),
  (84, .getfield 211, 3, 87, 6, .ref 7, 867),
  (87, .if_icmp .gt 7, 3, 90, 94, .null, 0),
  (90, .iconst 3, 1, 91, 0, .int 3, 0),
  (91, .goto 4, 3, 94, 95, .null, 0),
  (94, .iconst 0, 1, 95, 0, .int 0, 0),
  (95, .putfield 136, 3, 98, 0, .ref 7, 861),
  (98, .aload_n 0, 1, 99, 0, .null, 0),
  (99, .getfield 136, 3, 102, 0, .ref 7, 861),
  (102, .ifCond .le 7, 3, 105, 109, .null, 0),
  (105, .iconst 0, 1, 106, 0, .int 0, 0),
  (106, .goto 15, 3, 109, 121, .null, 0),
  (109, .aload_n 0, 1, 110, 0, .null, 0),
  (110, .iload_n 1, 1, 111, 0, .null, 0),
  (111, .iload 7, 2, 113, 0, .null, 0),
  (113, .iload_n 3, 1, 114, 0, .null, 0),
  (114, .lload 4, 2, 116, 0, .null, 0),
  (116, .iload 6, 2, 118, 0, .null, 0),
  (118, .invokevirtual 214, 3, 121, 0, .null, 0),
  (121, .ireturn, 1, 122, 0, .null, 0)])
set_option maxRecDepth 100000 in
theorem mM_promise_ok : xOK mM_promise = true := by decide +kernel
def mM_isChannel : XM := (⟨"ChannelNetModel", "isChannel", "(I)Z"⟩, prog_8_method_5_code, 2, (Option.some FieldType.boolean), [], [
  (0, .iload_n 1, 1, 1, 0, .null, 0),
  (1, .iconst 0, 1, 2, 0, .int 0, 0),
  (2, .aload_n 0, 1, 3, 0, .null, 0),
  (3, .getfield 144, 3, 6, 7, .ref 7, 868),
  (6, .iconst 1, 1, 7, 0, .int 1, 0),
  (7, .isub, 1, 8, 0, .null, 0),
  (8, .invokestatic 140, 3, 11, 0, .null, 0),
  (11, .ireturn, 1, 12, 0, .null, 0)])
set_option maxRecDepth 100000 in
theorem mM_isChannel_ok : xOK mM_isChannel = true := by decide +kernel
def mM_sideOf : XM := (⟨"ChannelNetModel", "sideOf", "(II)I"⟩, prog_8_method_21_code, 3, (Option.some FieldType.int), [], [
  (0, .iload_n 2, 1, 1, 0, .null, 0),
  (1, .aload_n 0, 1, 2, 0, .null, 0),
  (2, .getfield 27, 3, 5, 8, .ref 7, 869),
  (5, .iload_n 1, 1, 6, 0, .null, 0),
  (6, .iaload, 1, 7, 0, .null, 0),
  (7, .if_icmp .ne 7, 3, 10, 14, .null, 0),
  (10, .iconst 0, 1, 11, 0, .int 0, 0),
  (11, .goto 18, 3, 14, 29, .null, 0),
  (14, .iload_n 2, 1, 15, 0, .null, 0),
  (15, .aload_n 0, 1, 16, 0, .null, 0),
  (16, .getfield 30, 3, 19, 9, .ref 7, 870),
  (19, .iload_n 1, 1, 20, 0, .null, 0),
  (20, .iaload, 1, 21, 0, .null, 0),
  (21, .if_icmp .ne 7, 3, 24, 28, .null, 0),
  (24, .iconst 1, 1, 25, 0, .int 1, 0),
  (25, .goto 4, 3, 28, 29, .null, 0),
  (28, .iconst (-1), 1, 29, 0, .int (-1), 0),
  (29, .ireturn, 1, 30, 0, .null, 0)])
set_option maxRecDepth 100000 in
theorem mM_sideOf_ok : xOK mM_sideOf = true := by decide +kernel
def mM_now : XM := (⟨"ChannelNetModel", "now", "(I)J"⟩, prog_8_method_18_code, 2, (Option.some FieldType.long), [], [
  (0, .aload_n 0, 1, 1, 0, .null, 0),
  (1, .getfield 42, 3, 4, 13, .ref 7, 874),
  (4, .bipush 64, 2, 6, 0, .int 64, 0),
  (6, .iload_n 1, 1, 7, 0, .null, 0),
  (7, .imul, 1, 8, 0, .null, 0),
  (8, .aload_n 0, 1, 9, 0, .null, 0),
  (9, .getfield 36, 3, 12, 11, .ref 7, 872),
  (12, .iload_n 1, 1, 13, 0, .null, 0),
  (13, .iaload, 1, 14, 0, .null, 0),
  (14, .iadd, 1, 15, 0, .null, 0),
  (15, .laload, 1, 16, 0, .null, 0),
  (16, .lreturn, 1, 17, 0, .null, 0)])
set_option maxRecDepth 100000 in
theorem mM_now_ok : xOK mM_now = true := by decide +kernel
def mM_bits : XM := (⟨"ChannelNetModel", "bits", "(J)I"⟩, prog_8_method_19_code, 4, (Option.some FieldType.int), [], [
  (0, .iconst 0, 1, 1, 0, .int 0, 0),
  (1, .istore_n 2, 1, 2, 0, .null, 0),
  (2, .iconst 0, 1, 3, 0, .int 0, 0),
  (3, .istore_n 3, 1, 4, 0, .null, 0),
  (4, .iload_n 3, 1, 5, 0, .null, 0),
  (5, .bipush 64, 2, 7, 0, .int 64, 0),
  (7, .if_icmp .ge 18, 3, 10, 25, .null, 0),
  (10, .iload_n 2, 1, 11, 0, .null, 0),
  (11, .lload_n 0, 1, 12, 0, .null, 0),
  (12, .iload_n 3, 1, 13, 0, .null, 0),
  (13, .lshr, 1, 14, 0, .null, 0),
  (14, .lconst 1, 1, 15, 0, .long 1, 0),
  (15, .land, 1, 16, 0, .null, 0),
  (16, .l2i, 1, 17, 0, .null, 0),
  (17, .iadd, 1, 18, 0, .null, 0),
  (18, .istore_n 2, 1, 19, 0, .null, 0),
  (19, .iinc 3 1, 3, 22, 0, .int 1, 0),
  (22, .goto (-18), 3, 25, 4, .null, 0),
  (25, .iload_n 2, 1, 26, 0, .null, 0),
  (26, .ireturn, 1, 27, 0, .null, 0)])
set_option maxRecDepth 100000 in
theorem mM_bits_ok : xOK mM_bits = true := by decide +kernel
def mM_hasState : XM := (⟨"ChannelNetModel", "hasState", "(I)Z"⟩, prog_8_method_23_code, 2, (Option.some FieldType.boolean), [], [
  (0, .aload_n 0, 1, 1, 0, .null, 0),
  (1, .getfield 36, 3, 4, 11, .ref 7, 872),
  (4, .iload_n 1, 1, 5, 0, .null, 0),
  (5, .iaload, 1, 6, 0, .null, 0),
  (6, .iconst 1, 1, 7, 0, .int 1, 0),
  (7, .iadd, 1, 8, 0, .null, 0),
  (8, .bipush 64, 2, 10, 0, .int 64, 0),
  (10, .if_icmp .ge 7, 3, 13, 17, .null, 0),
  (13, .iconst 1, 1, 14, 0, .int 1, 0),
  (14, .goto 4, 3, 17, 18, .null, 0),
  (17, .iconst 0, 1, 18, 0, .int 0, 0),
  (18, .ireturn, 1, 19, 0, .null, 0)])
set_option maxRecDepth 100000 in
theorem mM_hasState_ok : xOK mM_hasState = true := by decide +kernel
def mM_balance : XM := (⟨"ChannelNetModel", "balance", "(II)I"⟩, prog_8_method_17_code, 3, (Option.some FieldType.int), [], [
  (0, .aload_n 0, 1, 1, 0, .null, 0),
  (1, .getfield 39, 3, 4, 12, .ref 7, 873),
  (4, .iload_n 1, 1, 5, 0, .null, 0),
  (5, .aload_n 0, 1, 6, 0, .null, 0),
  (6, .getfield 36, 3, 9, 11, .ref 7, 872),
  (9, .iload_n 1, 1, 10, 0, .null, 0),
  (10, .iaload, 1, 11, 0, .null, 0),
  (11, .iload_n 2, 1, 12, 0, .null, 0),
  (12, .invokestatic 178, 3, 15, 0, .null, 0),
  (15, .iaload, 1, 16, 0, .null, 0),
  (16, .ireturn, 1, 17, 0, .null, 0)])
set_option maxRecDepth 100000 in
theorem mM_balance_ok : xOK mM_balance = true := by decide +kernel
def mM_addPromise : XM := (⟨"ChannelNetModel", "addPromise", "(IIIJI)I"⟩, prog_8_method_25_code, 8, (Option.some FieldType.int), [], [
  (0, .aload_n 0, 1, 1, 0, .null, 0),
  (1, .getfield 49, 3, 4, 15, .ref 7, 876),
  (4, .iload_n 1, 1, 5, 0, .null, 0),
  (5, .iaload, 1, 6, 0, .null, 0),
  (6, .istore 7, 2, 8, 0, .null, 0),
  (8, .aload_n 0, 1, 9, 0, .null, 0),
  (9, .getfield 49, 3, 12, 15, .ref 7, 876),
  (12, .iload_n 1, 1, 13, 0, .null, 0),
  (13, .dup2, 1, 14, 0, .null, 0),
  (14, .iaload, 1, 15, 0, .null, 0),
  (15, .iconst 1, 1, 16, 0, .int 1, 0),
  (16, .iadd, 1, 17, 0, .null, 0),
  (17, .iastore, 1, 18, 0, .null, 0),
  (18, .aload_n 0, 1, 19, 0, .null, 0),
  (19, .getfield 52, 3, 22, 16, .ref 7, 877),
  (22, .bipush 64, 2, 24, 0, .int 64, 0),
  (24, .iload_n 1, 1, 25, 0, .null, 0),
  (25, .imul, 1, 26, 0, .null, 0),
  (26, .iload 7, 2, 28, 0, .null, 0),
  (28, .iadd, 1, 29, 0, .null, 0),
  (29, .iload_n 2, 1, 30, 0, .null, 0),
  (30, .iastore, 1, 31, 0, .null, 0),
  (31, .aload_n 0, 1, 32, 0, .null, 0),
  (32, .getfield 55, 3, 35, 17, .ref 7, 878),
  (35, .bipush 64, 2, 37, 0, .int 64, 0),
  (37, .iload_n 1, 1, 38, 0, .null, 0),
  (38, .imul, 1, 39, 0, .null, 0),
  (39, .iload 7, 2, 41, 0, .null, 0),
  (41, .iadd, 1, 42, 0, .null, 0),
  (42, .iload_n 3, 1, 43, 0, .null, 0),
  (43, .iastore, 1, 44, 0, .null, 0),
  (44, .aload_n 0, 1, 45, 0, .null, 0),
  (45, .getfield 58, 3, 48, 18, .ref 7, 879),
  (48, .bipush 64, 2, 50, 0, .int 64, 0),
  (50, .iload_n 1, 1, 51, 0, .null, 0),
  (51, .imul, 1, 52, 0, .null, 0),
  (52, .iload 7, 2, 54, 0, .null, 0),
  (54, .iadd, 1, 55, 0, .null, 0),
  (55, .lload 4, 2, 57, 0, .null, 0),
  (57, .lastore, 1, 58, 0, .null, 0),
  (58, .aload_n 0, 1, 59, 0, .null, 0),
  (59, .getfield 61, 3, 62, 19, .ref 7, 880),
  (62, .bipush 64, 2, 64, 0, .int 64, 0),
  (64, .iload_n 1, 1, 65, 0, .null, 0),
  (65, .imul, 1, 66, 0, .null, 0),
  (66, .iload 7, 2, 68, 0, .null, 0),
  (68, .iadd, 1, 69, 0, .null, 0),
  (69, .iload 6, 2, 71, 0, .null, 0),
  (71, .iastore, 1, 72, 0, .null, 0),
  (72, .aload_n 0, 1, 73, 0, .null, 0),
  (73, .iload_n 1, 1, 74, 0, .null, 0),
  (74, .iload_n 2, 1, 75, 0, .null, 0),
  (75, .iload_n 3, 1, 76, 0, .null, 0),
  (76, .ineg, 1, 77, 0, .null, 0),
  (77, .aload_n 0, 1, 78, 0, .null, 0),
  (78, .iload_n 1, 1, 79, 0, .null, 0),
  (79, .invokevirtual 182, 3, 82, 0, .null, 0),
  (82, .lconst 1, 1, 83, 0, .long 1, 0),
  (83, .iload 7, 2, 85, 0, .null, 0),
  (85, .lshl, 1, 86, 0, .null, 0),
  (86, .lor, 1, 87, 0, .null, 0),
  (87, .invokevirtual 186, 3, 90, 0, .null, 0),
  (90, .iload 7, 2, 92, 0, .null, 0),
  (92, .ireturn, 1, 93, 0, .null, 0)])
set_option maxRecDepth 100000 in
theorem mM_addPromise_ok : xOK mM_addPromise = true := by decide +kernel
def mM_next : XM := (⟨"ChannelNetModel", "next", "(IIIJ)V"⟩, prog_8_method_24_code, 7, (Option.none : Option FieldType), [], [
  (0, .aload_n 0, 1, 1, 0, .null, 0),
  (1, .getfield 36, 3, 4, 11, .ref 7, 872),
  (4, .iload_n 1, 1, 5, 0, .null, 0),
  (5, .iaload, 1, 6, 0, .null, 0),
  (6, .istore 6, 2, 8, 0, .null, 0),
  (8, .aload_n 0, 1, 9, 0, .null, 0),
  (9, .getfield 36, 3, 12, 11, .ref 7, 872),
  (12, .iload_n 1, 1, 13, 0, .null, 0),
  (13, .iload 6, 2, 15, 0, .null, 0),
  (15, .iconst 1, 1, 16, 0, .int 1, 0),
  (16, .iadd, 1, 17, 0, .null, 0),
  (17, .iastore, 1, 18, 0, .null, 0),
  (18, .aload_n 0, 1, 19, 0, .null, 0),
  (19, .getfield 39, 3, 22, 12, .ref 7, 873),
  (22, .iload_n 1, 1, 23, 0, .null, 0),
  (23, .iload 6, 2, 25, 0, .null, 0),
  (25, .iconst 1, 1, 26, 0, .int 1, 0),
  (26, .iadd, 1, 27, 0, .null, 0),
  (27, .iconst 0, 1, 28, 0, .int 0, 0),
  (28, .invokestatic 178, 3, 31, 0, .null, 0),
  (31, .aload_n 0, 1, 32, 0, .null, 0),
  (32, .getfield 39, 3, 35, 12, .ref 7, 873),
  (35, .iload_n 1, 1, 36, 0, .null, 0),
  (36, .iload 6, 2, 38, 0, .null, 0),
  (38, .iconst 0, 1, 39, 0, .int 0, 0),
  (39, .invokestatic 178, 3, 42, 0, .null, 0),
  (42, .iaload, 1, 43, 0, .null, 0),
  (43, .iload_n 2, 1, 44, 0, .null, 0),
  (44, .ifCond .ne 7, 3, 47, 51, .null, 0),
  (47, .iload_n 3, 1, 48, 0, .null, 0),
  (48, .goto 4, 3, 51, 52, .null, 0),
  (51, .iconst 0, 1, 52, 0, .int 0, 0),
  (52, .iadd, 1, 53, 0, .null, 0),
  (53, .iastore, 1, 54, 0, .null, 0),
  (54, .aload_n 0, 1, 55, 0, .null, 0),
  (55, .getfield 39, 3, 58, 12, .ref 7, 873),
  (58, .iload_n 1, 1, 59, 0, .null, 0),
  (59, .iload 6, 2, 61, 0, .null, 0),
  (61, .iconst 1, 1, 62, 0, .int 1, 0),
  (62, .iadd, 1, 63, 0, .null, 0),
  (63, .iconst 1, 1, 64, 0, .int 1, 0),
  (64, .invokestatic 178, 3, 67, 0, .null, 0),
  (67, .aload_n 0, 1, 68, 0, .null, 0),
  (68, .getfield 39, 3, 71, 12, .ref 7, 873),
  (71, .iload_n 1, 1, 72, 0, .null, 0),
  (72, .iload 6, 2, 74, 0, .null, 0),
  (74, .iconst 1, 1, 75, 0, .int 1, 0),
  (75, .invokestatic 178, 3, 78, 0, .null, 0),
  (78, .iaload, 1, 79, 0, .null, 0),
  (79, .iload_n 2, 1, 80, 0, .null, 0),
  (80, .iconst 1, 1, 81, 0, .int 1, 0),
  (81, .if_icmp .ne 7, 3, 84, 88, .null, 0),
  (84, .iload_n 3, 1, 85, 0, .null, 0),
  (85, .goto 4, 3, 88, 89, .null, 0),
  (88, .iconst 0, 1, 89, 0, .int 0, 0),
  (89, .iadd, 1, 90, 0, .null, 0),
  (90, .iastore, 1, 91, 0, .null, 0),
  (91, .aload_n 0, 1, 92, 0, .null, 0),
  (92, .getfield 42, 3, 95, 13, .ref 7, 874),
  (95, .bipush 64, 2, 97, 0, .int 64, 0),
  (97, .iload_n 1, 1, 98, 0, .null, 0),
  (98, .imul, 1, 99, 0, .null, 0),
  (99, .iload 6, 2, 101, 0, .null, 0),
  (101, .iadd, 1, 102, 0, .null, 0),
  (102, .iconst 1, 1, 103, 0, .int 1, 0),
  (103, .iadd, 1, 104, 0, .null, 0),
  (104, .lload 4, 2, 106, 0, .null, 0),
  (106, .lastore, 1, 107, 0, .null, 0),
  (107, .return_, 1, 108, 0, .null, 0)])
set_option maxRecDepth 100000 in
theorem mM_next_ok : xOK mM_next = true := by decide +kernel
def mM_keep : XM := (⟨"ChannelNetModel", "keep", "(IIJ)I"⟩, prog_8_method_29_code, 9, (Option.some FieldType.int), [], [
  (0, .lload_n 3, 1, 1, 0, .null, 0),
  (1, .invokestatic 158, 3, 4, 0, .null, 0),
  (4, .lstore 5, 2, 6, 0, .null, 0),
  (6, .aload_n 0, 1, 7, 0, .null, 0),
  (7, .iload_n 1, 1, 8, 0, .null, 0),
  (8, .invokevirtual 196, 3, 11, 0, .null, 0),
  (11, .ifCond .eq 19, 3, 14, 30, .null, 0),
  (14, .aload_n 0, 1, 15, 0, .null, 0),
  (15, .iload_n 1, 1, 16, 0, .null, 0),
  (16, .invokevirtual 182, 3, 19, 0, .null, 0),
  (19, .iload_n 2, 1, 20, 0, .null, 0),
  (20, .invokestatic 218, 3, 23, 0, .null, 0),
  (23, .ifCond .eq 7, 3, 26, 30, .null, 0),
  (26, .iconst 1, 1, 27, 0, .int 1, 0),
  (27, .goto 4, 3, 30, 31, .null, 0),
  (30, .iconst 0, 1, 31, 0, .int 0, 0),
  (31, .istore 7, 2, 33, 0, .null, 0),
  (33, .iload 7, 2, 35, 0, .null, 0),
  (35, .ifCond .eq 12, 3, 38, 47, .null, 0),
  (38, .bipush 64, 2, 40, 0, .int 64, 0),
  (40, .iload_n 1, 1, 41, 0, .null, 0),
  (41, .imul, 1, 42, 0, .null, 0),
  (42, .iload_n 2, 1, 43, 0, .null, 0),
  (43, .iadd, 1, 44, 0, .null, 0),
  (44, .goto 4, 3, 47, 48, .null, 0),
  (47, .iconst 0, 1, 48, 0, .int 0, 0),
  (48, .istore 8, 2, 50, 0, .null, 0),
  (50, .aload_n 0, 1, 51, 0, .null, 0),
  (51, .iload 7, 2, 53, 0, .null, 0),
  (53, .ifCond .ne 7, 3, 56, 60, .null, 0),
  (56, .iconst 1, 1, 57, 0, .int 1, 0),
  (57, .goto 65, 3, 60, 122, .null, 0),
  (60, .aload_n 0, 1, 61, 0, .null, 0),
  (61, .getfield 58, 3, 64, 18, .ref 7, 879),
  (64, .iload 8, 2, 66, 0, .null, 0),
  (66, .laload, 1, 67, 0, .null, 0),
  (67, .lload 5, 2, 69, 0, .null, 0),
  (69, .lcmp, 1, 70, 0, .null, 0),
  (70, .ifCond .eq 7, 3, 73, 77, .null, 0),
  (73, .iconst 2, 1, 74, 0, .int 2, 0),
  (74, .goto 48, 3, 77, 122, .null, 0),
  (77, .aload_n 0, 1, 78, 0, .null, 0),
  (78, .getfield 33, 3, 81, 10, .ref 7, 871),
  (81, .iload_n 1, 1, 82, 0, .null, 0),
  (82, .iaload, 1, 83, 0, .null, 0),
  (83, .ifCond .ne 34, 3, 86, 117, .null, 0),
  (86, .aload_n 0, 1, 87, 0, .null, 0),
  (87, .getfield 61, 3, 90, 19, .ref 7, 880),
  (90, .iload 8, 2, 92, 0, .null, 0),
  (92, .iaload, 1, 93, 0, .null, 0),
  (93, .aload_n 0, 1, 94, 0, .null, 0),
  (94, .getfield 211, 3, 97, 6, .ref 7, 867),
  (97, .if_icmp .le 20, 3, 100, 117, .null, 0),
  (100, .aload_n 0, 1, 101, 0, .null, 0),
  (101, .iload_n 1, 1, 102, 0, .null, 0),
  (102, .invokevirtual 205, 3, 105, 0, .null, 0),
  (105, .ifCond .eq 12, 3, 108, 117, .null, 0),
  (108, .aload_n 0, 1, 109, 0, .null, 0),
  (109, .lload 5, 2, 111, 0, .null, 0),
  (111, .invokevirtual 166, 3, 114, 0, .null, 0),
  (114, .ifCond .ne 7, 3, 117, 121, .null, 0),
  (117, .iconst 3, 1, 118, 0, .int 3, 0),
  (118, .goto 4, 3, 121, 122, .null, 0),
  (121, .iconst 0, 1, 122, 0, .int 0, 0),
  (122, .putfield 136, 3, 125, 0, .ref 7, 861),
  (125, .aload_n 0, 1, 126, 0, .null, 0),
  (126, .getfield 136, 3, 129, 0, .ref 7, 861),
  (129, .ifCond .le 5, 3, 132, 134, .null, 0),
  (132, .iconst 0, 1, 133, 0, .int 0, 0),
  (133, .ireturn, 1, 134, 0, .null, 0),
  (134, .aload_n 0, 1, 135, 0, .null, 0),
  (135, .iload_n 1, 1, 136, 0, .null, 0),
  (136, .iload_n 2, 1, 137, 0, .null, 0),
  (137, .invokevirtual 222, 3, 140, 0, .null, 0),
  (140, .aload_n 0, 1, 141, 0, .null, 0),
  (141, .lload 5, 2, 143, 0, .null, 0),
  (143, .iconst 1, 1, 144, 0, .int 1, 0),
  (144, .aload_n 0, 1, 145, 0, .null, 0),
  (145, .iload_n 1, 1, 146, 0, .null, 0),
  (146, .iconst 1, 1, 147, 0, .int 1, 0),
  (147, .aload_n 0, 1, 148, 0, .null, 0),
  (148, .getfield 52, 3, 151, 16, .ref 7, 877),
  (151, .iload 8, 2, 153, 0, .null, 0),
  (153, .iaload, 1, 154, 0, .null, 0),
  (154, .isub, 1, 155, 0, .null, 0),
  (155, .invokevirtual 192, 3, 158, 0, .null, 0),
  (158, .ishl, 1, 159, 0, .null, 0),
  (159, .invokevirtual 170, 3, 162, 0, .null, 0),
  (162, .aload_n 0, 1, 163, 0, .null, 0),
  (163, .getfield 36, 3, 166, 11, .ref 7, 872),
  (166, .iload_n 1, 1, 167, 0, .null, 0),
  (167, .iaload, 1, 168, 0, .null, 0),
  (168, .ireturn, 1, 169, 0, .null, 0)])
set_option maxRecDepth 100000 in
theorem mM_keep_ok : xOK mM_keep = true := by decide +kernel
def mM_hasBit : XM := (⟨"ChannelNetModel", "hasBit", "(JI)Z"⟩, prog_8_method_20_code, 3, (Option.some FieldType.boolean), [], [
  (0, .iload_n 2, 1, 1, 0, .null, 0),
  (1, .ifCond .lt 23, 3, 4, 24, .null, 0),
  (4, .iload_n 2, 1, 5, 0, .null, 0),
  (5, .bipush 64, 2, 7, 0, .int 64, 0),
  (7, .if_icmp .ge 17, 3, 10, 24, .null, 0),
  (10, .lload_n 0, 1, 11, 0, .null, 0),
  (11, .iload_n 2, 1, 12, 0, .null, 0),
  (12, .lshr, 1, 13, 0, .null, 0),
  (13, .lconst 1, 1, 14, 0, .long 1, 0),
  (14, .land, 1, 15, 0, .null, 0),
  (15, .lconst 1, 1, 16, 0, .long 1, 0),
  (16, .lcmp, 1, 17, 0, .null, 0),
  (17, .ifCond .ne 7, 3, 20, 24, .null, 0),
  (20, .iconst 1, 1, 21, 0, .int 1, 0),
  (21, .goto 4, 3, 24, 25, .null, 0),
  (24, .iconst 0, 1, 25, 0, .int 0, 0),
  (25, .ireturn, 1, 26, 0, .null, 0)])
set_option maxRecDepth 100000 in
theorem mM_hasBit_ok : xOK mM_hasBit = true := by decide +kernel
def mM_keepPromise : XM := (⟨"ChannelNetModel", "keepPromise", "(II)V"⟩, prog_8_method_26_code, 4, (Option.none : Option FieldType), [], [
  (0, .aload_n 0, 1, 1, 0, .null, 0),
  (1, .getfield 52, 3, 4, 16, .ref 7, 877),
  (4, .bipush 64, 2, 6, 0, .int 64, 0),
  (6, .iload_n 1, 1, 7, 0, .null, 0),
  (7, .imul, 1, 8, 0, .null, 0),
  (8, .iload_n 2, 1, 9, 0, .null, 0),
  (9, .iadd, 1, 10, 0, .null, 0),
  (10, .iaload, 1, 11, 0, .null, 0),
  (11, .istore_n 3, 1, 12, 0, .null, 0),
  (12, .aload_n 0, 1, 13, 0, .null, 0),
  (13, .iload_n 1, 1, 14, 0, .null, 0),
  (14, .iconst 1, 1, 15, 0, .int 1, 0),
  (15, .iload_n 3, 1, 16, 0, .null, 0),
  (16, .isub, 1, 17, 0, .null, 0),
  (17, .aload_n 0, 1, 18, 0, .null, 0),
  (18, .getfield 55, 3, 21, 17, .ref 7, 878),
  (21, .bipush 64, 2, 23, 0, .int 64, 0),
  (23, .iload_n 1, 1, 24, 0, .null, 0),
  (24, .imul, 1, 25, 0, .null, 0),
  (25, .iload_n 2, 1, 26, 0, .null, 0),
  (26, .iadd, 1, 27, 0, .null, 0),
  (27, .iaload, 1, 28, 0, .null, 0),
  (28, .aload_n 0, 1, 29, 0, .null, 0),
  (29, .iload_n 1, 1, 30, 0, .null, 0),
  (30, .invokevirtual 182, 3, 33, 0, .null, 0),
  (33, .lconst 1, 1, 34, 0, .long 1, 0),
  (34, .iload_n 2, 1, 35, 0, .null, 0),
  (35, .lshl, 1, 36, 0, .null, 0),
  (36, .ldc2_w 190, 3, 39, 0, .long (-1), 1106),
  (39, .lxor, 1, 40, 0, .null, 0),
  (40, .land, 1, 41, 0, .null, 0),
  (41, .invokevirtual 186, 3, 44, 0, .null, 0),
  (44, .aload_n 0, 1, 45, 0, .null, 0),
  (45, .aload_n 0, 1, 46, 0, .null, 0),
  (46, .getfield 58, 3, 49, 18, .ref 7, 879),
  (49, .bipush 64, 2, 51, 0, .int 64, 0),
  (51, .iload_n 1, 1, 52, 0, .null, 0),
  (52, .imul, 1, 53, 0, .null, 0),
  (53, .iload_n 2, 1, 54, 0, .null, 0),
  (54, .iadd, 1, 55, 0, .null, 0),
  (55, .laload, 1, 56, 0, .null, 0),
  (56, .iconst 1, 1, 57, 0, .int 1, 0),
  (57, .aload_n 0, 1, 58, 0, .null, 0),
  (58, .iload_n 1, 1, 59, 0, .null, 0),
  (59, .iload_n 3, 1, 60, 0, .null, 0),
  (60, .invokevirtual 192, 3, 63, 0, .null, 0),
  (63, .ishl, 1, 64, 0, .null, 0),
  (64, .invokevirtual 170, 3, 67, 0, .null, 0),
  (67, .return_, 1, 68, 0, .null, 0)])
set_option maxRecDepth 100000 in
theorem mM_keepPromise_ok : xOK mM_keepPromise = true := by decide +kernel
def mM_nodeOf : XM := (⟨"ChannelNetModel", "nodeOf", "(II)I"⟩, prog_8_method_22_code, 3, (Option.some FieldType.int), [], [
  (0, .iload_n 2, 1, 1, 0, .null, 0),
  (1, .ifCond .ne 12, 3, 4, 13, .null, 0),
  (4, .aload_n 0, 1, 5, 0, .null, 0),
  (5, .getfield 27, 3, 8, 8, .ref 7, 869),
  (8, .iload_n 1, 1, 9, 0, .null, 0),
  (9, .iaload, 1, 10, 0, .null, 0),
  (10, .goto 9, 3, 13, 19, .null, 0),
  (13, .aload_n 0, 1, 14, 0, .null, 0),
  (14, .getfield 30, 3, 17, 9, .ref 7, 870),
  (17, .iload_n 1, 1, 18, 0, .null, 0),
  (18, .iaload, 1, 19, 0, .null, 0),
  (19, .ireturn, 1, 20, 0, .null, 0)])
set_option maxRecDepth 100000 in
theorem mM_nodeOf_ok : xOK mM_nodeOf = true := by decide +kernel
def mM_drop : XM := (⟨"ChannelNetModel", "drop", "(II)I"⟩, prog_8_method_30_code, 4, (Option.some FieldType.int), [], [
  (0, .aload_n 0, 1, 1, 0, .null, 0),
  (1, .iload_n 1, 1, 2, 0, .null, 0),
  (2, .invokevirtual 196, 3, 5, 0, .null, 0),
  (5, .ifCond .eq 19, 3, 8, 24, .null, 0),
  (8, .aload_n 0, 1, 9, 0, .null, 0),
  (9, .iload_n 1, 1, 10, 0, .null, 0),
  (10, .invokevirtual 182, 3, 13, 0, .null, 0),
  (13, .iload_n 2, 1, 14, 0, .null, 0),
  (14, .invokestatic 218, 3, 17, 0, .null, 0),
  (17, .ifCond .eq 7, 3, 20, 24, .null, 0),
  (20, .iconst 1, 1, 21, 0, .int 1, 0),
  (21, .goto 4, 3, 24, 25, .null, 0),
  (24, .iconst 0, 1, 25, 0, .int 0, 0),
  (25, .istore_n 3, 1, 26, 0, .null, 0),
  (26, .aload_n 0, 1, 27, 0, .null, 0),
  (27, .iload_n 3, 1, 28, 0, .null, 0),
  (28, .ifCond .ne 7, 3, 31, 35, .null, 0),
  (31, .iconst 1, 1, 32, 0, .int 1, 0),
  (32, .goto 25, 3, 35, 57, .null, 0),
  (35, .aload_n 0, 1, 36, 0, .null, 0),
  (36, .getfield 33, 3, 39, 10, .ref 7, 871),
  (39, .iload_n 1, 1, 40, 0, .null, 0),
  (40, .iaload, 1, 41, 0, .null, 0),
  (41, .ifCond .ne 11, 3, 44, 52, .null, 0),
  (44, .aload_n 0, 1, 45, 0, .null, 0),
  (45, .iload_n 1, 1, 46, 0, .null, 0),
  (46, .invokevirtual 205, 3, 49, 0, .null, 0),
  (49, .ifCond .ne 7, 3, 52, 56, .null, 0),
  (52, .iconst 2, 1, 53, 0, .int 2, 0),
  (53, .goto 4, 3, 56, 57, .null, 0),
  (56, .iconst 0, 1, 57, 0, .int 0, 0),
  (57, .putfield 136, 3, 60, 0, .ref 7, 861),
  (60, .aload_n 0, 1, 61, 0, .null, 0),
  (61, .getfield 136, 3, 64, 0, .ref 7, 861),
  (64, .ifCond .le 5, 3, 67, 69, .null, 0),
  (67, .iconst 0, 1, 68, 0, .int 0, 0),
  (68, .ireturn, 1, 69, 0, .null, 0),
  (69, .aload_n 0, 1, 70, 0, .null, 0),
  (70, .iload_n 1, 1, 71, 0, .null, 0),
  (71, .iload_n 2, 1, 72, 0, .null, 0),
  (72, .invokevirtual 226, 3, 75, 0, .null, 0),
  (75, .aload_n 0, 1, 76, 0, .null, 0),
  (76, .getfield 36, 3, 79, 11, .ref 7, 872),
  (79, .iload_n 1, 1, 80, 0, .null, 0),
  (80, .iaload, 1, 81, 0, .null, 0),
  (81, .ireturn, 1, 82, 0, .null, 0)])
set_option maxRecDepth 100000 in
theorem mM_drop_ok : xOK mM_drop = true := by decide +kernel
def mM_dropPromise : XM := (⟨"ChannelNetModel", "dropPromise", "(II)V"⟩, prog_8_method_27_code, 3, (Option.none : Option FieldType), [], [
  (0, .aload_n 0, 1, 1, 0, .null, 0),
  (1, .iload_n 1, 1, 2, 0, .null, 0),
  (2, .aload_n 0, 1, 3, 0, .null, 0),
  (3, .getfield 52, 3, 6, 16, .ref 7, 877),
  (6, .bipush 64, 2, 8, 0, .int 64, 0),
  (8, .iload_n 1, 1, 9, 0, .null, 0),
  (9, .imul, 1, 10, 0, .null, 0),
  (10, .iload_n 2, 1, 11, 0, .null, 0),
  (11, .iadd, 1, 12, 0, .null, 0),
  (12, .iaload, 1, 13, 0, .null, 0),
  (13, .aload_n 0, 1, 14, 0, .null, 0),
  (14, .getfield 55, 3, 17, 17, .ref 7, 878),
  (17, .bipush 64, 2, 19, 0, .int 64, 0),
  (19, .iload_n 1, 1, 20, 0, .null, 0),
  (20, .imul, 1, 21, 0, .null, 0),
  (21, .iload_n 2, 1, 22, 0, .null, 0),
  (22, .iadd, 1, 23, 0, .null, 0),
  (23, .iaload, 1, 24, 0, .null, 0),
  (24, .aload_n 0, 1, 25, 0, .null, 0),
  (25, .iload_n 1, 1, 26, 0, .null, 0),
  (26, .invokevirtual 182, 3, 29, 0, .null, 0),
  (29, .lconst 1, 1, 30, 0, .long 1, 0),
  (30, .iload_n 2, 1, 31, 0, .null, 0),
  (31, .lshl, 1, 32, 0, .null, 0),
  (32, .ldc2_w 190, 3, 35, 0, .long (-1), 1106),
  (35, .lxor, 1, 36, 0, .null, 0),
  (36, .land, 1, 37, 0, .null, 0),
  (37, .invokevirtual 186, 3, 40, 0, .null, 0),
  (40, .return_, 1, 41, 0, .null, 0)])
set_option maxRecDepth 100000 in
theorem mM_dropPromise_ok : xOK mM_dropPromise = true := by decide +kernel
def mM_close : XM := (⟨"ChannelNetModel", "close", "(I)V"⟩, prog_8_method_32_code, 2, (Option.none : Option FieldType), [], [
  (0, .aload_n 0, 1, 1, 0, .null, 0),
  (1, .aload_n 0, 1, 2, 0, .null, 0),
  (2, .iload_n 1, 1, 3, 0, .null, 0),
  (3, .invokevirtual 196, 3, 6, 0, .null, 0),
  (6, .ifCond .ne 7, 3, 9, 13, .null, 0),
  (9, .iconst 1, 1, 10, 0, .int 1, 0),
  (10, .goto 27, 3, 13, 37, .null, 0),
  (13, .aload_n 0, 1, 14, 0, .null, 0),
  (14, .getfield 33, 3, 17, 10, .ref 7, 871),
  (17, .iload_n 1, 1, 18, 0, .null, 0),
  (18, .iaload, 1, 19, 0, .null, 0),
  (19, .ifCond .ne 13, 3, 22, 32, .null, 0),
  (22, .aload_n 0, 1, 23, 0, .null, 0),
  (23, .iload_n 1, 1, 24, 0, .null, 0),
  (24, .invokevirtual 182, 3, 27, 0, .null, 0),
  (27, .lconst 0, 1, 28, 0, .long 0, 0),
  (28, .lcmp, 1, 29, 0, .null, 0),
  (29, .ifCond .eq 7, 3, 32, 36, .null, 0),
  (32, .iconst 2, 1, 33, 0, .int 2, 0),
  (33, .goto 4, 3, 36, 37, .null, 0),
  (36, .iconst 0, 1, 37, 0, .int 0, 0),
  (37, .putfield 136, 3, 40, 0, .ref 7, 861),
  (40, .aload_n 0, 1, 41, 0, .null, 0),
  (41, .getfield 136, 3, 44, 0, .ref 7, 861),
  (44, .ifCond .ne 48, 3, 47, 92, .null, 0),
  (47, .aload_n 0, 1, 48, 0, .null, 0),
  (48, .getfield 8, 3, 51, 1, .ref 7, 862),
  (51, .aload_n 0, 1, 52, 0, .null, 0),
  (52, .getfield 27, 3, 55, 8, .ref 7, 869),
  (55, .iload_n 1, 1, 56, 0, .null, 0),
  (56, .iaload, 1, 57, 0, .null, 0),
  (57, .dup2, 1, 58, 0, .null, 0),
  (58, .iaload, 1, 59, 0, .null, 0),
  (59, .aload_n 0, 1, 60, 0, .null, 0),
  (60, .iload_n 1, 1, 61, 0, .null, 0),
  (61, .iconst 0, 1, 62, 0, .int 0, 0),
  (62, .invokevirtual 208, 3, 65, 0, .null, 0),
  (65, .iadd, 1, 66, 0, .null, 0),
  (66, .iastore, 1, 67, 0, .null, 0),
  (67, .aload_n 0, 1, 68, 0, .null, 0),
  (68, .getfield 8, 3, 71, 1, .ref 7, 862),
  (71, .aload_n 0, 1, 72, 0, .null, 0),
  (72, .getfield 30, 3, 75, 9, .ref 7, 870),
  (75, .iload_n 1, 1, 76, 0, .null, 0),
  (76, .iaload, 1, 77, 0, .null, 0),
  (77, .dup2, 1, 78, 0, .null, 0),
  (78, .iaload, 1, 79, 0, .null, 0),
  (79, .aload_n 0, 1, 80, 0, .null, 0),
  (80, .iload_n 1, 1, 81, 0, .null, 0),
  (81, .iconst 1, 1, 82, 0, .int 1, 0),
  (82, .invokevirtual 208, 3, 85, 0, .null, 0),
  (85, .iadd, 1, 86, 0, .null, 0),
  (86, .iastore, 1, 87, 0, .null, 0),
  (87, .aload_n 0, 1, 88, 0, .null, 0),
  (88, .iload_n 1, 1, 89, 0, .null, 0),
  (89, .invokevirtual 229, 3, 92, 0, .null, 0),
  (92, .return_, 1, 93, 0, .null, 0)])
set_option maxRecDepth 100000 in
theorem mM_close_ok : xOK mM_close = true := by decide +kernel
def mM_shut : XM := (⟨"ChannelNetModel", "shut", "(I)V"⟩, prog_8_method_31_code, 2, (Option.none : Option FieldType), [], [
  (0, .aload_n 0, 1, 1, 0, .null, 0),
  (1, .getfield 33, 3, 4, 10, .ref 7, 871),
  (4, .iload_n 1, 1, 5, 0, .null, 0),
  (5, .iconst 2, 1, 6, 0, .int 2, 0),
  (6, .iastore, 1, 7, 0, .null, 0),
  (7, .aload_n 0, 1, 8, 0, .null, 0),
  (8, .getfield 46, 3, 11, 14, .ref 7, 875),
  (11, .iload_n 1, 1, 12, 0, .null, 0),
  (12, .iconst 0, 1, 13, 0, .int 0, 0),
  (13, .iastore, 1, 14, 0, .null, 0),
  (14, .return_, 1, 15, 0, .null, 0)])
set_option maxRecDepth 100000 in
theorem mM_shut_ok : xOK mM_shut = true := by decide +kernel
def mM_route : XM := (⟨"ChannelNetModel", "route", "(III)I"⟩, prog_8_method_37_code, 4, (Option.some FieldType.int), [], [
  (0, .aload_n 0, 1, 1, 0, .null, 0),
  (1, .iload_n 1, 1, 2, 0, .null, 0),
  (2, .invokestatic 162, 3, 5, 0, .null, 0),
  (5, .ifCond .eq 10, 3, 8, 15, .null, 0),
  (8, .iload_n 2, 1, 9, 0, .null, 0),
  (9, .invokestatic 162, 3, 12, 0, .null, 0),
  (12, .ifCond .ne 7, 3, 15, 19, .null, 0),
  (15, .iconst 1, 1, 16, 0, .int 1, 0),
  (16, .goto 18, 3, 19, 34, .null, 0),
  (19, .aload_n 0, 1, 20, 0, .null, 0),
  (20, .iload_n 1, 1, 21, 0, .null, 0),
  (21, .iload_n 2, 1, 22, 0, .null, 0),
  (22, .iload_n 3, 1, 23, 0, .null, 0),
  (23, .invokevirtual 249, 3, 26, 0, .null, 0),
  (26, .ifCond .eq 7, 3, 29, 33, .null, 0),
  (29, .iconst 0, 1, 30, 0, .int 0, 0),
  (30, .goto 4, 3, 33, 34, .null, 0),
  (33, .iconst 2, 1, 34, 0, .int 2, 0),
  (34, .putfield 136, 3, 37, 0, .ref 7, 861),
  (37, .aload_n 0, 1, 38, 0, .null, 0),
  (38, .getfield 136, 3, 41, 0, .ref 7, 861),
  (41, .ifCond .le 5, 3, 44, 46, .null, 0),
  (44, .iconst 0, 1, 45, 0, .int 0, 0),
  (45, .ireturn, 1, 46, 0, .null, 0),
  (46, .aload_n 0, 1, 47, 0, .null, 0),
  (47, .iload_n 1, 1, 48, 0, .null, 0),
  (48, .iload_n 2, 1, 49, 0, .null, 0),
  (49, .iload_n 3, 1, 50, 0, .null, 0),
  (50, .invokevirtual 252, 3, 53, 0, .null, 0),
  (53, .aload_n 0, 1, 54, 0, .null, 0),
  (54, .getfield 233, 3, 57, 28, .ref 7, 889),
  (57, .ifCond .ne 7, 3, 60, 64, .null, 0),
  (60, .iconst (-1), 1, 61, 0, .int (-1), 0),
  (61, .goto 7, 3, 64, 68, .null, 0),
  (64, .aload_n 0, 1, 65, 0, .null, 0),
  (65, .getfield 236, 3, 68, 30, .ref 7, 891),
  (68, .ireturn, 1, 69, 0, .null, 0)])
set_option maxRecDepth 100000 in
theorem mM_route_ok : xOK mM_route = true := by decide +kernel
def mM_isProper : XM := (⟨"ChannelNetModel", "isProper", "(III)Z"⟩, prog_8_method_36_code, 4, (Option.some FieldType.boolean), [], [
  (0, .iload_n 1, 1, 1, 0, .null, 0),
  (1, .iload_n 2, 1, 2, 0, .null, 0),
  (2, .if_icmp .eq 17, 3, 5, 19, .null, 0),
  (5, .iload_n 3, 1, 6, 0, .null, 0),
  (6, .iconst 1, 1, 7, 0, .int 1, 0),
  (7, .ldc 248, 2, 9, 0, .int 10000000, 1135),
  (9, .invokestatic 140, 3, 12, 0, .null, 0),
  (12, .ifCond .eq 7, 3, 15, 19, .null, 0),
  (15, .iconst 1, 1, 16, 0, .int 1, 0),
  (16, .goto 4, 3, 19, 20, .null, 0),
  (19, .iconst 0, 1, 20, 0, .int 0, 0),
  (20, .ireturn, 1, 21, 0, .null, 0)])
set_option maxRecDepth 100000 in
theorem mM_isProper_ok : xOK mM_isProper = true := by decide +kernel
def mM_search : XM := (⟨"ChannelNetModel", "search", "(III)V"⟩, prog_8_method_35_code, 11, (Option.none : Option FieldType), [], [
  (0, .aload_n 0, 1, 1, 0, .null, 0),
  (1, .iconst 0, 1, 2, 0, .int 0, 0),
  (2, .putfield 233, 3, 5, 28, .ref 7, 889),
  (5, .aload_n 0, 1, 6, 0, .null, 0),
  (6, .iconst 0, 1, 7, 0, .int 0, 0),
  (7, .putfield 236, 3, 10, 30, .ref 7, 891),
  (10, .aload_n 0, 1, 11, 0, .null, 0),
  (11, .getfield 94, 3, 14, 33, .ref 7, 894),
  (14, .iconst 0, 1, 15, 0, .int 0, 0),
  (15, .iload_n 2, 1, 16, 0, .null, 0),
  (16, .iastore, 1, 17, 0, .null, 0),
  (17, .aload_n 0, 1, 18, 0, .null, 0),
  (18, .getfield 91, 3, 21, 32, .ref 7, 893),
  (21, .iconst 0, 1, 22, 0, .int 0, 0),
  (22, .iload_n 3, 1, 23, 0, .null, 0),
  (23, .i2l, 1, 24, 0, .null, 0),
  (24, .lastore, 1, 25, 0, .null, 0),
  (25, .aload_n 0, 1, 26, 0, .null, 0),
  (26, .getfield 88, 3, 29, 31, .ref 7, 892),
  (29, .iconst 0, 1, 30, 0, .int 0, 0),
  (30, .iconst (-1), 1, 31, 0, .int (-1), 0),
  (31, .iastore, 1, 32, 0, .null, 0),
  (32, .iconst 0, 1, 33, 0, .int 0, 0),
  (33, .istore 4, 2, 35, 0, .null, 0),
  (35, .iload 4, 2, 37, 0, .null, 0),
  (37, .ifCond .lt 316, 3, 40, 353, .null, 0),
  (40, .aload_n 0, 1, 41, 0, .null, 0),
  (41, .getfield 94, 3, 44, 33, .ref 7, 894),
  (44, .iload 4, 2, 46, 0, .null, 0),
  (46, .iaload, 1, 47, 0, .null, 0),
  (47, .istore 5, 2, 49, 0, .null, 0),
  (49, .aload_n 0, 1, 50, 0, .null, 0),
  (50, .getfield 88, 3, 53, 31, .ref 7, 892),
  (53, .iload 4, 2, 55, 0, .null, 0),
  (55, .dup2, 1, 56, 0, .null, 0),
  (56, .iaload, 1, 57, 0, .null, 0),
  (57, .iconst 1, 1, 58, 0, .int 1, 0),
  (58, .iadd, 1, 59, 0, .null, 0),
  (59, .iastore, 1, 60, 0, .null, 0),
  (60, .aload_n 0, 1, 61, 0, .null, 0),
  (61, .getfield 88, 3, 64, 31, .ref 7, 892),
  (64, .iload 4, 2, 66, 0, .null, 0),
  (66, .iaload, 1, 67, 0, .null, 0),
  (67, .istore 6, 2, 69, 0, .null, 0),
  (69, .iload 6, 2, 71, 0, .null, 0),
  (71, .aload_n 0, 1, 72, 0, .null, 0),
  (72, .getfield 144, 3, 75, 7, .ref 7, 868),
  (75, .if_icmp .lt 9, 3, 78, 84, .null, 0),
  (78, .iinc 4 (-1), 3, 81, 0, .int (-1), 0),
  (81, .goto (-46), 3, 84, 35, .null, 0),
  (84, .aload_n 0, 1, 85, 0, .null, 0),
  (85, .iload 6, 2, 87, 0, .null, 0),
  (87, .iload 5, 2, 89, 0, .null, 0),
  (89, .invokevirtual 199, 3, 92, 0, .null, 0),
  (92, .istore 7, 2, 94, 0, .null, 0),
  (94, .iload 7, 2, 96, 0, .null, 0),
  (96, .iconst (-1), 1, 97, 0, .int (-1), 0),
  (97, .if_icmp .ne 7, 3, 100, 104, .null, 0),
  (100, .iconst (-1), 1, 101, 0, .int (-1), 0),
  (101, .goto 13, 3, 104, 114, .null, 0),
  (104, .aload_n 0, 1, 105, 0, .null, 0),
  (105, .iload 6, 2, 107, 0, .null, 0),
  (107, .iconst 1, 1, 108, 0, .int 1, 0),
  (108, .iload 7, 2, 110, 0, .null, 0),
  (110, .isub, 1, 111, 0, .null, 0),
  (111, .invokevirtual 192, 3, 114, 0, .null, 0),
  (114, .istore 8, 2, 116, 0, .null, 0),
  (116, .iload 8, 2, 118, 0, .null, 0),
  (118, .iconst (-1), 1, 119, 0, .int (-1), 0),
  (119, .if_icmp .eq 27, 3, 122, 146, .null, 0),
  (122, .aload_n 0, 1, 123, 0, .null, 0),
  (123, .iload 6, 2, 125, 0, .null, 0),
  (125, .iconst 1, 1, 126, 0, .int 1, 0),
  (126, .iload 7, 2, 128, 0, .null, 0),
  (128, .isub, 1, 129, 0, .null, 0),
  (129, .aload_n 0, 1, 130, 0, .null, 0),
  (130, .getfield 91, 3, 133, 32, .ref 7, 893),
  (133, .iload 4, 2, 135, 0, .null, 0),
  (135, .laload, 1, 136, 0, .null, 0),
  (136, .invokevirtual 239, 3, 139, 0, .null, 0),
  (139, .ifCond .eq 7, 3, 142, 146, .null, 0),
  (142, .iconst 1, 1, 143, 0, .int 1, 0),
  (143, .goto 4, 3, 146, 147, .null, 0),
  (146, .iconst 0, 1, 147, 0, .int 0, 0),
  (147, .istore 9, 2, 149, 0, .null, 0),
  (149, .iconst 0, 1, 150, 0, .int 0, 0),
  (150, .istore 10, 2, 152, 0, .null, 0),
  (152, .iload 10, 2, 154, 0, .null, 0),
  (154, .iload 4, 2, 156, 0, .null, 0),
  (156, .if_icmp .gt 33, 3, 159, 189, .null, 0),
  (159, .iload 9, 2, 161, 0, .null, 0),
  (161, .ifCond .eq 19, 3, 164, 180, .null, 0),
  (164, .aload_n 0, 1, 165, 0, .null, 0),
  (165, .getfield 94, 3, 168, 33, .ref 7, 894),
  (168, .iload 10, 2, 170, 0, .null, 0),
  (170, .iaload, 1, 171, 0, .null, 0),
  (171, .iload 8, 2, 173, 0, .null, 0),
  (173, .if_icmp .eq 7, 3, 176, 180, .null, 0),
  (176, .iconst 1, 1, 177, 0, .int 1, 0),
  (177, .goto 4, 3, 180, 181, .null, 0),
  (180, .iconst 0, 1, 181, 0, .int 0, 0),
  (181, .istore 9, 2, 183, 0, .null, 0),
  (183, .iinc 10 1, 3, 186, 0, .int 1, 0),
  (186, .goto (-34), 3, 189, 152, .null, 0),
  (189, .iload 9, 2, 191, 0, .null, 0),
  (191, .ifCond .eq 76, 3, 194, 267, .null, 0),
  (194, .iload 8, 2, 196, 0, .null, 0),
  (196, .iload_n 1, 1, 197, 0, .null, 0),
  (197, .if_icmp .ne 70, 3, 200, 267, .null, 0),
  (200, .aload_n 0, 1, 201, 0, .null, 0),
  (201, .iload 4, 2, 203, 0, .null, 0),
  (203, .iconst 1, 1, 204, 0, .int 1, 0),
  (204, .iadd, 1, 205, 0, .null, 0),
  (205, .invokevirtual 243, 3, 208, 0, .null, 0),
  (208, .ifCond .eq 142, 3, 211, 350, .null, 0),
  (211, .aload_n 0, 1, 212, 0, .null, 0),
  (212, .iload 4, 2, 214, 0, .null, 0),
  (214, .iconst 1, 1, 215, 0, .int 1, 0),
  (215, .iadd, 1, 216, 0, .null, 0),
  (216, .putfield 233, 3, 219, 28, .ref 7, 889),
  (219, .aload_n 0, 1, 220, 0, .null, 0),
  (220, .aload_n 0, 1, 221, 0, .null, 0),
  (221, .getfield 91, 3, 224, 32, .ref 7, 893),
  (224, .iload 4, 2, 226, 0, .null, 0),
  (226, .laload, 1, 227, 0, .null, 0),
  (227, .l2i, 1, 228, 0, .null, 0),
  (228, .putfield 236, 3, 231, 30, .ref 7, 891),
  (231, .iconst 0, 1, 232, 0, .int 0, 0),
  (232, .istore 10, 2, 234, 0, .null, 0),
  (234, .iload 10, 2, 236, 0, .null, 0),
  (236, .iload 4, 2, 238, 0, .null, 0),
  (238, .if_icmp .gt 26, 3, 241, 264, .null, 0),
  (241, .aload_n 0, 1, 242, 0, .null, 0),
  (242, .getfield 85, 3, 245, 29, .ref 7, 890),
  (245, .iload 10, 2, 247, 0, .null, 0),
  (247, .aload_n 0, 1, 248, 0, .null, 0),
  (248, .getfield 88, 3, 251, 31, .ref 7, 892),
  (251, .iload 4, 2, 253, 0, .null, 0),
  (253, .iload 10, 2, 255, 0, .null, 0),
  (255, .isub, 1, 256, 0, .null, 0),
  (256, .iaload, 1, 257, 0, .null, 0),
  (257, .iastore, 1, 258, 0, .null, 0),
  (258, .iinc 10 1, 3, 261, 0, .int 1, 0),
  (261, .goto (-27), 3, 264, 234, .null, 0),
  (264, .goto 86, 3, 267, 350, .null, 0),
  (267, .iload 9, 2, 269, 0, .null, 0),
  (269, .ifCond .eq 81, 3, 272, 350, .null, 0),
  (272, .iload 4, 2, 274, 0, .null, 0),
  (274, .iconst 1, 1, 275, 0, .int 1, 0),
  (275, .iadd, 1, 276, 0, .null, 0),
  (276, .iconst 5, 1, 277, 0, .int 5, 0),
  (277, .if_icmp .ge 73, 3, 280, 350, .null, 0),
  (280, .aload_n 0, 1, 281, 0, .null, 0),
  (281, .getfield 91, 3, 284, 32, .ref 7, 893),
  (284, .iload 4, 2, 286, 0, .null, 0),
  (286, .iconst 1, 1, 287, 0, .int 1, 0),
  (287, .iadd, 1, 288, 0, .null, 0),
  (288, .aload_n 0, 1, 289, 0, .null, 0),
  (289, .getfield 91, 3, 292, 32, .ref 7, 893),
  (292, .iload 4, 2, 294, 0, .null, 0),
  (294, .laload, 1, 295, 0, .null, 0),
  (295, .aload_n 0, 1, 296, 0, .null, 0),
  (296, .getfield 14, 3, 299, 2, .ref 7, 863),
  (299, .iload 8, 2, 301, 0, .null, 0),
  (301, .iaload, 1, 302, 0, .null, 0),
  (302, .i2l, 1, 303, 0, .null, 0),
  (303, .ladd, 1, 304, 0, .null, 0),
  (304, .aload_n 0, 1, 305, 0, .null, 0),
  (305, .getfield 91, 3, 308, 32, .ref 7, 893),
  (308, .iload 4, 2, 310, 0, .null, 0),
  (310, .laload, 1, 311, 0, .null, 0),
  (311, .aload_n 0, 1, 312, 0, .null, 0),
  (312, .getfield 17, 3, 315, 3, .ref 7, 864),
  (315, .iload 8, 2, 317, 0, .null, 0),
  (317, .iaload, 1, 318, 0, .null, 0),
  (318, .i2l, 1, 319, 0, .null, 0),
  (319, .lmul, 1, 320, 0, .null, 0),
  (320, .ldc2_w 246, 3, 323, 0, .long 1000000, 1148),
  (323, .ldiv, 1, 324, 0, .null, 0),
  (324, .ladd, 1, 325, 0, .null, 0),
  (325, .lastore, 1, 326, 0, .null, 0),
  (326, .aload_n 0, 1, 327, 0, .null, 0),
  (327, .getfield 94, 3, 330, 33, .ref 7, 894),
  (330, .iload 4, 2, 332, 0, .null, 0),
  (332, .iconst 1, 1, 333, 0, .int 1, 0),
  (333, .iadd, 1, 334, 0, .null, 0),
  (334, .iload 8, 2, 336, 0, .null, 0),
  (336, .iastore, 1, 337, 0, .null, 0),
  (337, .aload_n 0, 1, 338, 0, .null, 0),
  (338, .getfield 88, 3, 341, 31, .ref 7, 892),
  (341, .iload 4, 2, 343, 0, .null, 0),
  (343, .iconst 1, 1, 344, 0, .int 1, 0),
  (344, .iadd, 1, 345, 0, .null, 0),
  (345, .iconst (-1), 1, 346, 0, .int (-1), 0),
  (346, .iastore, 1, 347, 0, .null, 0),
  (347, .iinc 4 1, 3, 350, 0, .int 1, 0),
  (350, .goto (-315), 3, 353, 35, .null, 0),
  (353, .return_, 1, 354, 0, .null, 0)])
set_option maxRecDepth 100000 in
theorem mM_search_ok : xOK mM_search = true := by decide +kernel
def mM_carries : XM := (⟨"ChannelNetModel", "carries", "(IIJ)Z"⟩, prog_8_method_33_code, 5, (Option.some FieldType.boolean), [], [
  (0, .aload_n 0, 1, 1, 0, .null, 0),
  (1, .getfield 33, 3, 4, 10, .ref 7, 871),
  (4, .iload_n 1, 1, 5, 0, .null, 0),
  (5, .iaload, 1, 6, 0, .null, 0),
  (6, .ifCond .ne 32, 3, 9, 38, .null, 0),
  (9, .aload_n 0, 1, 10, 0, .null, 0),
  (10, .iload_n 1, 1, 11, 0, .null, 0),
  (11, .invokevirtual 182, 3, 14, 0, .null, 0),
  (14, .invokestatic 202, 3, 17, 0, .null, 0),
  (17, .bipush 6, 2, 19, 0, .int 6, 0),
  (19, .if_icmp .ge 19, 3, 22, 38, .null, 0),
  (22, .aload_n 0, 1, 23, 0, .null, 0),
  (23, .iload_n 1, 1, 24, 0, .null, 0),
  (24, .iload_n 2, 1, 25, 0, .null, 0),
  (25, .invokevirtual 208, 3, 28, 0, .null, 0),
  (28, .i2l, 1, 29, 0, .null, 0),
  (29, .lload_n 3, 1, 30, 0, .null, 0),
  (30, .lcmp, 1, 31, 0, .null, 0),
  (31, .ifCond .lt 7, 3, 34, 38, .null, 0),
  (34, .iconst 1, 1, 35, 0, .int 1, 0),
  (35, .goto 4, 3, 38, 39, .null, 0),
  (38, .iconst 0, 1, 39, 0, .int 0, 0),
  (39, .ireturn, 1, 40, 0, .null, 0)])
set_option maxRecDepth 100000 in
theorem mM_carries_ok : xOK mM_carries = true := by decide +kernel
def mM_isBetter : XM := (⟨"ChannelNetModel", "isBetter", "(I)Z"⟩, prog_8_method_34_code, 5, (Option.some FieldType.boolean), [], [
  (0, .aload_n 0, 1, 1, 0, .null, 0),
  (1, .getfield 91, 3, 4, 32, .ref 7, 893),
  (4, .iload_n 1, 1, 5, 0, .null, 0),
  (5, .iconst 1, 1, 6, 0, .int 1, 0),
  (6, .isub, 1, 7, 0, .null, 0),
  (7, .laload, 1, 8, 0, .null, 0),
  (8, .lstore_n 2, 1, 9, 0, .null, 0),
  (9, .aload_n 0, 1, 10, 0, .null, 0),
  (10, .getfield 233, 3, 13, 28, .ref 7, 889),
  (13, .ifCond .eq 21, 3, 16, 34, .null, 0),
  (16, .lload_n 2, 1, 17, 0, .null, 0),
  (17, .aload_n 0, 1, 18, 0, .null, 0),
  (18, .getfield 236, 3, 21, 30, .ref 7, 891),
  (21, .i2l, 1, 22, 0, .null, 0),
  (22, .lcmp, 1, 23, 0, .null, 0),
  (23, .ifCond .ne 11, 3, 26, 34, .null, 0),
  (26, .iload_n 1, 1, 27, 0, .null, 0),
  (27, .aload_n 0, 1, 28, 0, .null, 0),
  (28, .getfield 233, 3, 31, 28, .ref 7, 889),
  (31, .if_icmp .eq 44, 3, 34, 75, .null, 0),
  (34, .aload_n 0, 1, 35, 0, .null, 0),
  (35, .getfield 233, 3, 38, 28, .ref 7, 889),
  (38, .ifCond .eq 31, 3, 41, 69, .null, 0),
  (41, .lload_n 2, 1, 42, 0, .null, 0),
  (42, .aload_n 0, 1, 43, 0, .null, 0),
  (43, .getfield 236, 3, 46, 30, .ref 7, 891),
  (46, .i2l, 1, 47, 0, .null, 0),
  (47, .lcmp, 1, 48, 0, .null, 0),
  (48, .ifCond .lt 21, 3, 51, 69, .null, 0),
  (51, .lload_n 2, 1, 52, 0, .null, 0),
  (52, .aload_n 0, 1, 53, 0, .null, 0),
  (53, .getfield 236, 3, 56, 30, .ref 7, 891),
  (56, .i2l, 1, 57, 0, .null, 0),
  (57, .lcmp, 1, 58, 0, .null, 0),
  (58, .ifCond .ne 15, 3, 61, 73, .null, 0),
  (61, .iload_n 1, 1, 62, 0, .null, 0),
  (62, .aload_n 0, 1, 63, 0, .null, 0),
  (63, .getfield 233, 3, 66, 28, .ref 7, 889),
  (66, .if_icmp .ge 7, 3, 69, 73, .null, 0),
  (69, .iconst 1, 1, 70, 0, .int 1, 0),
  (70, .goto 4, 3, 73, 74, .null, 0),
  (73, .iconst 0, 1, 74, 0, .int 0, 0),
  (74, .ireturn, 1, 75, 0, .null, 0),
  (75, .iconst 0, 1, 76, 0, .int 0, 0),
  (76, .istore 4, 2, 78, 0, .null, 0),
  (78, .iload 4, 2, 80, 0, .null, 0),
  (80, .iload_n 1, 1, 81, 0, .null, 0),
  (81, .if_icmp .ge 57, 3, 84, 138, .null, 0),
  (84, .aload_n 0, 1, 85, 0, .null, 0),
  (85, .getfield 88, 3, 88, 31, .ref 7, 892),
  (88, .iload_n 1, 1, 89, 0, .null, 0),
  (89, .iconst 1, 1, 90, 0, .int 1, 0),
  (90, .isub, 1, 91, 0, .null, 0),
  (91, .iload 4, 2, 93, 0, .null, 0),
  (93, .isub, 1, 94, 0, .null, 0),
  (94, .iaload, 1, 95, 0, .null, 0),
  (95, .aload_n 0, 1, 96, 0, .null, 0),
  (96, .getfield 85, 3, 99, 29, .ref 7, 890),
  (99, .iload 4, 2, 101, 0, .null, 0),
  (101, .iaload, 1, 102, 0, .null, 0),
  (102, .if_icmp .eq 30, 3, 105, 132, .null, 0),
  (105, .aload_n 0, 1, 106, 0, .null, 0),
  (106, .getfield 88, 3, 109, 31, .ref 7, 892),
  (109, .iload_n 1, 1, 110, 0, .null, 0),
  (110, .iconst 1, 1, 111, 0, .int 1, 0),
  (111, .isub, 1, 112, 0, .null, 0),
  (112, .iload 4, 2, 114, 0, .null, 0),
  (114, .isub, 1, 115, 0, .null, 0),
  (115, .iaload, 1, 116, 0, .null, 0),
  (116, .aload_n 0, 1, 117, 0, .null, 0),
  (117, .getfield 85, 3, 120, 29, .ref 7, 890),
  (120, .iload 4, 2, 122, 0, .null, 0),
  (122, .iaload, 1, 123, 0, .null, 0),
  (123, .if_icmp .ge 7, 3, 126, 130, .null, 0),
  (126, .iconst 1, 1, 127, 0, .int 1, 0),
  (127, .goto 4, 3, 130, 131, .null, 0),
  (130, .iconst 0, 1, 131, 0, .int 0, 0),
  (131, .ireturn, 1, 132, 0, .null, 0),
  (132, .iinc 4 1, 3, 135, 0, .int 1, 0),
  (135, .goto (-57), 3, 138, 78, .null, 0),
  (138, .iconst 0, 1, 139, 0, .int 0, 0),
  (139, .ireturn, 1, 140, 0, .null, 0)])
set_option maxRecDepth 100000 in
theorem mM_isBetter_ok : xOK mM_isBetter = true := by decide +kernel
def mM_hop : XM := (⟨"ChannelNetModel", "hop", "(I)I"⟩, prog_8_method_38_code, 2, (Option.some FieldType.int), [], [
  (0, .aload_n 0, 1, 1, 0, .null, 0),
  (1, .iload_n 1, 1, 2, 0, .null, 0),
  (2, .iconst (-1), 1, 3, 0, .int (-1), 0),
  (3, .aload_n 0, 1, 4, 0, .null, 0),
  (4, .getfield 233, 3, 7, 28, .ref 7, 889),
  (7, .iconst 1, 1, 8, 0, .int 1, 0),
  (8, .isub, 1, 9, 0, .null, 0),
  (9, .invokestatic 140, 3, 12, 0, .null, 0),
  (12, .ifCond .eq 7, 3, 15, 19, .null, 0),
  (15, .iconst 0, 1, 16, 0, .int 0, 0),
  (16, .goto 4, 3, 19, 20, .null, 0),
  (19, .iconst 1, 1, 20, 0, .int 1, 0),
  (20, .putfield 136, 3, 23, 0, .ref 7, 861),
  (23, .aload_n 0, 1, 24, 0, .null, 0),
  (24, .getfield 136, 3, 27, 0, .ref 7, 861),
  (27, .ifCond .le 7, 3, 30, 34, .null, 0),
  (30, .iconst 0, 1, 31, 0, .int 0, 0),
  (31, .goto 21, 3, 34, 52, .null, 0),
  (34, .iload_n 1, 1, 35, 0, .null, 0),
  (35, .iconst (-1), 1, 36, 0, .int (-1), 0),
  (36, .if_icmp .ne 10, 3, 39, 46, .null, 0),
  (39, .aload_n 0, 1, 40, 0, .null, 0),
  (40, .getfield 233, 3, 43, 28, .ref 7, 889),
  (43, .goto 9, 3, 46, 52, .null, 0),
  (46, .aload_n 0, 1, 47, 0, .null, 0),
  (47, .getfield 85, 3, 50, 29, .ref 7, 890),
  (50, .iload_n 1, 1, 51, 0, .null, 0),
  (51, .iaload, 1, 52, 0, .null, 0),
  (52, .ireturn, 1, 53, 0, .null, 0)])
set_option maxRecDepth 100000 in
theorem mM_hop_ok : xOK mM_hop = true := by decide +kernel
def mM_pay : XM := (⟨"ChannelNetModel", "pay", "(IIIJI)I"⟩, prog_8_method_39_code, 15, (Option.some FieldType.int), [], [
  (0, .aload_n 0, 1, 1, 0, .null, 0),
  (1, .iload_n 1, 1, 2, 0, .null, 0),
  (2, .invokestatic 162, 3, 5, 0, .null, 0),
  (5, .ifCond .eq 10, 3, 8, 15, .null, 0),
  (8, .iload_n 2, 1, 9, 0, .null, 0),
  (9, .invokestatic 162, 3, 12, 0, .null, 0),
  (12, .ifCond .ne 7, 3, 15, 19, .null, 0),
  (15, .iconst 1, 1, 16, 0, .int 1, 0),
  (16, .goto 43, 3, 19, 59, .null, 0),
  (19, .aload_n 0, 1, 20, 0, .null, 0),
  (20, .iload_n 1, 1, 21, 0, .null, 0),
  (21, .iload_n 2, 1, 22, 0, .null, 0),
  (22, .iload_n 3, 1, 23, 0, .null, 0),
  (23, .invokevirtual 249, 3, 26, 0, .null, 0),
  (26, .ifCond .eq 15, 3, 29, 41, .null, 0),
  (29, .iload 6, 2, 31, 0, .null, 0),
  (31, .iconst 0, 1, 32, 0, .int 0, 0),
  (32, .ldc_w 256, 3, 35, 0, .int 1000000000, 1157),
  (35, .invokestatic 140, 3, 38, 0, .null, 0),
  (38, .ifCond .ne 7, 3, 41, 45, .null, 0),
  (41, .iconst 2, 1, 42, 0, .int 2, 0),
  (42, .goto 17, 3, 45, 59, .null, 0),
  (45, .aload_n 0, 1, 46, 0, .null, 0),
  (46, .getfield 257, 3, 49, 34, .ref 7, 895),
  (49, .bipush 16, 2, 51, 0, .int 16, 0),
  (51, .if_icmp .ne 7, 3, 54, 58, .null, 0),
  (54, .iconst 3, 1, 55, 0, .int 3, 0),
  (55, .goto 4, 3, 58, 59, .null, 0),
  (58, .iconst 0, 1, 59, 0, .int 0, 0),
  (59, .putfield 136, 3, 62, 0, .ref 7, 861),
  (62, .aload_n 0, 1, 63, 0, .null, 0),
  (63, .getfield 136, 3, 66, 0, .ref 7, 861),
  (66, .ifCond .le 5, 3, 69, 71, .null, 0),
  (69, .iconst 0, 1, 70, 0, .int 0, 0),
  (70, .ireturn, 1, 71, 0, .null, 0),
  (71, .aload_n 0, 1, 72, 0, .null, 0),
  (72, .iload_n 1, 1, 73, 0, .null, 0),
  (73, .iload_n 2, 1, 74, 0, .null, 0),
  (74, .iload_n 3, 1, 75, 0, .null, 0),
  (75, .invokevirtual 252, 3, 78, 0, .null, 0),
  (78, .aload_n 0, 1, 79, 0, .null, 0),
  (79, .getfield 233, 3, 82, 28, .ref 7, 889),
  (82, .ifCond .ne 5, 3, 85, 87, .null, 0),
  (85, .iconst (-1), 1, 86, 0, .int (-1), 0),
  (86, .ireturn, 1, 87, 0, .null, 0),
  (87, .aload_n 0, 1, 88, 0, .null, 0),
  (88, .getfield 257, 3, 91, 34, .ref 7, 895),
  (91, .istore 7, 2, 93, 0, .null, 0),
  (93, .aload_n 0, 1, 94, 0, .null, 0),
  (94, .dup, 1, 95, 0, .null, 0),
  (95, .getfield 257, 3, 98, 34, .ref 7, 895),
  (98, .iconst 1, 1, 99, 0, .int 1, 0),
  (99, .iadd, 1, 100, 0, .null, 0),
  (100, .putfield 257, 3, 103, 34, .ref 7, 895),
  (103, .aload_n 0, 1, 104, 0, .null, 0),
  (104, .getfield 112, 3, 107, 40, .ref 7, 901),
  (107, .iload 7, 2, 109, 0, .null, 0),
  (109, .aload_n 0, 1, 110, 0, .null, 0),
  (110, .getfield 233, 3, 113, 28, .ref 7, 889),
  (113, .iastore, 1, 114, 0, .null, 0),
  (114, .aload_n 0, 1, 115, 0, .null, 0),
  (115, .getfield 115, 3, 118, 41, .ref 7, 902),
  (118, .iload 7, 2, 120, 0, .null, 0),
  (120, .iload_n 2, 1, 121, 0, .null, 0),
  (121, .iastore, 1, 122, 0, .null, 0),
  (122, .aload_n 0, 1, 123, 0, .null, 0),
  (123, .getfield 118, 3, 126, 42, .ref 7, 903),
  (126, .iload 7, 2, 128, 0, .null, 0),
  (128, .lload 4, 2, 130, 0, .null, 0),
  (130, .lastore, 1, 131, 0, .null, 0),
  (131, .iload_n 3, 1, 132, 0, .null, 0),
  (132, .i2l, 1, 133, 0, .null, 0),
  (133, .lstore 8, 2, 135, 0, .null, 0),
  (135, .iload 6, 2, 137, 0, .null, 0),
  (137, .istore 10, 2, 139, 0, .null, 0),
  (139, .iload_n 2, 1, 140, 0, .null, 0),
  (140, .istore 11, 2, 142, 0, .null, 0),
  (142, .aload_n 0, 1, 143, 0, .null, 0),
  (143, .getfield 233, 3, 146, 28, .ref 7, 889),
  (146, .iconst 1, 1, 147, 0, .int 1, 0),
  (147, .isub, 1, 148, 0, .null, 0),
  (148, .istore 12, 2, 150, 0, .null, 0),
  (150, .iload 12, 2, 152, 0, .null, 0),
  (152, .ifCond .lt 123, 3, 155, 275, .null, 0),
  (155, .iconst 5, 1, 156, 0, .int 5, 0),
  (156, .iload 7, 2, 158, 0, .null, 0),
  (158, .imul, 1, 159, 0, .null, 0),
  (159, .iload 12, 2, 161, 0, .null, 0),
  (161, .iadd, 1, 162, 0, .null, 0),
  (162, .istore 13, 2, 164, 0, .null, 0),
  (164, .aload_n 0, 1, 165, 0, .null, 0),
  (165, .getfield 85, 3, 168, 29, .ref 7, 890),
  (168, .iload 12, 2, 170, 0, .null, 0),
  (170, .iaload, 1, 171, 0, .null, 0),
  (171, .istore 14, 2, 173, 0, .null, 0),
  (173, .aload_n 0, 1, 174, 0, .null, 0),
  (174, .iload 14, 2, 176, 0, .null, 0),
  (176, .iconst 1, 1, 177, 0, .int 1, 0),
  (177, .aload_n 0, 1, 178, 0, .null, 0),
  (178, .iload 14, 2, 180, 0, .null, 0),
  (180, .iload 11, 2, 182, 0, .null, 0),
  (182, .invokevirtual 199, 3, 185, 0, .null, 0),
  (185, .isub, 1, 186, 0, .null, 0),
  (186, .invokevirtual 192, 3, 189, 0, .null, 0),
  (189, .istore 11, 2, 191, 0, .null, 0),
  (191, .aload_n 0, 1, 192, 0, .null, 0),
  (192, .getfield 121, 3, 195, 43, .ref 7, 904),
  (195, .iload 13, 2, 197, 0, .null, 0),
  (197, .iload 14, 2, 199, 0, .null, 0),
  (199, .iastore, 1, 200, 0, .null, 0),
  (200, .aload_n 0, 1, 201, 0, .null, 0),
  (201, .getfield 124, 3, 204, 44, .ref 7, 905),
  (204, .iload 13, 2, 206, 0, .null, 0),
  (206, .lload 8, 2, 208, 0, .null, 0),
  (208, .l2i, 1, 209, 0, .null, 0),
  (209, .iastore, 1, 210, 0, .null, 0),
  (210, .aload_n 0, 1, 211, 0, .null, 0),
  (211, .getfield 127, 3, 214, 45, .ref 7, 906),
  (214, .iload 13, 2, 216, 0, .null, 0),
  (216, .iload 10, 2, 218, 0, .null, 0),
  (218, .iastore, 1, 219, 0, .null, 0),
  (219, .aload_n 0, 1, 220, 0, .null, 0),
  (220, .getfield 133, 3, 223, 47, .ref 7, 908),
  (223, .iload 13, 2, 225, 0, .null, 0),
  (225, .iload 11, 2, 227, 0, .null, 0),
  (227, .iastore, 1, 228, 0, .null, 0),
  (228, .lload 8, 2, 230, 0, .null, 0),
  (230, .aload_n 0, 1, 231, 0, .null, 0),
  (231, .getfield 14, 3, 234, 2, .ref 7, 863),
  (234, .iload 11, 2, 236, 0, .null, 0),
  (236, .iaload, 1, 237, 0, .null, 0),
  (237, .i2l, 1, 238, 0, .null, 0),
  (238, .ladd, 1, 239, 0, .null, 0),
  (239, .lload 8, 2, 241, 0, .null, 0),
  (241, .aload_n 0, 1, 242, 0, .null, 0),
  (242, .getfield 17, 3, 245, 3, .ref 7, 864),
  (245, .iload 11, 2, 247, 0, .null, 0),
  (247, .iaload, 1, 248, 0, .null, 0),
  (248, .i2l, 1, 249, 0, .null, 0),
  (249, .lmul, 1, 250, 0, .null, 0),
  (250, .ldc2_w 246, 3, 253, 0, .long 1000000, 1148),
  (253, .ldiv, 1, 254, 0, .null, 0),
  (254, .ladd, 1, 255, 0, .null, 0),
  (255, .lstore 8, 2, 257, 0, .null, 0),
  (257, .iload 10, 2, 259, 0, .null, 0),
  (259, .aload_n 0, 1, 260, 0, .null, 0),
  (260, .getfield 20, 3, 263, 4, .ref 7, 865),
  (263, .iload 11, 2, 265, 0, .null, 0),
  (265, .iaload, 1, 266, 0, .null, 0),
  (266, .iadd, 1, 267, 0, .null, 0),
  (267, .istore 10, 2, 269, 0, .null, 0),
  (269, .iinc 12 (-1), 3, 272, 0, .int (-1), 0),
  (272, .goto (-122), 3, 275, 150, .null, 0),
  (275, .iload 7, 2, 277, 0, .null, 0),
  (277, .ireturn, 1, 278, 0, .null, 0)])
set_option maxRecDepth 100000 in
theorem mM_pay_ok : xOK mM_pay = true := by decide +kernel
def mM_step : XM := (⟨"ChannelNetModel", "step", "(I)I"⟩, prog_8_method_43_code, 2, (Option.some FieldType.int), [], [
  (0, .aload_n 0, 1, 1, 0, .null, 0),
  (1, .iload_n 1, 1, 2, 0, .null, 0),
  (2, .iconst 0, 1, 3, 0, .int 0, 0),
  (3, .aload_n 0, 1, 4, 0, .null, 0),
  (4, .getfield 257, 3, 7, 34, .ref 7, 895),
  (7, .iconst 1, 1, 8, 0, .int 1, 0),
  (8, .isub, 1, 9, 0, .null, 0),
  (9, .invokestatic 140, 3, 12, 0, .null, 0),
  (12, .ifCond .ne 7, 3, 15, 19, .null, 0),
  (15, .iconst 1, 1, 16, 0, .int 1, 0),
  (16, .goto 18, 3, 19, 34, .null, 0),
  (19, .aload_n 0, 1, 20, 0, .null, 0),
  (20, .getfield 97, 3, 23, 35, .ref 7, 896),
  (23, .iload_n 1, 1, 24, 0, .null, 0),
  (24, .iaload, 1, 25, 0, .null, 0),
  (25, .iconst 3, 1, 26, 0, .int 3, 0),
  (26, .if_icmp .ne 7, 3, 29, 33, .null, 0),
  (29, .iconst 2, 1, 30, 0, .int 2, 0),
  (30, .goto 4, 3, 33, 34, .null, 0),
  (33, .iconst 0, 1, 34, 0, .int 0, 0),
  (34, .putfield 136, 3, 37, 0, .ref 7, 861),
  (37, .aload_n 0, 1, 38, 0, .null, 0),
  (38, .getfield 136, 3, 41, 0, .ref 7, 861),
  (41, .ifCond .le 7, 3, 44, 48, .null, 0),
  (44, .iconst 0, 1, 45, 0, .int 0, 0),
  (45, .goto 25, 3, 48, 70, .null, 0),
  (48, .aload_n 0, 1, 49, 0, .null, 0),
  (49, .getfield 97, 3, 52, 35, .ref 7, 896),
  (52, .iload_n 1, 1, 53, 0, .null, 0),
  (53, .iaload, 1, 54, 0, .null, 0),
  (54, .ifCond .ne 11, 3, 57, 65, .null, 0),
  (57, .aload_n 0, 1, 58, 0, .null, 0),
  (58, .iload_n 1, 1, 59, 0, .null, 0),
  (59, .invokevirtual 263, 3, 62, 0, .null, 0),
  (62, .goto 8, 3, 65, 70, .null, 0),
  (65, .aload_n 0, 1, 66, 0, .null, 0),
  (66, .iload_n 1, 1, 67, 0, .null, 0),
  (67, .invokevirtual 267, 3, 70, 0, .null, 0),
  (70, .ireturn, 1, 71, 0, .null, 0)])
set_option maxRecDepth 100000 in
theorem mM_step_ok : xOK mM_step = true := by decide +kernel
def mM_forward : XM := (⟨"ChannelNetModel", "forward", "(I)I"⟩, prog_8_method_41_code, 6, (Option.some FieldType.int), [], [
  (0, .aload_n 0, 1, 1, 0, .null, 0),
  (1, .getfield 103, 3, 4, 37, .ref 7, 898),
  (4, .iload_n 1, 1, 5, 0, .null, 0),
  (5, .iaload, 1, 6, 0, .null, 0),
  (6, .istore_n 2, 1, 7, 0, .null, 0),
  (7, .iload_n 2, 1, 8, 0, .null, 0),
  (8, .aload_n 0, 1, 9, 0, .null, 0),
  (9, .getfield 112, 3, 12, 40, .ref 7, 901),
  (12, .iload_n 1, 1, 13, 0, .null, 0),
  (13, .iaload, 1, 14, 0, .null, 0),
  (14, .if_icmp .ne 33, 3, 17, 47, .null, 0),
  (17, .aload_n 0, 1, 18, 0, .null, 0),
  (18, .iload_n 1, 1, 19, 0, .null, 0),
  (19, .aload_n 0, 1, 20, 0, .null, 0),
  (20, .aload_n 0, 1, 21, 0, .null, 0),
  (21, .getfield 115, 3, 24, 41, .ref 7, 902),
  (24, .iload_n 1, 1, 25, 0, .null, 0),
  (25, .iaload, 1, 26, 0, .null, 0),
  (26, .aload_n 0, 1, 27, 0, .null, 0),
  (27, .getfield 118, 3, 30, 42, .ref 7, 903),
  (30, .iload_n 1, 1, 31, 0, .null, 0),
  (31, .laload, 1, 32, 0, .null, 0),
  (32, .invokevirtual 174, 3, 35, 0, .null, 0),
  (35, .ifCond .eq 7, 3, 38, 42, .null, 0),
  (38, .iconst 1, 1, 39, 0, .int 1, 0),
  (39, .goto 4, 3, 42, 43, .null, 0),
  (42, .iconst 2, 1, 43, 0, .int 2, 0),
  (43, .invokevirtual 260, 3, 46, 0, .null, 0),
  (46, .ireturn, 1, 47, 0, .null, 0),
  (47, .iconst 5, 1, 48, 0, .int 5, 0),
  (48, .iload_n 1, 1, 49, 0, .null, 0),
  (49, .imul, 1, 50, 0, .null, 0),
  (50, .iload_n 2, 1, 51, 0, .null, 0),
  (51, .iadd, 1, 52, 0, .null, 0),
  (52, .istore_n 3, 1, 53, 0, .null, 0),
  (53, .aload_n 0, 1, 54, 0, .null, 0),
  (54, .getfield 121, 3, 57, 43, .ref 7, 904),
  (57, .iload_n 3, 1, 58, 0, .null, 0),
  (58, .iaload, 1, 59, 0, .null, 0),
  (59, .istore 4, 2, 61, 0, .null, 0),
  (61, .aload_n 0, 1, 62, 0, .null, 0),
  (62, .iload 4, 2, 64, 0, .null, 0),
  (64, .aload_n 0, 1, 65, 0, .null, 0),
  (65, .getfield 133, 3, 68, 47, .ref 7, 908),
  (68, .iload_n 3, 1, 69, 0, .null, 0),
  (69, .iaload, 1, 70, 0, .null, 0),
  (70, .invokevirtual 199, 3, 73, 0, .null, 0),
  (73, .istore 5, 2, 75, 0, .null, 0),
  (75, .aload_n 0, 1, 76, 0, .null, 0),
  (76, .iload 4, 2, 78, 0, .null, 0),
  (78, .iload 5, 2, 80, 0, .null, 0),
  (80, .aload_n 0, 1, 81, 0, .null, 0),
  (81, .getfield 124, 3, 84, 44, .ref 7, 905),
  (84, .iload_n 3, 1, 85, 0, .null, 0),
  (85, .iaload, 1, 86, 0, .null, 0),
  (86, .i2l, 1, 87, 0, .null, 0),
  (87, .invokevirtual 239, 3, 90, 0, .null, 0),
  (90, .ifCond .eq 16, 3, 93, 106, .null, 0),
  (93, .aload_n 0, 1, 94, 0, .null, 0),
  (94, .getfield 127, 3, 97, 45, .ref 7, 906),
  (97, .iload_n 3, 1, 98, 0, .null, 0),
  (98, .iaload, 1, 99, 0, .null, 0),
  (99, .aload_n 0, 1, 100, 0, .null, 0),
  (100, .getfield 211, 3, 103, 6, .ref 7, 867),
  (103, .if_icmp .gt 10, 3, 106, 113, .null, 0),
  (106, .aload_n 0, 1, 107, 0, .null, 0),
  (107, .iload_n 1, 1, 108, 0, .null, 0),
  (108, .iconst 2, 1, 109, 0, .int 2, 0),
  (109, .invokevirtual 260, 3, 112, 0, .null, 0),
  (112, .ireturn, 1, 113, 0, .null, 0),
  (113, .aload_n 0, 1, 114, 0, .null, 0),
  (114, .iload 4, 2, 116, 0, .null, 0),
  (116, .invokevirtual 205, 3, 119, 0, .null, 0),
  (119, .ifCond .ne 10, 3, 122, 129, .null, 0),
  (122, .aload_n 0, 1, 123, 0, .null, 0),
  (123, .iconst 2, 1, 124, 0, .int 2, 0),
  (124, .putfield 136, 3, 127, 0, .ref 7, 861),
  (127, .iconst 0, 1, 128, 0, .int 0, 0),
  (128, .ireturn, 1, 129, 0, .null, 0),
  (129, .aload_n 0, 1, 130, 0, .null, 0),
  (130, .getfield 130, 3, 133, 46, .ref 7, 907),
  (133, .iload_n 3, 1, 134, 0, .null, 0),
  (134, .aload_n 0, 1, 135, 0, .null, 0),
  (135, .iload 4, 2, 137, 0, .null, 0),
  (137, .iload 5, 2, 139, 0, .null, 0),
  (139, .aload_n 0, 1, 140, 0, .null, 0),
  (140, .getfield 124, 3, 143, 44, .ref 7, 905),
  (143, .iload_n 3, 1, 144, 0, .null, 0),
  (144, .iaload, 1, 145, 0, .null, 0),
  (145, .aload_n 0, 1, 146, 0, .null, 0),
  (146, .getfield 118, 3, 149, 42, .ref 7, 903),
  (149, .iload_n 1, 1, 150, 0, .null, 0),
  (150, .laload, 1, 151, 0, .null, 0),
  (151, .aload_n 0, 1, 152, 0, .null, 0),
  (152, .getfield 127, 3, 155, 45, .ref 7, 906),
  (155, .iload_n 3, 1, 156, 0, .null, 0),
  (156, .iaload, 1, 157, 0, .null, 0),
  (157, .invokevirtual 214, 3, 160, 0, .null, 0),
  (160, .iastore, 1, 161, 0, .null, 0),
  (161, .aload_n 0, 1, 162, 0, .null, 0),
  (162, .getfield 103, 3, 165, 37, .ref 7, 898),
  (165, .iload_n 1, 1, 166, 0, .null, 0),
  (166, .dup2, 1, 167, 0, .null, 0),
  (167, .iaload, 1, 168, 0, .null, 0),
  (168, .iconst 1, 1, 169, 0, .int 1, 0),
  (169, .iadd, 1, 170, 0, .null, 0),
  (170, .iastore, 1, 171, 0, .null, 0),
  (171, .iconst 0, 1, 172, 0, .int 0, 0),
  (172, .ireturn, 1, 173, 0, .null, 0)])
set_option maxRecDepth 100000 in
theorem mM_forward_ok : xOK mM_forward = true := by decide +kernel
def mM_turn : XM := (⟨"ChannelNetModel", "turn", "(II)I"⟩, prog_8_method_40_code, 3, (Option.some FieldType.int), [], [
  (0, .aload_n 0, 1, 1, 0, .null, 0),
  (1, .getfield 100, 3, 4, 36, .ref 7, 897),
  (4, .iload_n 1, 1, 5, 0, .null, 0),
  (5, .iload_n 2, 1, 6, 0, .null, 0),
  (6, .iastore, 1, 7, 0, .null, 0),
  (7, .aload_n 0, 1, 8, 0, .null, 0),
  (8, .getfield 106, 3, 11, 38, .ref 7, 899),
  (11, .iload_n 1, 1, 12, 0, .null, 0),
  (12, .aload_n 0, 1, 13, 0, .null, 0),
  (13, .getfield 103, 3, 16, 37, .ref 7, 898),
  (16, .iload_n 1, 1, 17, 0, .null, 0),
  (17, .iaload, 1, 18, 0, .null, 0),
  (18, .iastore, 1, 19, 0, .null, 0),
  (19, .aload_n 0, 1, 20, 0, .null, 0),
  (20, .getfield 97, 3, 23, 35, .ref 7, 896),
  (23, .iload_n 1, 1, 24, 0, .null, 0),
  (24, .aload_n 0, 1, 25, 0, .null, 0),
  (25, .getfield 103, 3, 28, 37, .ref 7, 898),
  (28, .iload_n 1, 1, 29, 0, .null, 0),
  (29, .iaload, 1, 30, 0, .null, 0),
  (30, .ifCond .ne 7, 3, 33, 37, .null, 0),
  (33, .iconst 3, 1, 34, 0, .int 3, 0),
  (34, .goto 4, 3, 37, 38, .null, 0),
  (37, .iload_n 2, 1, 38, 0, .null, 0),
  (38, .iastore, 1, 39, 0, .null, 0),
  (39, .aload_n 0, 1, 40, 0, .null, 0),
  (40, .getfield 97, 3, 43, 35, .ref 7, 896),
  (43, .iload_n 1, 1, 44, 0, .null, 0),
  (44, .iaload, 1, 45, 0, .null, 0),
  (45, .ireturn, 1, 46, 0, .null, 0)])
set_option maxRecDepth 100000 in
theorem mM_turn_ok : xOK mM_turn = true := by decide +kernel
def mM_backward : XM := (⟨"ChannelNetModel", "backward", "(I)I"⟩, prog_8_method_42_code, 6, (Option.some FieldType.int), [], [
  (0, .iconst 5, 1, 1, 0, .int 5, 0),
  (1, .iload_n 1, 1, 2, 0, .null, 0),
  (2, .imul, 1, 3, 0, .null, 0),
  (3, .aload_n 0, 1, 4, 0, .null, 0),
  (4, .getfield 106, 3, 7, 38, .ref 7, 899),
  (7, .iload_n 1, 1, 8, 0, .null, 0),
  (8, .iaload, 1, 9, 0, .null, 0),
  (9, .iadd, 1, 10, 0, .null, 0),
  (10, .iconst 1, 1, 11, 0, .int 1, 0),
  (11, .isub, 1, 12, 0, .null, 0),
  (12, .istore_n 2, 1, 13, 0, .null, 0),
  (13, .aload_n 0, 1, 14, 0, .null, 0),
  (14, .getfield 121, 3, 17, 43, .ref 7, 904),
  (17, .iload_n 2, 1, 18, 0, .null, 0),
  (18, .iaload, 1, 19, 0, .null, 0),
  (19, .istore_n 3, 1, 20, 0, .null, 0),
  (20, .aload_n 0, 1, 21, 0, .null, 0),
  (21, .getfield 130, 3, 24, 46, .ref 7, 907),
  (24, .iload_n 2, 1, 25, 0, .null, 0),
  (25, .iaload, 1, 26, 0, .null, 0),
  (26, .istore 4, 2, 28, 0, .null, 0),
  (28, .aload_n 0, 1, 29, 0, .null, 0),
  (29, .getfield 33, 3, 32, 10, .ref 7, 871),
  (32, .iload_n 3, 1, 33, 0, .null, 0),
  (33, .iaload, 1, 34, 0, .null, 0),
  (34, .ifCond .ne 43, 3, 37, 77, .null, 0),
  (37, .aload_n 0, 1, 38, 0, .null, 0),
  (38, .iload_n 3, 1, 39, 0, .null, 0),
  (39, .invokevirtual 182, 3, 42, 0, .null, 0),
  (42, .iload 4, 2, 44, 0, .null, 0),
  (44, .invokestatic 218, 3, 47, 0, .null, 0),
  (47, .ifCond .eq 30, 3, 50, 77, .null, 0),
  (50, .aload_n 0, 1, 51, 0, .null, 0),
  (51, .getfield 100, 3, 54, 36, .ref 7, 897),
  (54, .iload_n 1, 1, 55, 0, .null, 0),
  (55, .iaload, 1, 56, 0, .null, 0),
  (56, .iconst 2, 1, 57, 0, .int 2, 0),
  (57, .if_icmp .eq 16, 3, 60, 73, .null, 0),
  (60, .aload_n 0, 1, 61, 0, .null, 0),
  (61, .getfield 127, 3, 64, 45, .ref 7, 906),
  (64, .iload_n 2, 1, 65, 0, .null, 0),
  (65, .iaload, 1, 66, 0, .null, 0),
  (66, .aload_n 0, 1, 67, 0, .null, 0),
  (67, .getfield 211, 3, 70, 6, .ref 7, 867),
  (70, .if_icmp .le 7, 3, 73, 77, .null, 0),
  (73, .iconst 1, 1, 74, 0, .int 1, 0),
  (74, .goto 4, 3, 77, 78, .null, 0),
  (77, .iconst 0, 1, 78, 0, .int 0, 0),
  (78, .istore 5, 2, 80, 0, .null, 0),
  (80, .iload 5, 2, 82, 0, .null, 0),
  (82, .ifCond .eq 18, 3, 85, 100, .null, 0),
  (85, .aload_n 0, 1, 86, 0, .null, 0),
  (86, .iload_n 3, 1, 87, 0, .null, 0),
  (87, .invokevirtual 205, 3, 90, 0, .null, 0),
  (90, .ifCond .ne 10, 3, 93, 100, .null, 0),
  (93, .aload_n 0, 1, 94, 0, .null, 0),
  (94, .iconst 2, 1, 95, 0, .int 2, 0),
  (95, .putfield 136, 3, 98, 0, .ref 7, 861),
  (98, .iconst 0, 1, 99, 0, .int 0, 0),
  (99, .ireturn, 1, 100, 0, .null, 0),
  (100, .iload 5, 2, 102, 0, .null, 0),
  (102, .ifCond .eq 40, 3, 105, 142, .null, 0),
  (105, .aload_n 0, 1, 106, 0, .null, 0),
  (106, .getfield 109, 3, 109, 39, .ref 7, 900),
  (109, .iload_n 1, 1, 110, 0, .null, 0),
  (110, .dup2, 1, 111, 0, .null, 0),
  (111, .iaload, 1, 112, 0, .null, 0),
  (112, .iconst 1, 1, 113, 0, .int 1, 0),
  (113, .iadd, 1, 114, 0, .null, 0),
  (114, .iastore, 1, 115, 0, .null, 0),
  (115, .aload_n 0, 1, 116, 0, .null, 0),
  (116, .getfield 100, 3, 119, 36, .ref 7, 897),
  (119, .iload_n 1, 1, 120, 0, .null, 0),
  (120, .iaload, 1, 121, 0, .null, 0),
  (121, .iconst 1, 1, 122, 0, .int 1, 0),
  (122, .if_icmp .ne 13, 3, 125, 135, .null, 0),
  (125, .aload_n 0, 1, 126, 0, .null, 0),
  (126, .iload_n 3, 1, 127, 0, .null, 0),
  (127, .iload 4, 2, 129, 0, .null, 0),
  (129, .invokevirtual 222, 3, 132, 0, .null, 0),
  (132, .goto 10, 3, 135, 142, .null, 0),
  (135, .aload_n 0, 1, 136, 0, .null, 0),
  (136, .iload_n 3, 1, 137, 0, .null, 0),
  (137, .iload 4, 2, 139, 0, .null, 0),
  (139, .invokevirtual 226, 3, 142, 0, .null, 0),
  (142, .aload_n 0, 1, 143, 0, .null, 0),
  (143, .getfield 106, 3, 146, 38, .ref 7, 899),
  (146, .iload_n 1, 1, 147, 0, .null, 0),
  (147, .dup2, 1, 148, 0, .null, 0),
  (148, .iaload, 1, 149, 0, .null, 0),
  (149, .iconst 1, 1, 150, 0, .int 1, 0),
  (150, .isub, 1, 151, 0, .null, 0),
  (151, .iastore, 1, 152, 0, .null, 0),
  (152, .aload_n 0, 1, 153, 0, .null, 0),
  (153, .getfield 97, 3, 156, 35, .ref 7, 896),
  (156, .iload_n 1, 1, 157, 0, .null, 0),
  (157, .aload_n 0, 1, 158, 0, .null, 0),
  (158, .getfield 106, 3, 161, 38, .ref 7, 899),
  (161, .iload_n 1, 1, 162, 0, .null, 0),
  (162, .iaload, 1, 163, 0, .null, 0),
  (163, .ifCond .ne 7, 3, 166, 170, .null, 0),
  (166, .iconst 3, 1, 167, 0, .int 3, 0),
  (167, .goto 9, 3, 170, 176, .null, 0),
  (170, .aload_n 0, 1, 171, 0, .null, 0),
  (171, .getfield 97, 3, 174, 35, .ref 7, 896),
  (174, .iload_n 1, 1, 175, 0, .null, 0),
  (175, .iaload, 1, 176, 0, .null, 0),
  (176, .iastore, 1, 177, 0, .null, 0),
  (177, .aload_n 0, 1, 178, 0, .null, 0),
  (178, .getfield 97, 3, 181, 35, .ref 7, 896),
  (181, .iload_n 1, 1, 182, 0, .null, 0),
  (182, .iaload, 1, 183, 0, .null, 0),
  (183, .ireturn, 1, 184, 0, .null, 0)])
set_option maxRecDepth 100000 in
theorem mM_backward_ok : xOK mM_backward = true := by decide +kernel
def mM_payment : XM := (⟨"ChannelNetModel", "payment", "(II)I"⟩, prog_8_method_44_code, 3, (Option.some FieldType.int), [], [
  (0, .aload_n 0, 1, 1, 0, .null, 0),
  (1, .iload_n 1, 1, 2, 0, .null, 0),
  (2, .iconst 0, 1, 3, 0, .int 0, 0),
  (3, .aload_n 0, 1, 4, 0, .null, 0),
  (4, .getfield 257, 3, 7, 34, .ref 7, 895),
  (7, .iconst 1, 1, 8, 0, .int 1, 0),
  (8, .isub, 1, 9, 0, .null, 0),
  (9, .invokestatic 140, 3, 12, 0, .null, 0),
  (12, .ifCond .ne 7, 3, 15, 19, .null, 0),
  (15, .iconst 1, 1, 16, 0, .int 1, 0),
  (16, .goto 17, 3, 19, 33, .null, 0),
  (19, .iload_n 2, 1, 20, 0, .null, 0),
  (20, .iconst 0, 1, 21, 0, .int 0, 0),
  (21, .iconst 3, 1, 22, 0, .int 3, 0),
  (22, .invokestatic 140, 3, 25, 0, .null, 0),
  (25, .ifCond .ne 7, 3, 28, 32, .null, 0),
  (28, .iconst 2, 1, 29, 0, .int 2, 0),
  (29, .goto 4, 3, 32, 33, .null, 0),
  (32, .iconst 0, 1, 33, 0, .int 0, 0),
  (33, .putfield 136, 3, 36, 0, .ref 7, 861),
  (36, .aload_n 0, 1, 37, 0, .null, 0),
  (37, .getfield 136, 3, 40, 0, .ref 7, 861),
  (40, .ifCond .le 7, 3, 43, 47, .null, 0),
  (43, .iconst 0, 1, 44, 0, .int 0, 0),
  (44, .goto 50, 3, 47, 94, .null, 0),
  (47, .iload_n 2, 1, 48, 0, .null, 0),
  (48, .ifCond .ne 12, 3, 51, 60, .null, 0),
  (51, .aload_n 0, 1, 52, 0, .null, 0),
  (52, .getfield 97, 3, 55, 35, .ref 7, 896),
  (55, .iload_n 1, 1, 56, 0, .null, 0),
  (56, .iaload, 1, 57, 0, .null, 0),
  (57, .goto 37, 3, 60, 94, .null, 0),
  (60, .iload_n 2, 1, 61, 0, .null, 0),
  (61, .iconst 1, 1, 62, 0, .int 1, 0),
  (62, .if_icmp .ne 12, 3, 65, 74, .null, 0),
  (65, .aload_n 0, 1, 66, 0, .null, 0),
  (66, .getfield 100, 3, 69, 36, .ref 7, 897),
  (69, .iload_n 1, 1, 70, 0, .null, 0),
  (70, .iaload, 1, 71, 0, .null, 0),
  (71, .goto 23, 3, 74, 94, .null, 0),
  (74, .iload_n 2, 1, 75, 0, .null, 0),
  (75, .iconst 2, 1, 76, 0, .int 2, 0),
  (76, .if_icmp .ne 12, 3, 79, 88, .null, 0),
  (79, .aload_n 0, 1, 80, 0, .null, 0),
  (80, .getfield 103, 3, 83, 37, .ref 7, 898),
  (83, .iload_n 1, 1, 84, 0, .null, 0),
  (84, .iaload, 1, 85, 0, .null, 0),
  (85, .goto 9, 3, 88, 94, .null, 0),
  (88, .aload_n 0, 1, 89, 0, .null, 0),
  (89, .getfield 109, 3, 92, 39, .ref 7, 900),
  (92, .iload_n 1, 1, 93, 0, .null, 0),
  (93, .iaload, 1, 94, 0, .null, 0),
  (94, .ireturn, 1, 95, 0, .null, 0)])
set_option maxRecDepth 100000 in
theorem mM_payment_ok : xOK mM_payment = true := by decide +kernel
def mM_publish : XM := (⟨"ChannelNetModel", "publish", "(III)V"⟩, prog_8_method_45_code, 5, (Option.none : Option FieldType), [], [
  (0, .aload_n 0, 1, 1, 0, .null, 0),
  (1, .iload_n 1, 1, 2, 0, .null, 0),
  (2, .invokevirtual 196, 3, 5, 0, .null, 0),
  (5, .ifCond .eq 31, 3, 8, 36, .null, 0),
  (8, .aload_n 0, 1, 9, 0, .null, 0),
  (9, .iload_n 1, 1, 10, 0, .null, 0),
  (10, .iload_n 2, 1, 11, 0, .null, 0),
  (11, .invokevirtual 199, 3, 14, 0, .null, 0),
  (14, .iconst (-1), 1, 15, 0, .int (-1), 0),
  (15, .if_icmp .eq 21, 3, 18, 36, .null, 0),
  (18, .iload_n 3, 1, 19, 0, .null, 0),
  (19, .iconst 0, 1, 20, 0, .int 0, 0),
  (20, .aload_n 0, 1, 21, 0, .null, 0),
  (21, .getfield 36, 3, 24, 11, .ref 7, 872),
  (24, .iload_n 1, 1, 25, 0, .null, 0),
  (25, .iaload, 1, 26, 0, .null, 0),
  (26, .invokestatic 140, 3, 29, 0, .null, 0),
  (29, .ifCond .eq 7, 3, 32, 36, .null, 0),
  (32, .iconst 1, 1, 33, 0, .int 1, 0),
  (33, .goto 4, 3, 36, 37, .null, 0),
  (36, .iconst 0, 1, 37, 0, .int 0, 0),
  (37, .istore 4, 2, 39, 0, .null, 0),
  (39, .aload_n 0, 1, 40, 0, .null, 0),
  (40, .iload 4, 2, 42, 0, .null, 0),
  (42, .ifCond .ne 7, 3, 45, 49, .null, 0),
  (45, .iconst 1, 1, 46, 0, .int 1, 0),
  (46, .goto 17, 3, 49, 63, .null, 0),
  (49, .aload_n 0, 1, 50, 0, .null, 0),
  (50, .getfield 33, 3, 53, 10, .ref 7, 871),
  (53, .iload_n 1, 1, 54, 0, .null, 0),
  (54, .iaload, 1, 55, 0, .null, 0),
  (55, .ifCond .eq 7, 3, 58, 62, .null, 0),
  (58, .iconst 2, 1, 59, 0, .int 2, 0),
  (59, .goto 4, 3, 62, 63, .null, 0),
  (62, .iconst 0, 1, 63, 0, .int 0, 0),
  (63, .putfield 136, 3, 66, 0, .ref 7, 861),
  (66, .aload_n 0, 1, 67, 0, .null, 0),
  (67, .getfield 136, 3, 70, 0, .ref 7, 861),
  (70, .ifCond .ne 51, 3, 73, 121, .null, 0),
  (73, .aload_n 0, 1, 74, 0, .null, 0),
  (74, .getfield 33, 3, 77, 10, .ref 7, 871),
  (77, .iload_n 1, 1, 78, 0, .null, 0),
  (78, .iconst 1, 1, 79, 0, .int 1, 0),
  (79, .iastore, 1, 80, 0, .null, 0),
  (80, .aload_n 0, 1, 81, 0, .null, 0),
  (81, .getfield 64, 3, 84, 20, .ref 7, 881),
  (84, .iload_n 1, 1, 85, 0, .null, 0),
  (85, .iload_n 3, 1, 86, 0, .null, 0),
  (86, .iastore, 1, 87, 0, .null, 0),
  (87, .aload_n 0, 1, 88, 0, .null, 0),
  (88, .getfield 67, 3, 91, 21, .ref 7, 882),
  (91, .iload_n 1, 1, 92, 0, .null, 0),
  (92, .iload_n 2, 1, 93, 0, .null, 0),
  (93, .iastore, 1, 94, 0, .null, 0),
  (94, .aload_n 0, 1, 95, 0, .null, 0),
  (95, .getfield 70, 3, 98, 22, .ref 7, 883),
  (98, .iload_n 1, 1, 99, 0, .null, 0),
  (99, .aload_n 0, 1, 100, 0, .null, 0),
  (100, .getfield 211, 3, 103, 6, .ref 7, 867),
  (103, .iastore, 1, 104, 0, .null, 0),
  (104, .aload_n 0, 1, 105, 0, .null, 0),
  (105, .getfield 73, 3, 108, 23, .ref 7, 884),
  (108, .iload_n 1, 1, 109, 0, .null, 0),
  (109, .aload_n 0, 1, 110, 0, .null, 0),
  (110, .getfield 42, 3, 113, 13, .ref 7, 874),
  (113, .bipush 64, 2, 115, 0, .int 64, 0),
  (115, .iload_n 1, 1, 116, 0, .null, 0),
  (116, .imul, 1, 117, 0, .null, 0),
  (117, .iload_n 3, 1, 118, 0, .null, 0),
  (118, .iadd, 1, 119, 0, .null, 0),
  (119, .laload, 1, 120, 0, .null, 0),
  (120, .lastore, 1, 121, 0, .null, 0),
  (121, .return_, 1, 122, 0, .null, 0)])
set_option maxRecDepth 100000 in
theorem mM_publish_ok : xOK mM_publish = true := by decide +kernel
def mM_punish : XM := (⟨"ChannelNetModel", "punish", "(I)I"⟩, prog_8_method_49_code, 2, (Option.some FieldType.int), [], [
  (0, .aload_n 0, 1, 1, 0, .null, 0),
  (1, .aload_n 0, 1, 2, 0, .null, 0),
  (2, .iload_n 1, 1, 3, 0, .null, 0),
  (3, .invokevirtual 196, 3, 6, 0, .null, 0),
  (6, .ifCond .ne 7, 3, 9, 13, .null, 0),
  (9, .iconst 1, 1, 10, 0, .int 1, 0),
  (10, .goto 16, 3, 13, 26, .null, 0),
  (13, .aload_n 0, 1, 14, 0, .null, 0),
  (14, .iload_n 1, 1, 15, 0, .null, 0),
  (15, .invokevirtual 273, 3, 18, 0, .null, 0),
  (18, .ifCond .ne 7, 3, 21, 25, .null, 0),
  (21, .iconst 2, 1, 22, 0, .int 2, 0),
  (22, .goto 4, 3, 25, 26, .null, 0),
  (25, .iconst 0, 1, 26, 0, .int 0, 0),
  (26, .putfield 136, 3, 29, 0, .ref 7, 861),
  (29, .aload_n 0, 1, 30, 0, .null, 0),
  (30, .getfield 136, 3, 33, 0, .ref 7, 861),
  (33, .ifCond .le 5, 3, 36, 38, .null, 0),
  (36, .iconst 0, 1, 37, 0, .int 0, 0),
  (37, .ireturn, 1, 38, 0, .null, 0),
  (38, .aload_n 0, 1, 39, 0, .null, 0),
  (39, .iload_n 1, 1, 40, 0, .null, 0),
  (40, .invokevirtual 276, 3, 43, 0, .null, 0),
  (43, .aload_n 0, 1, 44, 0, .null, 0),
  (44, .getfield 8, 3, 47, 1, .ref 7, 862),
  (47, .aload_n 0, 1, 48, 0, .null, 0),
  (48, .iload_n 1, 1, 49, 0, .null, 0),
  (49, .invokevirtual 270, 3, 52, 0, .null, 0),
  (52, .iaload, 1, 53, 0, .null, 0),
  (53, .ireturn, 1, 54, 0, .null, 0)])
set_option maxRecDepth 100000 in
theorem mM_punish_ok : xOK mM_punish = true := by decide +kernel
def mM_mayPunish : XM := (⟨"ChannelNetModel", "mayPunish", "(I)Z"⟩, prog_8_method_46_code, 2, (Option.some FieldType.boolean), [], [
  (0, .aload_n 0, 1, 1, 0, .null, 0),
  (1, .getfield 33, 3, 4, 10, .ref 7, 871),
  (4, .iload_n 1, 1, 5, 0, .null, 0),
  (5, .iaload, 1, 6, 0, .null, 0),
  (6, .iconst 1, 1, 7, 0, .int 1, 0),
  (7, .if_icmp .ne 38, 3, 10, 45, .null, 0),
  (10, .aload_n 0, 1, 11, 0, .null, 0),
  (11, .getfield 64, 3, 14, 20, .ref 7, 881),
  (14, .iload_n 1, 1, 15, 0, .null, 0),
  (15, .iaload, 1, 16, 0, .null, 0),
  (16, .aload_n 0, 1, 17, 0, .null, 0),
  (17, .getfield 36, 3, 20, 11, .ref 7, 872),
  (20, .iload_n 1, 1, 21, 0, .null, 0),
  (21, .iaload, 1, 22, 0, .null, 0),
  (22, .if_icmp .ge 23, 3, 25, 45, .null, 0),
  (25, .aload_n 0, 1, 26, 0, .null, 0),
  (26, .getfield 211, 3, 29, 6, .ref 7, 867),
  (29, .aload_n 0, 1, 30, 0, .null, 0),
  (30, .getfield 70, 3, 33, 22, .ref 7, 883),
  (33, .iload_n 1, 1, 34, 0, .null, 0),
  (34, .iaload, 1, 35, 0, .null, 0),
  (35, .bipush 10, 2, 37, 0, .int 10, 0),
  (37, .iadd, 1, 38, 0, .null, 0),
  (38, .if_icmp .ge 7, 3, 41, 45, .null, 0),
  (41, .iconst 1, 1, 42, 0, .int 1, 0),
  (42, .goto 4, 3, 45, 46, .null, 0),
  (45, .iconst 0, 1, 46, 0, .int 0, 0),
  (46, .ireturn, 1, 47, 0, .null, 0)])
set_option maxRecDepth 100000 in
theorem mM_mayPunish_ok : xOK mM_mayPunish = true := by decide +kernel
def mM_punished : XM := (⟨"ChannelNetModel", "punished", "(I)V"⟩, prog_8_method_48_code, 2, (Option.none : Option FieldType), [], [
  (0, .aload_n 0, 1, 1, 0, .null, 0),
  (1, .getfield 8, 3, 4, 1, .ref 7, 862),
  (4, .aload_n 0, 1, 5, 0, .null, 0),
  (5, .iload_n 1, 1, 6, 0, .null, 0),
  (6, .invokevirtual 270, 3, 9, 0, .null, 0),
  (9, .dup2, 1, 10, 0, .null, 0),
  (10, .iaload, 1, 11, 0, .null, 0),
  (11, .aload_n 0, 1, 12, 0, .null, 0),
  (12, .getfield 46, 3, 15, 14, .ref 7, 875),
  (15, .iload_n 1, 1, 16, 0, .null, 0),
  (16, .iaload, 1, 17, 0, .null, 0),
  (17, .iadd, 1, 18, 0, .null, 0),
  (18, .iastore, 1, 19, 0, .null, 0),
  (19, .aload_n 0, 1, 20, 0, .null, 0),
  (20, .iload_n 1, 1, 21, 0, .null, 0),
  (21, .invokevirtual 229, 3, 24, 0, .null, 0),
  (24, .return_, 1, 25, 0, .null, 0)])
set_option maxRecDepth 100000 in
theorem mM_punished_ok : xOK mM_punished = true := by decide +kernel
def mM_other : XM := (⟨"ChannelNetModel", "other", "(I)I"⟩, prog_8_method_47_code, 2, (Option.some FieldType.int), [], [
  (0, .aload_n 0, 1, 1, 0, .null, 0),
  (1, .iload_n 1, 1, 2, 0, .null, 0),
  (2, .iconst 1, 1, 3, 0, .int 1, 0),
  (3, .aload_n 0, 1, 4, 0, .null, 0),
  (4, .iload_n 1, 1, 5, 0, .null, 0),
  (5, .aload_n 0, 1, 6, 0, .null, 0),
  (6, .getfield 67, 3, 9, 21, .ref 7, 882),
  (9, .iload_n 1, 1, 10, 0, .null, 0),
  (10, .iaload, 1, 11, 0, .null, 0),
  (11, .invokevirtual 199, 3, 14, 0, .null, 0),
  (14, .isub, 1, 15, 0, .null, 0),
  (15, .invokevirtual 192, 3, 18, 0, .null, 0),
  (18, .ireturn, 1, 19, 0, .null, 0)])
set_option maxRecDepth 100000 in
theorem mM_other_ok : xOK mM_other = true := by decide +kernel
def mM_claim : XM := (⟨"ChannelNetModel", "claim", "(IIJ)I"⟩, prog_8_method_52_code, 9, (Option.some FieldType.int), [], [
  (0, .lload_n 3, 1, 1, 0, .null, 0),
  (1, .invokestatic 158, 3, 4, 0, .null, 0),
  (4, .lstore 5, 2, 6, 0, .null, 0),
  (6, .aload_n 0, 1, 7, 0, .null, 0),
  (7, .iload_n 1, 1, 8, 0, .null, 0),
  (8, .iload_n 2, 1, 9, 0, .null, 0),
  (9, .invokevirtual 279, 3, 12, 0, .null, 0),
  (12, .istore 7, 2, 14, 0, .null, 0),
  (14, .iload 7, 2, 16, 0, .null, 0),
  (16, .ifCond .eq 12, 3, 19, 28, .null, 0),
  (19, .bipush 64, 2, 21, 0, .int 64, 0),
  (21, .iload_n 1, 1, 22, 0, .null, 0),
  (22, .imul, 1, 23, 0, .null, 0),
  (23, .iload_n 2, 1, 24, 0, .null, 0),
  (24, .iadd, 1, 25, 0, .null, 0),
  (25, .goto 4, 3, 28, 29, .null, 0),
  (28, .iconst 0, 1, 29, 0, .int 0, 0),
  (29, .istore 8, 2, 31, 0, .null, 0),
  (31, .aload_n 0, 1, 32, 0, .null, 0),
  (32, .iload 7, 2, 34, 0, .null, 0),
  (34, .ifCond .ne 7, 3, 37, 41, .null, 0),
  (37, .iconst 1, 1, 38, 0, .int 1, 0),
  (38, .goto 66, 3, 41, 104, .null, 0),
  (41, .aload_n 0, 1, 42, 0, .null, 0),
  (42, .getfield 58, 3, 45, 18, .ref 7, 879),
  (45, .iload 8, 2, 47, 0, .null, 0),
  (47, .laload, 1, 48, 0, .null, 0),
  (48, .lload 5, 2, 50, 0, .null, 0),
  (50, .lcmp, 1, 51, 0, .null, 0),
  (51, .ifCond .eq 7, 3, 54, 58, .null, 0),
  (54, .iconst 2, 1, 55, 0, .int 2, 0),
  (55, .goto 49, 3, 58, 104, .null, 0),
  (58, .aload_n 0, 1, 59, 0, .null, 0),
  (59, .getfield 33, 3, 62, 10, .ref 7, 871),
  (62, .iload_n 1, 1, 63, 0, .null, 0),
  (63, .iaload, 1, 64, 0, .null, 0),
  (64, .iconst 1, 1, 65, 0, .int 1, 0),
  (65, .if_icmp .ne 34, 3, 68, 99, .null, 0),
  (68, .aload_n 0, 1, 69, 0, .null, 0),
  (69, .iload_n 1, 1, 70, 0, .null, 0),
  (70, .invokevirtual 273, 3, 73, 0, .null, 0),
  (73, .ifCond .ne 26, 3, 76, 99, .null, 0),
  (76, .aload_n 0, 1, 77, 0, .null, 0),
  (77, .getfield 61, 3, 80, 19, .ref 7, 880),
  (80, .iload 8, 2, 82, 0, .null, 0),
  (82, .iaload, 1, 83, 0, .null, 0),
  (83, .aload_n 0, 1, 84, 0, .null, 0),
  (84, .getfield 211, 3, 87, 6, .ref 7, 867),
  (87, .if_icmp .le 12, 3, 90, 99, .null, 0),
  (90, .aload_n 0, 1, 91, 0, .null, 0),
  (91, .lload 5, 2, 93, 0, .null, 0),
  (93, .invokevirtual 166, 3, 96, 0, .null, 0),
  (96, .ifCond .ne 7, 3, 99, 103, .null, 0),
  (99, .iconst 3, 1, 100, 0, .int 3, 0),
  (100, .goto 4, 3, 103, 104, .null, 0),
  (103, .iconst 0, 1, 104, 0, .int 0, 0),
  (104, .putfield 136, 3, 107, 0, .ref 7, 861),
  (107, .aload_n 0, 1, 108, 0, .null, 0),
  (108, .getfield 136, 3, 111, 0, .ref 7, 861),
  (111, .ifCond .le 5, 3, 114, 116, .null, 0),
  (114, .iconst 0, 1, 115, 0, .int 0, 0),
  (115, .ireturn, 1, 116, 0, .null, 0),
  (116, .aload_n 0, 1, 117, 0, .null, 0),
  (117, .lload 5, 2, 119, 0, .null, 0),
  (119, .bipush 63, 2, 121, 0, .int 63, 0),
  (121, .invokevirtual 170, 3, 124, 0, .null, 0),
  (124, .aload_n 0, 1, 125, 0, .null, 0),
  (125, .iload_n 1, 1, 126, 0, .null, 0),
  (126, .iload_n 2, 1, 127, 0, .null, 0),
  (127, .iconst 1, 1, 128, 0, .int 1, 0),
  (128, .aload_n 0, 1, 129, 0, .null, 0),
  (129, .getfield 52, 3, 132, 16, .ref 7, 877),
  (132, .iload 8, 2, 134, 0, .null, 0),
  (134, .iaload, 1, 135, 0, .null, 0),
  (135, .isub, 1, 136, 0, .null, 0),
  (136, .invokevirtual 283, 3, 139, 0, .null, 0),
  (139, .ireturn, 1, 140, 0, .null, 0)])
set_option maxRecDepth 100000 in
theorem mM_claim_ok : xOK mM_claim = true := by decide +kernel
def mM_isLeft : XM := (⟨"ChannelNetModel", "isLeft", "(II)Z"⟩, prog_8_method_50_code, 3, (Option.some FieldType.boolean), [], [
  (0, .aload_n 0, 1, 1, 0, .null, 0),
  (1, .iload_n 1, 1, 2, 0, .null, 0),
  (2, .invokevirtual 196, 3, 5, 0, .null, 0),
  (5, .ifCond .ne 5, 3, 8, 10, .null, 0),
  (8, .iconst 0, 1, 9, 0, .int 0, 0),
  (9, .ireturn, 1, 10, 0, .null, 0),
  (10, .aload_n 0, 1, 11, 0, .null, 0),
  (11, .getfield 64, 3, 14, 20, .ref 7, 881),
  (14, .iload_n 1, 1, 15, 0, .null, 0),
  (15, .iaload, 1, 16, 0, .null, 0),
  (16, .iconst (-1), 1, 17, 0, .int (-1), 0),
  (17, .if_icmp .ne 19, 3, 20, 36, .null, 0),
  (20, .iload_n 2, 1, 21, 0, .null, 0),
  (21, .iconst 0, 1, 22, 0, .int 0, 0),
  (22, .aload_n 0, 1, 23, 0, .null, 0),
  (23, .getfield 49, 3, 26, 15, .ref 7, 876),
  (26, .iload_n 1, 1, 27, 0, .null, 0),
  (27, .iaload, 1, 28, 0, .null, 0),
  (28, .iconst 1, 1, 29, 0, .int 1, 0),
  (29, .isub, 1, 30, 0, .null, 0),
  (30, .invokestatic 140, 3, 33, 0, .null, 0),
  (33, .goto 13, 3, 36, 46, .null, 0),
  (36, .aload_n 0, 1, 37, 0, .null, 0),
  (37, .getfield 73, 3, 40, 23, .ref 7, 884),
  (40, .iload_n 1, 1, 41, 0, .null, 0),
  (41, .laload, 1, 42, 0, .null, 0),
  (42, .iload_n 2, 1, 43, 0, .null, 0),
  (43, .invokestatic 218, 3, 46, 0, .null, 0),
  (46, .ireturn, 1, 47, 0, .null, 0)])
set_option maxRecDepth 100000 in
theorem mM_isLeft_ok : xOK mM_isLeft = true := by decide +kernel
def mM_goes : XM := (⟨"ChannelNetModel", "goes", "(III)I"⟩, prog_8_method_51_code, 6, (Option.some FieldType.int), [], [
  (0, .bipush 64, 2, 2, 0, .int 64, 0),
  (2, .iload_n 1, 1, 3, 0, .null, 0),
  (3, .imul, 1, 4, 0, .null, 0),
  (4, .iload_n 2, 1, 5, 0, .null, 0),
  (5, .iadd, 1, 6, 0, .null, 0),
  (6, .istore 4, 2, 8, 0, .null, 0),
  (8, .aload_n 0, 1, 9, 0, .null, 0),
  (9, .iload_n 1, 1, 10, 0, .null, 0),
  (10, .iload_n 3, 1, 11, 0, .null, 0),
  (11, .invokevirtual 192, 3, 14, 0, .null, 0),
  (14, .istore 5, 2, 16, 0, .null, 0),
  (16, .aload_n 0, 1, 17, 0, .null, 0),
  (17, .getfield 73, 3, 20, 23, .ref 7, 884),
  (20, .iload_n 1, 1, 21, 0, .null, 0),
  (21, .aload_n 0, 1, 22, 0, .null, 0),
  (22, .getfield 73, 3, 25, 23, .ref 7, 884),
  (25, .iload_n 1, 1, 26, 0, .null, 0),
  (26, .laload, 1, 27, 0, .null, 0),
  (27, .lconst 1, 1, 28, 0, .long 1, 0),
  (28, .iload_n 2, 1, 29, 0, .null, 0),
  (29, .lshl, 1, 30, 0, .null, 0),
  (30, .ldc2_w 190, 3, 33, 0, .long (-1), 1106),
  (33, .lxor, 1, 34, 0, .null, 0),
  (34, .land, 1, 35, 0, .null, 0),
  (35, .lastore, 1, 36, 0, .null, 0),
  (36, .aload_n 0, 1, 37, 0, .null, 0),
  (37, .getfield 8, 3, 40, 1, .ref 7, 862),
  (40, .iload 5, 2, 42, 0, .null, 0),
  (42, .dup2, 1, 43, 0, .null, 0),
  (43, .iaload, 1, 44, 0, .null, 0),
  (44, .aload_n 0, 1, 45, 0, .null, 0),
  (45, .getfield 55, 3, 48, 17, .ref 7, 878),
  (48, .iload 4, 2, 50, 0, .null, 0),
  (50, .iaload, 1, 51, 0, .null, 0),
  (51, .iadd, 1, 52, 0, .null, 0),
  (52, .iastore, 1, 53, 0, .null, 0),
  (53, .aload_n 0, 1, 54, 0, .null, 0),
  (54, .getfield 46, 3, 57, 14, .ref 7, 875),
  (57, .iload_n 1, 1, 58, 0, .null, 0),
  (58, .dup2, 1, 59, 0, .null, 0),
  (59, .iaload, 1, 60, 0, .null, 0),
  (60, .aload_n 0, 1, 61, 0, .null, 0),
  (61, .getfield 55, 3, 64, 17, .ref 7, 878),
  (64, .iload 4, 2, 66, 0, .null, 0),
  (66, .iaload, 1, 67, 0, .null, 0),
  (67, .isub, 1, 68, 0, .null, 0),
  (68, .iastore, 1, 69, 0, .null, 0),
  (69, .aload_n 0, 1, 70, 0, .null, 0),
  (70, .getfield 76, 3, 73, 24, .ref 7, 885),
  (73, .iload_n 1, 1, 74, 0, .null, 0),
  (74, .baload, 1, 75, 0, .null, 0),
  (75, .ifCond .eq 19, 3, 78, 94, .null, 0),
  (78, .aload_n 0, 1, 79, 0, .null, 0),
  (79, .getfield 73, 3, 82, 23, .ref 7, 884),
  (82, .iload_n 1, 1, 83, 0, .null, 0),
  (83, .laload, 1, 84, 0, .null, 0),
  (84, .lconst 0, 1, 85, 0, .long 0, 0),
  (85, .lcmp, 1, 86, 0, .null, 0),
  (86, .ifCond .ne 8, 3, 89, 94, .null, 0),
  (89, .aload_n 0, 1, 90, 0, .null, 0),
  (90, .iload_n 1, 1, 91, 0, .null, 0),
  (91, .invokevirtual 229, 3, 94, 0, .null, 0),
  (94, .aload_n 0, 1, 95, 0, .null, 0),
  (95, .getfield 8, 3, 98, 1, .ref 7, 862),
  (98, .iload 5, 2, 100, 0, .null, 0),
  (100, .iaload, 1, 101, 0, .null, 0),
  (101, .ireturn, 1, 102, 0, .null, 0)])
set_option maxRecDepth 100000 in
theorem mM_goes_ok : xOK mM_goes = true := by decide +kernel
def mM_takeBack : XM := (⟨"ChannelNetModel", "takeBack", "(II)I"⟩, prog_8_method_53_code, 5, (Option.some FieldType.int), [], [
  (0, .aload_n 0, 1, 1, 0, .null, 0),
  (1, .iload_n 1, 1, 2, 0, .null, 0),
  (2, .iload_n 2, 1, 3, 0, .null, 0),
  (3, .invokevirtual 279, 3, 6, 0, .null, 0),
  (6, .istore_n 3, 1, 7, 0, .null, 0),
  (7, .iload_n 3, 1, 8, 0, .null, 0),
  (8, .ifCond .eq 12, 3, 11, 20, .null, 0),
  (11, .bipush 64, 2, 13, 0, .int 64, 0),
  (13, .iload_n 1, 1, 14, 0, .null, 0),
  (14, .imul, 1, 15, 0, .null, 0),
  (15, .iload_n 2, 1, 16, 0, .null, 0),
  (16, .iadd, 1, 17, 0, .null, 0),
  (17, .goto 4, 3, 20, 21, .null, 0),
  (20, .iconst 0, 1, 21, 0, .int 0, 0),
  (21, .istore 4, 2, 23, 0, .null, 0),
  (23, .aload_n 0, 1, 24, 0, .null, 0),
  (24, .iload_n 3, 1, 25, 0, .null, 0),
  (25, .ifCond .ne 7, 3, 28, 32, .null, 0),
  (28, .iconst 1, 1, 29, 0, .int 1, 0),
  (29, .goto 40, 3, 32, 69, .null, 0),
  (32, .aload_n 0, 1, 33, 0, .null, 0),
  (33, .getfield 33, 3, 36, 10, .ref 7, 871),
  (36, .iload_n 1, 1, 37, 0, .null, 0),
  (37, .iaload, 1, 38, 0, .null, 0),
  (38, .iconst 1, 1, 39, 0, .int 1, 0),
  (39, .if_icmp .ne 25, 3, 42, 64, .null, 0),
  (42, .aload_n 0, 1, 43, 0, .null, 0),
  (43, .iload_n 1, 1, 44, 0, .null, 0),
  (44, .invokevirtual 273, 3, 47, 0, .null, 0),
  (47, .ifCond .ne 17, 3, 50, 64, .null, 0),
  (50, .aload_n 0, 1, 51, 0, .null, 0),
  (51, .getfield 61, 3, 54, 19, .ref 7, 880),
  (54, .iload 4, 2, 56, 0, .null, 0),
  (56, .iaload, 1, 57, 0, .null, 0),
  (57, .aload_n 0, 1, 58, 0, .null, 0),
  (58, .getfield 211, 3, 61, 6, .ref 7, 867),
  (61, .if_icmp .le 7, 3, 64, 68, .null, 0),
  (64, .iconst 2, 1, 65, 0, .int 2, 0),
  (65, .goto 4, 3, 68, 69, .null, 0),
  (68, .iconst 0, 1, 69, 0, .int 0, 0),
  (69, .putfield 136, 3, 72, 0, .ref 7, 861),
  (72, .aload_n 0, 1, 73, 0, .null, 0),
  (73, .getfield 136, 3, 76, 0, .ref 7, 861),
  (76, .ifCond .le 7, 3, 79, 83, .null, 0),
  (79, .iconst 0, 1, 80, 0, .int 0, 0),
  (80, .goto 16, 3, 83, 96, .null, 0),
  (83, .aload_n 0, 1, 84, 0, .null, 0),
  (84, .iload_n 1, 1, 85, 0, .null, 0),
  (85, .iload_n 2, 1, 86, 0, .null, 0),
  (86, .aload_n 0, 1, 87, 0, .null, 0),
  (87, .getfield 52, 3, 90, 16, .ref 7, 877),
  (90, .iload 4, 2, 92, 0, .null, 0),
  (92, .iaload, 1, 93, 0, .null, 0),
  (93, .invokevirtual 283, 3, 96, 0, .null, 0),
  (96, .ireturn, 1, 97, 0, .null, 0)])
set_option maxRecDepth 100000 in
theorem mM_takeBack_ok : xOK mM_takeBack = true := by decide +kernel
def mM_settle : XM := (⟨"ChannelNetModel", "settle", "(I)I"⟩, prog_8_method_54_code, 4, (Option.some FieldType.int), [], [
  (0, .aload_n 0, 1, 1, 0, .null, 0),
  (1, .aload_n 0, 1, 2, 0, .null, 0),
  (2, .iload_n 1, 1, 3, 0, .null, 0),
  (3, .invokevirtual 196, 3, 6, 0, .null, 0),
  (6, .ifCond .ne 7, 3, 9, 13, .null, 0),
  (9, .iconst 1, 1, 10, 0, .int 1, 0),
  (10, .goto 43, 3, 13, 53, .null, 0),
  (13, .aload_n 0, 1, 14, 0, .null, 0),
  (14, .getfield 33, 3, 17, 10, .ref 7, 871),
  (17, .iload_n 1, 1, 18, 0, .null, 0),
  (18, .iaload, 1, 19, 0, .null, 0),
  (19, .iconst 1, 1, 20, 0, .int 1, 0),
  (20, .if_icmp .ne 28, 3, 23, 48, .null, 0),
  (23, .aload_n 0, 1, 24, 0, .null, 0),
  (24, .getfield 76, 3, 27, 24, .ref 7, 885),
  (27, .iload_n 1, 1, 28, 0, .null, 0),
  (28, .baload, 1, 29, 0, .null, 0),
  (29, .ifCond .ne 19, 3, 32, 48, .null, 0),
  (32, .aload_n 0, 1, 33, 0, .null, 0),
  (33, .getfield 211, 3, 36, 6, .ref 7, 867),
  (36, .aload_n 0, 1, 37, 0, .null, 0),
  (37, .getfield 70, 3, 40, 22, .ref 7, 883),
  (40, .iload_n 1, 1, 41, 0, .null, 0),
  (41, .iaload, 1, 42, 0, .null, 0),
  (42, .bipush 10, 2, 44, 0, .int 10, 0),
  (44, .iadd, 1, 45, 0, .null, 0),
  (45, .if_icmp .ge 7, 3, 48, 52, .null, 0),
  (48, .iconst 2, 1, 49, 0, .int 2, 0),
  (49, .goto 4, 3, 52, 53, .null, 0),
  (52, .iconst 0, 1, 53, 0, .int 0, 0),
  (53, .putfield 136, 3, 56, 0, .ref 7, 861),
  (56, .aload_n 0, 1, 57, 0, .null, 0),
  (57, .getfield 136, 3, 60, 0, .ref 7, 861),
  (60, .ifCond .le 5, 3, 63, 65, .null, 0),
  (63, .iconst 0, 1, 64, 0, .int 0, 0),
  (64, .ireturn, 1, 65, 0, .null, 0),
  (65, .aload_n 0, 1, 66, 0, .null, 0),
  (66, .getfield 76, 3, 69, 24, .ref 7, 885),
  (69, .iload_n 1, 1, 70, 0, .null, 0),
  (70, .iconst 1, 1, 71, 0, .int 1, 0),
  (71, .bastore, 1, 72, 0, .null, 0),
  (72, .iconst 0, 1, 73, 0, .int 0, 0),
  (73, .istore_n 2, 1, 74, 0, .null, 0),
  (74, .iload_n 2, 1, 75, 0, .null, 0),
  (75, .iconst 2, 1, 76, 0, .int 2, 0),
  (76, .if_icmp .ge 51, 3, 79, 127, .null, 0),
  (79, .aload_n 0, 1, 80, 0, .null, 0),
  (80, .getfield 39, 3, 83, 12, .ref 7, 873),
  (83, .iload_n 1, 1, 84, 0, .null, 0),
  (84, .aload_n 0, 1, 85, 0, .null, 0),
  (85, .getfield 64, 3, 88, 20, .ref 7, 881),
  (88, .iload_n 1, 1, 89, 0, .null, 0),
  (89, .iaload, 1, 90, 0, .null, 0),
  (90, .iload_n 2, 1, 91, 0, .null, 0),
  (91, .invokestatic 178, 3, 94, 0, .null, 0),
  (94, .iaload, 1, 95, 0, .null, 0),
  (95, .istore_n 3, 1, 96, 0, .null, 0),
  (96, .aload_n 0, 1, 97, 0, .null, 0),
  (97, .getfield 8, 3, 100, 1, .ref 7, 862),
  (100, .aload_n 0, 1, 101, 0, .null, 0),
  (101, .iload_n 1, 1, 102, 0, .null, 0),
  (102, .iload_n 2, 1, 103, 0, .null, 0),
  (103, .invokevirtual 192, 3, 106, 0, .null, 0),
  (106, .dup2, 1, 107, 0, .null, 0),
  (107, .iaload, 1, 108, 0, .null, 0),
  (108, .iload_n 3, 1, 109, 0, .null, 0),
  (109, .iadd, 1, 110, 0, .null, 0),
  (110, .iastore, 1, 111, 0, .null, 0),
  (111, .aload_n 0, 1, 112, 0, .null, 0),
  (112, .getfield 46, 3, 115, 14, .ref 7, 875),
  (115, .iload_n 1, 1, 116, 0, .null, 0),
  (116, .dup2, 1, 117, 0, .null, 0),
  (117, .iaload, 1, 118, 0, .null, 0),
  (118, .iload_n 3, 1, 119, 0, .null, 0),
  (119, .isub, 1, 120, 0, .null, 0),
  (120, .iastore, 1, 121, 0, .null, 0),
  (121, .iinc 2 1, 3, 124, 0, .int 1, 0),
  (124, .goto (-50), 3, 127, 74, .null, 0),
  (127, .aload_n 0, 1, 128, 0, .null, 0),
  (128, .getfield 73, 3, 131, 23, .ref 7, 884),
  (131, .iload_n 1, 1, 132, 0, .null, 0),
  (132, .laload, 1, 133, 0, .null, 0),
  (133, .lconst 0, 1, 134, 0, .long 0, 0),
  (134, .lcmp, 1, 135, 0, .null, 0),
  (135, .ifCond .ne 8, 3, 138, 143, .null, 0),
  (138, .aload_n 0, 1, 139, 0, .null, 0),
  (139, .iload_n 1, 1, 140, 0, .null, 0),
  (140, .invokevirtual 229, 3, 143, 0, .null, 0),
  (143, .aload_n 0, 1, 144, 0, .null, 0),
  (144, .getfield 33, 3, 147, 10, .ref 7, 871),
  (147, .iload_n 1, 1, 148, 0, .null, 0),
  (148, .iaload, 1, 149, 0, .null, 0),
  (149, .ireturn, 1, 150, 0, .null, 0)])
set_option maxRecDepth 100000 in
theorem mM_settle_ok : xOK mM_settle = true := by decide +kernel
def mM_watch : XM := (⟨"ChannelNetModel", "watch", "(IZ)V"⟩, prog_8_method_55_code, 3, (Option.none : Option FieldType), [], [
  (0, .aload_n 0, 1, 1, 0, .null, 0),
  (1, .iload_n 1, 1, 2, 0, .null, 0),
  (2, .invokestatic 162, 3, 5, 0, .null, 0),
  (5, .ifCond .eq 7, 3, 8, 12, .null, 0),
  (8, .iconst 0, 1, 9, 0, .int 0, 0),
  (9, .goto 4, 3, 12, 13, .null, 0),
  (12, .iconst 1, 1, 13, 0, .int 1, 0),
  (13, .putfield 136, 3, 16, 0, .ref 7, 861),
  (16, .aload_n 0, 1, 17, 0, .null, 0),
  (17, .getfield 136, 3, 20, 0, .ref 7, 861),
  (20, .ifCond .ne 10, 3, 23, 30, .null, 0),
  (23, .aload_n 0, 1, 24, 0, .null, 0),
  (24, .getfield 23, 3, 27, 5, .ref 7, 866),
  (27, .iload_n 1, 1, 28, 0, .null, 0),
  (28, .iload_n 2, 1, 29, 0, .null, 0),
  (29, .bastore, 1, 30, 0, .null, 0),
  (30, .return_, 1, 31, 0, .null, 0)])
set_option maxRecDepth 100000 in
theorem mM_watch_ok : xOK mM_watch = true := by decide +kernel
def mM_grow : XM := (⟨"ChannelNetModel", "grow", "(I)I"⟩, prog_8_method_56_code, 5, (Option.some FieldType.int), [], [
  (0, .aload_n 0, 1, 1, 0, .null, 0),
  (1, .iload_n 1, 1, 2, 0, .null, 0),
  (2, .iconst 0, 1, 3, 0, .int 0, 0),
  (3, .sipush 1000, 3, 6, 0, .int 1000, 0),
  (6, .invokestatic 140, 3, 9, 0, .null, 0),
  (9, .ifCond .eq 7, 3, 12, 16, .null, 0),
  (12, .iconst 0, 1, 13, 0, .int 0, 0),
  (13, .goto 4, 3, 16, 17, .null, 0),
  (16, .iconst 1, 1, 17, 0, .int 1, 0),
  (17, .putfield 136, 3, 20, 0, .ref 7, 861),
  (20, .iconst 0, 1, 21, 0, .int 0, 0),
  (21, .istore_n 2, 1, 22, 0, .null, 0),
  (22, .iconst 0, 1, 23, 0, .int 0, 0),
  (23, .istore_n 3, 1, 24, 0, .null, 0),
  (24, .iload_n 3, 1, 25, 0, .null, 0),
  (25, .iload_n 1, 1, 26, 0, .null, 0),
  (26, .if_icmp .ge 76, 3, 29, 102, .null, 0),
  (29, .aload_n 0, 1, 30, 0, .null, 0),
  (30, .getfield 136, 3, 33, 0, .ref 7, 861),
  (33, .ifCond .ne 69, 3, 36, 102, .null, 0),
  (36, .aload_n 0, 1, 37, 0, .null, 0),
  (37, .dup, 1, 38, 0, .null, 0),
  (38, .getfield 211, 3, 41, 6, .ref 7, 867),
  (41, .iconst 1, 1, 42, 0, .int 1, 0),
  (42, .iadd, 1, 43, 0, .null, 0),
  (43, .putfield 211, 3, 46, 6, .ref 7, 867),
  (46, .iconst 0, 1, 47, 0, .int 0, 0),
  (47, .istore 4, 2, 49, 0, .null, 0),
  (49, .iload 4, 2, 51, 0, .null, 0),
  (51, .aload_n 0, 1, 52, 0, .null, 0),
  (52, .getfield 144, 3, 55, 7, .ref 7, 868),
  (55, .if_icmp .ge 41, 3, 58, 96, .null, 0),
  (58, .aload_n 0, 1, 59, 0, .null, 0),
  (59, .iload 4, 2, 61, 0, .null, 0),
  (61, .invokevirtual 273, 3, 64, 0, .null, 0),
  (64, .ifCond .eq 26, 3, 67, 90, .null, 0),
  (67, .aload_n 0, 1, 68, 0, .null, 0),
  (68, .getfield 23, 3, 71, 5, .ref 7, 866),
  (71, .aload_n 0, 1, 72, 0, .null, 0),
  (72, .iload 4, 2, 74, 0, .null, 0),
  (74, .invokevirtual 270, 3, 77, 0, .null, 0),
  (77, .baload, 1, 78, 0, .null, 0),
  (78, .ifCond .eq 12, 3, 81, 90, .null, 0),
  (81, .aload_n 0, 1, 82, 0, .null, 0),
  (82, .iload 4, 2, 84, 0, .null, 0),
  (84, .invokevirtual 276, 3, 87, 0, .null, 0),
  (87, .iinc 2 1, 3, 90, 0, .int 1, 0),
  (90, .iinc 4 1, 3, 93, 0, .int 1, 0),
  (93, .goto (-44), 3, 96, 49, .null, 0),
  (96, .iinc 3 1, 3, 99, 0, .int 1, 0),
  (99, .goto (-75), 3, 102, 24, .null, 0),
  (102, .iload_n 2, 1, 103, 0, .null, 0),
  (103, .ireturn, 1, 104, 0, .null, 0)])
set_option maxRecDepth 100000 in
theorem mM_grow_ok : xOK mM_grow = true := by decide +kernel
def mM_height : XM := (⟨"ChannelNetModel", "height", "()I"⟩, prog_8_method_57_code, 1, (Option.some FieldType.int), [], [
  (0, .aload_n 0, 1, 1, 0, .null, 0),
  (1, .iconst 0, 1, 2, 0, .int 0, 0),
  (2, .putfield 136, 3, 5, 0, .ref 7, 861),
  (5, .aload_n 0, 1, 6, 0, .null, 0),
  (6, .getfield 211, 3, 9, 6, .ref 7, 867),
  (9, .ireturn, 1, 10, 0, .null, 0)])
set_option maxRecDepth 100000 in
theorem mM_height_ok : xOK mM_height = true := by decide +kernel
def mM_coins : XM := (⟨"ChannelNetModel", "coins", "(I)I"⟩, prog_8_method_58_code, 2, (Option.some FieldType.int), [], [
  (0, .aload_n 0, 1, 1, 0, .null, 0),
  (1, .iload_n 1, 1, 2, 0, .null, 0),
  (2, .invokestatic 162, 3, 5, 0, .null, 0),
  (5, .ifCond .eq 7, 3, 8, 12, .null, 0),
  (8, .iconst 0, 1, 9, 0, .int 0, 0),
  (9, .goto 4, 3, 12, 13, .null, 0),
  (12, .iconst 1, 1, 13, 0, .int 1, 0),
  (13, .putfield 136, 3, 16, 0, .ref 7, 861),
  (16, .aload_n 0, 1, 17, 0, .null, 0),
  (17, .getfield 136, 3, 20, 0, .ref 7, 861),
  (20, .ifCond .le 7, 3, 23, 27, .null, 0),
  (23, .iconst 0, 1, 24, 0, .int 0, 0),
  (24, .goto 9, 3, 27, 33, .null, 0),
  (27, .aload_n 0, 1, 28, 0, .null, 0),
  (28, .getfield 8, 3, 31, 1, .ref 7, 862),
  (31, .iload_n 1, 1, 32, 0, .null, 0),
  (32, .iaload, 1, 33, 0, .null, 0),
  (33, .ireturn, 1, 34, 0, .null, 0)])
set_option maxRecDepth 100000 in
theorem mM_coins_ok : xOK mM_coins = true := by decide +kernel
def mM_channels : XM := (⟨"ChannelNetModel", "channels", "()I"⟩, prog_8_method_59_code, 1, (Option.some FieldType.int), [], [
  (0, .aload_n 0, 1, 1, 0, .null, 0),
  (1, .iconst 0, 1, 2, 0, .int 0, 0),
  (2, .putfield 136, 3, 5, 0, .ref 7, 861),
  (5, .aload_n 0, 1, 6, 0, .null, 0),
  (6, .getfield 144, 3, 9, 7, .ref 7, 868),
  (9, .ireturn, 1, 10, 0, .null, 0)])
set_option maxRecDepth 100000 in
theorem mM_channels_ok : xOK mM_channels = true := by decide +kernel
def mM_channel : XM := (⟨"ChannelNetModel", "channel", "(II)I"⟩, prog_8_method_60_code, 3, (Option.some FieldType.int), [], [
  (0, .aload_n 0, 1, 1, 0, .null, 0),
  (1, .aload_n 0, 1, 2, 0, .null, 0),
  (2, .iload_n 1, 1, 3, 0, .null, 0),
  (3, .invokevirtual 196, 3, 6, 0, .null, 0),
  (6, .ifCond .ne 7, 3, 9, 13, .null, 0),
  (9, .iconst 1, 1, 10, 0, .int 1, 0),
  (10, .goto 17, 3, 13, 27, .null, 0),
  (13, .iload_n 2, 1, 14, 0, .null, 0),
  (14, .iconst 0, 1, 15, 0, .int 0, 0),
  (15, .iconst 5, 1, 16, 0, .int 5, 0),
  (16, .invokestatic 140, 3, 19, 0, .null, 0),
  (19, .ifCond .ne 7, 3, 22, 26, .null, 0),
  (22, .iconst 2, 1, 23, 0, .int 2, 0),
  (23, .goto 4, 3, 26, 27, .null, 0),
  (26, .iconst 0, 1, 27, 0, .int 0, 0),
  (27, .putfield 136, 3, 30, 0, .ref 7, 861),
  (30, .aload_n 0, 1, 31, 0, .null, 0),
  (31, .getfield 136, 3, 34, 0, .ref 7, 861),
  (34, .ifCond .le 5, 3, 37, 39, .null, 0),
  (37, .iconst 0, 1, 38, 0, .int 0, 0),
  (38, .ireturn, 1, 39, 0, .null, 0),
  (39, .iload_n 2, 1, 40, 0, .null, 0),
  (40, .ifCond .ne 12, 3, 43, 52, .null, 0),
  (43, .aload_n 0, 1, 44, 0, .null, 0),
  (44, .getfield 33, 3, 47, 10, .ref 7, 871),
  (47, .iload_n 1, 1, 48, 0, .null, 0),
  (48, .iaload, 1, 49, 0, .null, 0),
  (49, .goto 65, 3, 52, 114, .null, 0),
  (52, .iload_n 2, 1, 53, 0, .null, 0),
  (53, .iconst 1, 1, 54, 0, .int 1, 0),
  (54, .if_icmp .ne 12, 3, 57, 66, .null, 0),
  (57, .aload_n 0, 1, 58, 0, .null, 0),
  (58, .getfield 36, 3, 61, 11, .ref 7, 872),
  (61, .iload_n 1, 1, 62, 0, .null, 0),
  (62, .iaload, 1, 63, 0, .null, 0),
  (63, .goto 51, 3, 66, 114, .null, 0),
  (66, .iload_n 2, 1, 67, 0, .null, 0),
  (67, .iconst 2, 1, 68, 0, .int 2, 0),
  (68, .if_icmp .ne 12, 3, 71, 80, .null, 0),
  (71, .aload_n 0, 1, 72, 0, .null, 0),
  (72, .getfield 64, 3, 75, 20, .ref 7, 881),
  (75, .iload_n 1, 1, 76, 0, .null, 0),
  (76, .iaload, 1, 77, 0, .null, 0),
  (77, .goto 37, 3, 80, 114, .null, 0),
  (80, .iload_n 2, 1, 81, 0, .null, 0),
  (81, .iconst 3, 1, 82, 0, .int 3, 0),
  (82, .if_icmp .ne 12, 3, 85, 94, .null, 0),
  (85, .aload_n 0, 1, 86, 0, .null, 0),
  (86, .getfield 70, 3, 89, 22, .ref 7, 883),
  (89, .iload_n 1, 1, 90, 0, .null, 0),
  (90, .iaload, 1, 91, 0, .null, 0),
  (91, .goto 23, 3, 94, 114, .null, 0),
  (94, .iload_n 2, 1, 95, 0, .null, 0),
  (95, .iconst 4, 1, 96, 0, .int 4, 0),
  (96, .if_icmp .ne 12, 3, 99, 108, .null, 0),
  (99, .aload_n 0, 1, 100, 0, .null, 0),
  (100, .getfield 46, 3, 103, 14, .ref 7, 875),
  (103, .iload_n 1, 1, 104, 0, .null, 0),
  (104, .iaload, 1, 105, 0, .null, 0),
  (105, .goto 9, 3, 108, 114, .null, 0),
  (108, .aload_n 0, 1, 109, 0, .null, 0),
  (109, .getfield 49, 3, 112, 15, .ref 7, 876),
  (112, .iload_n 1, 1, 113, 0, .null, 0),
  (113, .iaload, 1, 114, 0, .null, 0),
  (114, .ireturn, 1, 115, 0, .null, 0)])
set_option maxRecDepth 100000 in
theorem mM_channel_ok : xOK mM_channel = true := by decide +kernel
def mM_state : XM := (⟨"ChannelNetModel", "state", "(III)I"⟩, prog_8_method_61_code, 8, (Option.some FieldType.int), [], [
  (0, .aload_n 0, 1, 1, 0, .null, 0),
  (1, .aload_n 0, 1, 2, 0, .null, 0),
  (2, .iload_n 1, 1, 3, 0, .null, 0),
  (3, .invokevirtual 196, 3, 6, 0, .null, 0),
  (6, .ifCond .eq 17, 3, 9, 23, .null, 0),
  (9, .iload_n 2, 1, 10, 0, .null, 0),
  (10, .iconst 0, 1, 11, 0, .int 0, 0),
  (11, .aload_n 0, 1, 12, 0, .null, 0),
  (12, .getfield 36, 3, 15, 11, .ref 7, 872),
  (15, .iload_n 1, 1, 16, 0, .null, 0),
  (16, .iaload, 1, 17, 0, .null, 0),
  (17, .invokestatic 140, 3, 20, 0, .null, 0),
  (20, .ifCond .ne 7, 3, 23, 27, .null, 0),
  (23, .iconst 1, 1, 24, 0, .int 1, 0),
  (24, .goto 17, 3, 27, 41, .null, 0),
  (27, .iload_n 3, 1, 28, 0, .null, 0),
  (28, .iconst 0, 1, 29, 0, .int 0, 0),
  (29, .iconst 3, 1, 30, 0, .int 3, 0),
  (30, .invokestatic 140, 3, 33, 0, .null, 0),
  (33, .ifCond .ne 7, 3, 36, 40, .null, 0),
  (36, .iconst 2, 1, 37, 0, .int 2, 0),
  (37, .goto 4, 3, 40, 41, .null, 0),
  (40, .iconst 0, 1, 41, 0, .int 0, 0),
  (41, .putfield 136, 3, 44, 0, .ref 7, 861),
  (44, .aload_n 0, 1, 45, 0, .null, 0),
  (45, .getfield 136, 3, 48, 0, .ref 7, 861),
  (48, .ifCond .le 5, 3, 51, 53, .null, 0),
  (51, .iconst 0, 1, 52, 0, .int 0, 0),
  (52, .ireturn, 1, 53, 0, .null, 0),
  (53, .iload_n 3, 1, 54, 0, .null, 0),
  (54, .iconst 2, 1, 55, 0, .int 2, 0),
  (55, .if_icmp .ge 15, 3, 58, 70, .null, 0),
  (58, .aload_n 0, 1, 59, 0, .null, 0),
  (59, .getfield 39, 3, 62, 12, .ref 7, 873),
  (62, .iload_n 1, 1, 63, 0, .null, 0),
  (63, .iload_n 2, 1, 64, 0, .null, 0),
  (64, .iload_n 3, 1, 65, 0, .null, 0),
  (65, .invokestatic 178, 3, 68, 0, .null, 0),
  (68, .iaload, 1, 69, 0, .null, 0),
  (69, .ireturn, 1, 70, 0, .null, 0),
  (70, .iconst 0, 1, 71, 0, .int 0, 0),
  (71, .istore 4, 2, 73, 0, .null, 0),
  (73, .iconst 0, 1, 74, 0, .int 0, 0),
  (74, .istore 5, 2, 76, 0, .null, 0),
  (76, .iconst 0, 1, 77, 0, .int 0, 0),
  (77, .istore 6, 2, 79, 0, .null, 0),
  (79, .iload 6, 2, 81, 0, .null, 0),
  (81, .aload_n 0, 1, 82, 0, .null, 0),
  (82, .getfield 49, 3, 85, 15, .ref 7, 876),
  (85, .iload_n 1, 1, 86, 0, .null, 0),
  (86, .iaload, 1, 87, 0, .null, 0),
  (87, .if_icmp .ge 70, 3, 90, 157, .null, 0),
  (90, .aload_n 0, 1, 91, 0, .null, 0),
  (91, .getfield 42, 3, 94, 13, .ref 7, 874),
  (94, .bipush 64, 2, 96, 0, .int 64, 0),
  (96, .iload_n 1, 1, 97, 0, .null, 0),
  (97, .imul, 1, 98, 0, .null, 0),
  (98, .iload_n 2, 1, 99, 0, .null, 0),
  (99, .iadd, 1, 100, 0, .null, 0),
  (100, .laload, 1, 101, 0, .null, 0),
  (101, .iload 6, 2, 103, 0, .null, 0),
  (103, .invokestatic 218, 3, 106, 0, .null, 0),
  (106, .istore 7, 2, 108, 0, .null, 0),
  (108, .iload 7, 2, 110, 0, .null, 0),
  (110, .ifCond .eq 10, 3, 113, 120, .null, 0),
  (113, .iload 4, 2, 115, 0, .null, 0),
  (115, .iconst 1, 1, 116, 0, .int 1, 0),
  (116, .iadd, 1, 117, 0, .null, 0),
  (117, .goto 5, 3, 120, 122, .null, 0),
  (120, .iload 4, 2, 122, 0, .null, 0),
  (122, .istore 4, 2, 124, 0, .null, 0),
  (124, .iload 7, 2, 126, 0, .null, 0),
  (126, .ifCond .eq 21, 3, 129, 147, .null, 0),
  (129, .iload 5, 2, 131, 0, .null, 0),
  (131, .aload_n 0, 1, 132, 0, .null, 0),
  (132, .getfield 55, 3, 135, 17, .ref 7, 878),
  (135, .bipush 64, 2, 137, 0, .int 64, 0),
  (137, .iload_n 1, 1, 138, 0, .null, 0),
  (138, .imul, 1, 139, 0, .null, 0),
  (139, .iload 6, 2, 141, 0, .null, 0),
  (141, .iadd, 1, 142, 0, .null, 0),
  (142, .iaload, 1, 143, 0, .null, 0),
  (143, .iadd, 1, 144, 0, .null, 0),
  (144, .goto 5, 3, 147, 149, .null, 0),
  (147, .iload 5, 2, 149, 0, .null, 0),
  (149, .istore 5, 2, 151, 0, .null, 0),
  (151, .iinc 6 1, 3, 154, 0, .int 1, 0),
  (154, .goto (-75), 3, 157, 79, .null, 0),
  (157, .iload_n 3, 1, 158, 0, .null, 0),
  (158, .iconst 2, 1, 159, 0, .int 2, 0),
  (159, .if_icmp .ne 8, 3, 162, 167, .null, 0),
  (162, .iload 4, 2, 164, 0, .null, 0),
  (164, .goto 5, 3, 167, 169, .null, 0),
  (167, .iload 5, 2, 169, 0, .null, 0),
  (169, .ireturn, 1, 170, 0, .null, 0)])
set_option maxRecDepth 100000 in
theorem mM_state_ok : xOK mM_state = true := by decide +kernel
def mM_made : XM := (⟨"ChannelNetModel", "made", "(III)I"⟩, prog_8_method_62_code, 5, (Option.some FieldType.int), [], [
  (0, .aload_n 0, 1, 1, 0, .null, 0),
  (1, .aload_n 0, 1, 2, 0, .null, 0),
  (2, .iload_n 1, 1, 3, 0, .null, 0),
  (3, .invokevirtual 196, 3, 6, 0, .null, 0),
  (6, .ifCond .eq 19, 3, 9, 25, .null, 0),
  (9, .iload_n 2, 1, 10, 0, .null, 0),
  (10, .iconst 0, 1, 11, 0, .int 0, 0),
  (11, .aload_n 0, 1, 12, 0, .null, 0),
  (12, .getfield 49, 3, 15, 15, .ref 7, 876),
  (15, .iload_n 1, 1, 16, 0, .null, 0),
  (16, .iaload, 1, 17, 0, .null, 0),
  (17, .iconst 1, 1, 18, 0, .int 1, 0),
  (18, .isub, 1, 19, 0, .null, 0),
  (19, .invokestatic 140, 3, 22, 0, .null, 0),
  (22, .ifCond .ne 7, 3, 25, 29, .null, 0),
  (25, .iconst 1, 1, 26, 0, .int 1, 0),
  (26, .goto 17, 3, 29, 43, .null, 0),
  (29, .iload_n 3, 1, 30, 0, .null, 0),
  (30, .iconst 0, 1, 31, 0, .int 0, 0),
  (31, .iconst 3, 1, 32, 0, .int 3, 0),
  (32, .invokestatic 140, 3, 35, 0, .null, 0),
  (35, .ifCond .ne 7, 3, 38, 42, .null, 0),
  (38, .iconst 2, 1, 39, 0, .int 2, 0),
  (39, .goto 4, 3, 42, 43, .null, 0),
  (42, .iconst 0, 1, 43, 0, .int 0, 0),
  (43, .putfield 136, 3, 46, 0, .ref 7, 861),
  (46, .aload_n 0, 1, 47, 0, .null, 0),
  (47, .getfield 136, 3, 50, 0, .ref 7, 861),
  (50, .ifCond .le 5, 3, 53, 55, .null, 0),
  (53, .iconst 0, 1, 54, 0, .int 0, 0),
  (54, .ireturn, 1, 55, 0, .null, 0),
  (55, .bipush 64, 2, 57, 0, .int 64, 0),
  (57, .iload_n 1, 1, 58, 0, .null, 0),
  (58, .imul, 1, 59, 0, .null, 0),
  (59, .iload_n 2, 1, 60, 0, .null, 0),
  (60, .iadd, 1, 61, 0, .null, 0),
  (61, .istore 4, 2, 63, 0, .null, 0),
  (63, .iload_n 3, 1, 64, 0, .null, 0),
  (64, .ifCond .ne 18, 3, 67, 82, .null, 0),
  (67, .aload_n 0, 1, 68, 0, .null, 0),
  (68, .iload_n 1, 1, 69, 0, .null, 0),
  (69, .aload_n 0, 1, 70, 0, .null, 0),
  (70, .getfield 52, 3, 73, 16, .ref 7, 877),
  (73, .iload 4, 2, 75, 0, .null, 0),
  (75, .iaload, 1, 76, 0, .null, 0),
  (76, .invokevirtual 192, 3, 79, 0, .null, 0),
  (79, .goto 50, 3, 82, 129, .null, 0),
  (82, .iload_n 3, 1, 83, 0, .null, 0),
  (83, .iconst 1, 1, 84, 0, .int 1, 0),
  (84, .if_icmp .ne 13, 3, 87, 97, .null, 0),
  (87, .aload_n 0, 1, 88, 0, .null, 0),
  (88, .getfield 55, 3, 91, 17, .ref 7, 878),
  (91, .iload 4, 2, 93, 0, .null, 0),
  (93, .iaload, 1, 94, 0, .null, 0),
  (94, .goto 35, 3, 97, 129, .null, 0),
  (97, .iload_n 3, 1, 98, 0, .null, 0),
  (98, .iconst 2, 1, 99, 0, .int 2, 0),
  (99, .if_icmp .ne 13, 3, 102, 112, .null, 0),
  (102, .aload_n 0, 1, 103, 0, .null, 0),
  (103, .getfield 61, 3, 106, 19, .ref 7, 880),
  (106, .iload 4, 2, 108, 0, .null, 0),
  (108, .iaload, 1, 109, 0, .null, 0),
  (109, .goto 20, 3, 112, 129, .null, 0),
  (112, .aload_n 0, 1, 113, 0, .null, 0),
  (113, .iload_n 1, 1, 114, 0, .null, 0),
  (114, .invokevirtual 182, 3, 117, 0, .null, 0),
  (117, .iload_n 2, 1, 118, 0, .null, 0),
  (118, .invokestatic 218, 3, 121, 0, .null, 0),
  (121, .ifCond .eq 7, 3, 124, 128, .null, 0),
  (124, .iconst 1, 1, 125, 0, .int 1, 0),
  (125, .goto 4, 3, 128, 129, .null, 0),
  (128, .iconst 0, 1, 129, 0, .int 0, 0),
  (129, .ireturn, 1, 130, 0, .null, 0)])
set_option maxRecDepth 100000 in
theorem mM_made_ok : xOK mM_made = true := by decide +kernel
end
section
/- Part 12n: method tables, printed by wip/whole/tools -/
def mN_init : XM := (⟨"ChannelNet", "<init>", "()V"⟩, prog_1_method_1_code, 2, (Option.none : Option FieldType), [], [
  (0, .aload_n 0, 1, 1, 0, .null, 0),
  (1, .invokespecial 3, 3, 4, 0, .null, 0),
  (4, .aload_n 0, 1, 5, 0, .null, 0),
  (5, .bipush 6, 2, 7, 0, .int 6, 0),
  (7, .newarray .int, 2, 9, 0, .null, 0),
  (9, .putfield 9, 3, 12, 0, .ref 0, 102),
  (12, .aload_n 0, 1, 13, 0, .null, 0),
  (13, .bipush 6, 2, 15, 0, .int 6, 0),
  (15, .newarray .int, 2, 17, 0, .null, 0),
  (17, .putfield 13, 3, 20, 1, .ref 0, 103),
  (20, .aload_n 0, 1, 21, 0, .null, 0),
  (21, .bipush 6, 2, 23, 0, .int 6, 0),
  (23, .newarray .int, 2, 25, 0, .null, 0),
  (25, .putfield 16, 3, 28, 2, .ref 0, 104),
  (28, .aload_n 0, 1, 29, 0, .null, 0),
  (29, .bipush 6, 2, 31, 0, .int 6, 0),
  (31, .newarray .int, 2, 33, 0, .null, 0),
  (33, .putfield 19, 3, 36, 3, .ref 0, 105),
  (36, .aload_n 0, 1, 37, 0, .null, 0),
  (37, .bipush 6, 2, 39, 0, .int 6, 0),
  (39, .newarray .boolean, 2, 41, 0, .null, 0),
  (41, .putfield 22, 3, 44, 4, .ref 0, 106),
  (44, .aload_n 0, 1, 45, 0, .null, 0),
  (45, .new 26, 3, 48, 0, .null, 0),
  (48, .dup, 1, 49, 0, .null, 0),
  (49, .invokespecial 28, 3, 52, 0, .null, 0),
  (52, .putfield 29, 3, 55, 5, .ref 0, 107),
  (55, .aload_n 0, 1, 56, 0, .null, 0),
  (56, .new 33, 3, 59, 0, .null, 0),
  (59, .dup, 1, 60, 0, .null, 0),
  (60, .invokespecial 35, 3, 63, 0, .null, 0),
  (63, .putfield 36, 3, 66, 6, .ref 0, 108),
  (66, .aload_n 0, 1, 67, 0, .null, 0),
  (67, .new 33, 3, 70, 0, .null, 0),
  (70, .dup, 1, 71, 0, .null, 0),
  (71, .invokespecial 35, 3, 74, 0, .null, 0),
  (74, .putfield 40, 3, 77, 7, .ref 0, 109),
  (77, .aload_n 0, 1, 78, 0, .null, 0),
  (78, .new 43, 3, 81, 0, .null, 0),
  (81, .dup, 1, 82, 0, .null, 0),
  (82, .invokespecial 45, 3, 85, 0, .null, 0),
  (85, .putfield 46, 3, 88, 8, .ref 0, 110),
  (88, .aload_n 0, 1, 89, 0, .null, 0),
  (89, .new 43, 3, 92, 0, .null, 0),
  (92, .dup, 1, 93, 0, .null, 0),
  (93, .invokespecial 45, 3, 96, 0, .null, 0),
  (96, .putfield 50, 3, 99, 9, .ref 0, 111),
  (99, .aload_n 0, 1, 100, 0, .null, 0),
  (100, .iconst 0, 1, 101, 0, .int 0, 0),
  (101, .putfield 53, 3, 104, 10, .ref 0, 112),
  (104, .iconst 0, 1, 105, 0, .int 0, 0),
  (105, .istore_n 1, 1, 106, 0, .null, 0),
  (106, .iload_n 1, 1, 107, 0, .null, 0),
  (107, .bipush 6, 2, 109, 0, .int 6, 0),
  (109, .if_icmp .ge 24, 3, 112, 133, .null, 0),
  (112, .aload_n 0, 1, 113, 0, .null, 0),
  (113, .getfield 9, 3, 116, 0, .ref 0, 102),
  (116, .iload_n 1, 1, 117, 0, .null, 0),
  (117, .ldc 57, 2, 119, 0, .int 1000000, 101),
  (119, .iastore, 1, 120, 0, .null, 0),
  (120, .aload_n 0, 1, 121, 0, .null, 0),
  (121, .getfield 19, 3, 124, 3, .ref 0, 105),
  (124, .iload_n 1, 1, 125, 0, .null, 0),
  (125, .iconst 1, 1, 126, 0, .int 1, 0),
  (126, .iastore, 1, 127, 0, .null, 0),
  (127, .iinc 1 1, 3, 130, 0, .int 1, 0),
  (130, .goto (-24), 3, 133, 106, .null, 0),
  (133, .return_, 1, 134, 0, .null, 0)])
set_option maxRecDepth 100000 in
theorem mN_init_ok : xOK mN_init = true := by decide +kernel
def mN_lock : XM := (⟨"ChannelNet", "lock", "(J)J"⟩, prog_1_method_4_code, 3, (Option.some FieldType.long), [], [
  (0, .lload_n 1, 1, 1, 0, .null, 0),
  (1, .invokestatic 66, 3, 4, 0, .null, 0),
  (4, .lreturn, 1, 5, 0, .null, 0)])
set_option maxRecDepth 100000 in
theorem mN_lock_ok : xOK mN_lock = true := by decide +kernel
def mN_lockOf : XM := (⟨"ChannelNet", "lockOf", "(J)J"⟩, prog_1_method_39_code, 4, (Option.some FieldType.long), [], [
  (0, .lload_n 0, 1, 1, 0, .null, 0),
  (1, .ldc2_w 305, 3, 4, 0, .long 7046029254386353131, 143),
  (4, .lmul, 1, 5, 0, .null, 0),
  (5, .lstore_n 2, 1, 6, 0, .null, 0),
  (6, .lload_n 2, 1, 7, 0, .null, 0),
  (7, .lload_n 2, 1, 8, 0, .null, 0),
  (8, .bipush 29, 2, 10, 0, .int 29, 0),
  (10, .lushr, 1, 11, 0, .null, 0),
  (11, .lxor, 1, 12, 0, .null, 0),
  (12, .ldc2_w 307, 3, 15, 0, .long 4768777513237032717, 144),
  (15, .lmul, 1, 16, 0, .null, 0),
  (16, .lstore_n 2, 1, 17, 0, .null, 0),
  (17, .lload_n 2, 1, 18, 0, .null, 0),
  (18, .lload_n 2, 1, 19, 0, .null, 0),
  (19, .bipush 32, 2, 21, 0, .int 32, 0),
  (21, .lushr, 1, 22, 0, .null, 0),
  (22, .lxor, 1, 23, 0, .null, 0),
  (23, .lreturn, 1, 24, 0, .null, 0)])
set_option maxRecDepth 100000 in
theorem mN_lockOf_ok : xOK mN_lockOf = true := by decide +kernel
def mN_channels : XM := (⟨"ChannelNet", "channels", "()I"⟩, prog_1_method_13_code, 1, (Option.some FieldType.int), [], [
  (0, .aload_n 0, 1, 1, 0, .null, 0),
  (1, .getfield 36, 3, 4, 6, .ref 0, 108),
  (4, .invokevirtual 85, 3, 7, 0, .null, 0),
  (7, .ireturn, 1, 8, 0, .null, 0)])
set_option maxRecDepth 100000 in
theorem mN_channels_ok : xOK mN_channels = true := by decide +kernel
def mN_height : XM := (⟨"ChannelNet", "height", "()I"⟩, prog_1_method_28_code, 1, (Option.some FieldType.int), [], [
  (0, .aload_n 0, 1, 1, 0, .null, 0),
  (1, .getfield 53, 3, 4, 10, .ref 0, 112),
  (4, .ireturn, 1, 5, 0, .null, 0)])
set_option maxRecDepth 100000 in
theorem mN_height_ok : xOK mN_height = true := by decide +kernel
def mN_open : XM := (⟨"ChannelNet", "open", "(IIII)I"⟩, prog_1_method_8_code, 5, (Option.some FieldType.int), [], [
  (0, .iload_n 1, 1, 1, 0, .null, 0),
  (1, .invokestatic 58, 3, 4, 0, .null, 0),
  (4, .iload_n 2, 1, 5, 0, .null, 0),
  (5, .invokestatic 58, 3, 8, 0, .null, 0),
  (8, .iload_n 1, 1, 9, 0, .null, 0),
  (9, .iload_n 2, 1, 10, 0, .null, 0),
  (10, .if_icmp .eq 7, 3, 13, 17, .null, 0),
  (13, .iconst 1, 1, 14, 0, .int 1, 0),
  (14, .goto 4, 3, 17, 18, .null, 0),
  (17, .iconst 0, 1, 18, 0, .int 0, 0),
  (18, .invokestatic 62, 3, 21, 0, .null, 0),
  (21, .iload_n 3, 1, 22, 0, .null, 0),
  (22, .ifCond .lt 21, 3, 25, 43, .null, 0),
  (25, .iload 4, 2, 27, 0, .null, 0),
  (27, .ifCond .lt 16, 3, 30, 43, .null, 0),
  (30, .iload_n 3, 1, 31, 0, .null, 0),
  (31, .ifCond .gt 8, 3, 34, 39, .null, 0),
  (34, .iload 4, 2, 36, 0, .null, 0),
  (36, .ifCond .le 7, 3, 39, 43, .null, 0),
  (39, .iconst 1, 1, 40, 0, .int 1, 0),
  (40, .goto 4, 3, 43, 44, .null, 0),
  (43, .iconst 0, 1, 44, 0, .int 0, 0),
  (44, .invokestatic 62, 3, 47, 0, .null, 0),
  (47, .aload_n 0, 1, 48, 0, .null, 0),
  (48, .getfield 36, 3, 51, 6, .ref 0, 108),
  (51, .invokevirtual 85, 3, 54, 0, .null, 0),
  (54, .bipush 8, 2, 56, 0, .int 8, 0),
  (56, .if_icmp .ge 7, 3, 59, 63, .null, 0),
  (59, .iconst 1, 1, 60, 0, .int 1, 0),
  (60, .goto 4, 3, 63, 64, .null, 0),
  (63, .iconst 0, 1, 64, 0, .int 0, 0),
  (64, .invokestatic 74, 3, 67, 0, .null, 0),
  (67, .aload_n 0, 1, 68, 0, .null, 0),
  (68, .getfield 9, 3, 71, 0, .ref 0, 102),
  (71, .iload_n 1, 1, 72, 0, .null, 0),
  (72, .iaload, 1, 73, 0, .null, 0),
  (73, .iload_n 3, 1, 74, 0, .null, 0),
  (74, .if_icmp .lt 18, 3, 77, 92, .null, 0),
  (77, .aload_n 0, 1, 78, 0, .null, 0),
  (78, .getfield 9, 3, 81, 0, .ref 0, 102),
  (81, .iload_n 2, 1, 82, 0, .null, 0),
  (82, .iaload, 1, 83, 0, .null, 0),
  (83, .iload 4, 2, 85, 0, .null, 0),
  (85, .if_icmp .lt 7, 3, 88, 92, .null, 0),
  (88, .iconst 1, 1, 89, 0, .int 1, 0),
  (89, .goto 4, 3, 92, 93, .null, 0),
  (92, .iconst 0, 1, 93, 0, .int 0, 0),
  (93, .invokestatic 74, 3, 96, 0, .null, 0),
  (96, .aload_n 0, 1, 97, 0, .null, 0),
  (97, .getfield 9, 3, 100, 0, .ref 0, 102),
  (100, .iload_n 1, 1, 101, 0, .null, 0),
  (101, .dup2, 1, 102, 0, .null, 0),
  (102, .iaload, 1, 103, 0, .null, 0),
  (103, .iload_n 3, 1, 104, 0, .null, 0),
  (104, .isub, 1, 105, 0, .null, 0),
  (105, .iastore, 1, 106, 0, .null, 0),
  (106, .aload_n 0, 1, 107, 0, .null, 0),
  (107, .getfield 9, 3, 110, 0, .ref 0, 102),
  (110, .iload_n 2, 1, 111, 0, .null, 0),
  (111, .dup2, 1, 112, 0, .null, 0),
  (112, .iaload, 1, 113, 0, .null, 0),
  (113, .iload 4, 2, 115, 0, .null, 0),
  (115, .isub, 1, 116, 0, .null, 0),
  (116, .iastore, 1, 117, 0, .null, 0),
  (117, .aload_n 0, 1, 118, 0, .null, 0),
  (118, .getfield 36, 3, 121, 6, .ref 0, 108),
  (121, .new 89, 3, 124, 0, .null, 0),
  (124, .dup, 1, 125, 0, .null, 0),
  (125, .iload_n 1, 1, 126, 0, .null, 0),
  (126, .iload_n 2, 1, 127, 0, .null, 0),
  (127, .iload_n 3, 1, 128, 0, .null, 0),
  (128, .iload 4, 2, 130, 0, .null, 0),
  (130, .invokespecial 91, 3, 133, 0, .null, 0),
  (133, .invokevirtual 94, 3, 136, 0, .null, 0),
  (136, .pop, 1, 137, 0, .null, 0),
  (137, .aload_n 0, 1, 138, 0, .null, 0),
  (138, .getfield 36, 3, 141, 6, .ref 0, 108),
  (141, .invokevirtual 85, 3, 144, 0, .null, 0),
  (144, .iconst 1, 1, 145, 0, .int 1, 0),
  (145, .isub, 1, 146, 0, .null, 0),
  (146, .ireturn, 1, 147, 0, .null, 0)])
set_option maxRecDepth 100000 in
theorem mN_open_ok : xOK mN_open = true := by decide +kernel
def mN_checkNode : XM := (⟨"ChannelNet", "checkNode", "(I)V"⟩, prog_1_method_32_code, 1, (Option.none : Option FieldType), [], [
  (0, .iload_n 0, 1, 1, 0, .null, 0),
  (1, .ifCond .lt 13, 3, 4, 14, .null, 0),
  (4, .iload_n 0, 1, 5, 0, .null, 0),
  (5, .bipush 6, 2, 7, 0, .int 6, 0),
  (7, .if_icmp .ge 7, 3, 10, 14, .null, 0),
  (10, .iconst 1, 1, 11, 0, .int 1, 0),
  (11, .goto 4, 3, 14, 15, .null, 0),
  (14, .iconst 0, 1, 15, 0, .int 0, 0),
  (15, .invokestatic 106, 3, 18, 0, .null, 0),
  (18, .return_, 1, 19, 0, .null, 0)])
set_option maxRecDepth 100000 in
theorem mN_checkNode_ok : xOK mN_checkNode = true := by decide +kernel
def mN_checkIndex : XM := (⟨"ChannelNet", "checkIndex", "(Z)V"⟩, prog_1_method_29_code, 1, (Option.none : Option FieldType), [], [
  (0, .iload_n 0, 1, 1, 0, .null, 0),
  (1, .ifCond .ne 14, 3, 4, 15, .null, 0),
  (4, .new 285, 3, 7, 0, .null, 0),
  (7, .dup, 1, 8, 0, .null, 0),
  (8, .ldc_w 287, 3, 11, 0, .null, 0),
  (11, .invokespecial 289, 3, 14, 0, .null, 0),
  (14, .athrow, 1, 15, 0, .null, 0),
  (15, .return_, 1, 16, 0, .null, 0)])
set_option maxRecDepth 100000 in
theorem mN_checkIndex_ok : xOK mN_checkIndex = true := by decide +kernel
def mN_checkArgument : XM := (⟨"ChannelNet", "checkArgument", "(Z)V"⟩, prog_1_method_30_code, 1, (Option.none : Option FieldType), [], [
  (0, .iload_n 0, 1, 1, 0, .null, 0),
  (1, .ifCond .ne 14, 3, 4, 15, .null, 0),
  (4, .new 170, 3, 7, 0, .null, 0),
  (7, .dup, 1, 8, 0, .null, 0),
  (8, .ldc_w 290, 3, 11, 0, .null, 0),
  (11, .invokespecial 174, 3, 14, 0, .null, 0),
  (14, .athrow, 1, 15, 0, .null, 0),
  (15, .return_, 1, 16, 0, .null, 0)])
set_option maxRecDepth 100000 in
theorem mN_checkArgument_ok : xOK mN_checkArgument = true := by decide +kernel
def mN_checkState : XM := (⟨"ChannelNet", "checkState", "(Z)V"⟩, prog_1_method_31_code, 1, (Option.none : Option FieldType), [], [
  (0, .iload_n 0, 1, 1, 0, .null, 0),
  (1, .ifCond .ne 14, 3, 4, 15, .null, 0),
  (4, .new 292, 3, 7, 0, .null, 0),
  (7, .dup, 1, 8, 0, .null, 0),
  (8, .ldc_w 294, 3, 11, 0, .null, 0),
  (11, .invokespecial 296, 3, 14, 0, .null, 0),
  (14, .athrow, 1, 15, 0, .null, 0),
  (15, .return_, 1, 16, 0, .null, 0)])
set_option maxRecDepth 100000 in
theorem mN_checkState_ok : xOK mN_checkState = true := by decide +kernel
def mN_fees : XM := (⟨"ChannelNet", "fees", "(IIII)V"⟩, prog_1_method_2_code, 5, (Option.none : Option FieldType), [], [
  (0, .iload_n 1, 1, 1, 0, .null, 0),
  (1, .invokestatic 58, 3, 4, 0, .null, 0),
  (4, .iload_n 2, 1, 5, 0, .null, 0),
  (5, .ifCond .lt 14, 3, 8, 19, .null, 0),
  (8, .iload_n 2, 1, 9, 0, .null, 0),
  (9, .sipush 10000, 3, 12, 0, .int 10000, 0),
  (12, .if_icmp .gt 7, 3, 15, 19, .null, 0),
  (15, .iconst 1, 1, 16, 0, .int 1, 0),
  (16, .goto 4, 3, 19, 20, .null, 0),
  (19, .iconst 0, 1, 20, 0, .int 0, 0),
  (20, .invokestatic 62, 3, 23, 0, .null, 0),
  (23, .iload_n 3, 1, 24, 0, .null, 0),
  (24, .ifCond .lt 13, 3, 27, 37, .null, 0),
  (27, .iload_n 3, 1, 28, 0, .null, 0),
  (28, .ldc 57, 2, 30, 0, .int 1000000, 101),
  (30, .if_icmp .gt 7, 3, 33, 37, .null, 0),
  (33, .iconst 1, 1, 34, 0, .int 1, 0),
  (34, .goto 4, 3, 37, 38, .null, 0),
  (37, .iconst 0, 1, 38, 0, .int 0, 0),
  (38, .invokestatic 62, 3, 41, 0, .null, 0),
  (41, .iload 4, 2, 43, 0, .null, 0),
  (43, .iconst 1, 1, 44, 0, .int 1, 0),
  (44, .if_icmp .lt 14, 3, 47, 58, .null, 0),
  (47, .iload 4, 2, 49, 0, .null, 0),
  (49, .bipush 100, 2, 51, 0, .int 100, 0),
  (51, .if_icmp .gt 7, 3, 54, 58, .null, 0),
  (54, .iconst 1, 1, 55, 0, .int 1, 0),
  (55, .goto 4, 3, 58, 59, .null, 0),
  (58, .iconst 0, 1, 59, 0, .int 0, 0),
  (59, .invokestatic 62, 3, 62, 0, .null, 0),
  (62, .aload_n 0, 1, 63, 0, .null, 0),
  (63, .getfield 13, 3, 66, 1, .ref 0, 103),
  (66, .iload_n 1, 1, 67, 0, .null, 0),
  (67, .iload_n 2, 1, 68, 0, .null, 0),
  (68, .iastore, 1, 69, 0, .null, 0),
  (69, .aload_n 0, 1, 70, 0, .null, 0),
  (70, .getfield 16, 3, 73, 2, .ref 0, 104),
  (73, .iload_n 1, 1, 74, 0, .null, 0),
  (74, .iload_n 3, 1, 75, 0, .null, 0),
  (75, .iastore, 1, 76, 0, .null, 0),
  (76, .aload_n 0, 1, 77, 0, .null, 0),
  (77, .getfield 19, 3, 80, 3, .ref 0, 105),
  (80, .iload_n 1, 1, 81, 0, .null, 0),
  (81, .iload 4, 2, 83, 0, .null, 0),
  (83, .iastore, 1, 84, 0, .null, 0),
  (84, .return_, 1, 85, 0, .null, 0)])
set_option maxRecDepth 100000 in
theorem mN_fees_ok : xOK mN_fees = true := by decide +kernel
def mN_tell : XM := (⟨"ChannelNet", "tell", "(IJ)J"⟩, prog_1_method_3_code, 6, (Option.some FieldType.long), [], [
  (0, .iload_n 1, 1, 1, 0, .null, 0),
  (1, .invokestatic 58, 3, 4, 0, .null, 0),
  (4, .lload_n 2, 1, 5, 0, .null, 0),
  (5, .invokestatic 66, 3, 8, 0, .null, 0),
  (8, .lstore 4, 2, 10, 0, .null, 0),
  (10, .aload_n 0, 1, 11, 0, .null, 0),
  (11, .getfield 29, 3, 14, 5, .ref 0, 107),
  (14, .lload 4, 2, 16, 0, .null, 0),
  (16, .invokevirtual 70, 3, 19, 0, .null, 0),
  (19, .invokestatic 74, 3, 22, 0, .null, 0),
  (22, .aload_n 0, 1, 23, 0, .null, 0),
  (23, .getfield 29, 3, 26, 5, .ref 0, 107),
  (26, .lload 4, 2, 28, 0, .null, 0),
  (28, .iconst 1, 1, 29, 0, .int 1, 0),
  (29, .iload_n 1, 1, 30, 0, .null, 0),
  (30, .ishl, 1, 31, 0, .null, 0),
  (31, .invokevirtual 77, 3, 34, 0, .null, 0),
  (34, .lload 4, 2, 36, 0, .null, 0),
  (36, .lreturn, 1, 37, 0, .null, 0)])
set_option maxRecDepth 100000 in
theorem mN_tell_ok : xOK mN_tell = true := by decide +kernel
def mN_knows : XM := (⟨"ChannelNet", "knows", "(IJ)Z"⟩, prog_1_method_5_code, 4, (Option.some FieldType.boolean), [], [
  (0, .iload_n 1, 1, 1, 0, .null, 0),
  (1, .invokestatic 58, 3, 4, 0, .null, 0),
  (4, .aload_n 0, 1, 5, 0, .null, 0),
  (5, .getfield 29, 3, 8, 5, .ref 0, 107),
  (8, .iload_n 1, 1, 9, 0, .null, 0),
  (9, .lload_n 2, 1, 10, 0, .null, 0),
  (10, .invokevirtual 81, 3, 13, 0, .null, 0),
  (13, .ireturn, 1, 14, 0, .null, 0)])
set_option maxRecDepth 100000 in
theorem mN_knows_ok : xOK mN_knows = true := by decide +kernel
def mN_promise : XM := (⟨"ChannelNet", "promise", "(IIIJI)I"⟩, prog_1_method_9_code, 8, (Option.some FieldType.int), [], [
  (0, .aload_n 0, 1, 1, 0, .null, 0),
  (1, .iload_n 1, 1, 2, 0, .null, 0),
  (2, .invokevirtual 98, 3, 5, 0, .null, 0),
  (5, .astore 7, 2, 7, 0, .null, 0),
  (7, .aload 7, 2, 9, 0, .null, 0),
  (9, .iload_n 2, 1, 10, 0, .null, 0),
  (10, .invokevirtual 102, 3, 13, 0, .null, 0),
  (13, .invokestatic 106, 3, 16, 0, .null, 0),
  (16, .iload_n 3, 1, 17, 0, .null, 0),
  (17, .iconst 1, 1, 18, 0, .int 1, 0),
  (18, .if_icmp .lt 7, 3, 21, 25, .null, 0),
  (21, .iconst 1, 1, 22, 0, .int 1, 0),
  (22, .goto 4, 3, 25, 26, .null, 0),
  (25, .iconst 0, 1, 26, 0, .int 0, 0),
  (26, .invokestatic 62, 3, 29, 0, .null, 0),
  (29, .aload 7, 2, 31, 0, .null, 0),
  (31, .iload_n 2, 1, 32, 0, .null, 0),
  (32, .iload_n 3, 1, 33, 0, .null, 0),
  (33, .invokevirtual 109, 3, 36, 0, .null, 0),
  (36, .ifCond .eq 16, 3, 39, 52, .null, 0),
  (39, .iload 6, 2, 41, 0, .null, 0),
  (41, .aload_n 0, 1, 42, 0, .null, 0),
  (42, .getfield 53, 3, 45, 10, .ref 0, 112),
  (45, .if_icmp .le 7, 3, 48, 52, .null, 0),
  (48, .iconst 1, 1, 49, 0, .int 1, 0),
  (49, .goto 4, 3, 52, 53, .null, 0),
  (52, .iconst 0, 1, 53, 0, .int 0, 0),
  (53, .invokestatic 74, 3, 56, 0, .null, 0),
  (56, .aload 7, 2, 58, 0, .null, 0),
  (58, .invokevirtual 113, 3, 61, 0, .null, 0),
  (61, .invokestatic 74, 3, 64, 0, .null, 0),
  (64, .aload 7, 2, 66, 0, .null, 0),
  (66, .iload_n 2, 1, 67, 0, .null, 0),
  (67, .iload_n 3, 1, 68, 0, .null, 0),
  (68, .lload 4, 2, 70, 0, .null, 0),
  (70, .iload 6, 2, 72, 0, .null, 0),
  (72, .invokevirtual 117, 3, 75, 0, .null, 0),
  (75, .ireturn, 1, 76, 0, .null, 0)])
set_option maxRecDepth 100000 in
theorem mN_promise_ok : xOK mN_promise = true := by decide +kernel
def mN_channelAt : XM := (⟨"ChannelNet", "channelAt", "(I)LChannelNet$Channel;"⟩, prog_1_method_34_code, 2, (Option.some (FieldType.object "ChannelNet$Channel")), [], [
  (0, .iload_n 1, 1, 1, 0, .null, 0),
  (1, .ifCond .lt 18, 3, 4, 19, .null, 0),
  (4, .iload_n 1, 1, 5, 0, .null, 0),
  (5, .aload_n 0, 1, 6, 0, .null, 0),
  (6, .getfield 36, 3, 9, 6, .ref 0, 108),
  (9, .invokevirtual 85, 3, 12, 0, .null, 0),
  (12, .if_icmp .ge 7, 3, 15, 19, .null, 0),
  (15, .iconst 1, 1, 16, 0, .int 1, 0),
  (16, .goto 4, 3, 19, 20, .null, 0),
  (19, .iconst 0, 1, 20, 0, .int 0, 0),
  (20, .invokestatic 106, 3, 23, 0, .null, 0),
  (23, .aload_n 0, 1, 24, 0, .null, 0),
  (24, .getfield 36, 3, 27, 6, .ref 0, 108),
  (27, .iload_n 1, 1, 28, 0, .null, 0),
  (28, .invokevirtual 298, 3, 31, 0, .null, 0),
  (31, .checkcast 89, 3, 34, 0, .null, 0),
  (34, .areturn, 1, 35, 0, .null, 0)])
set_option maxRecDepth 100000 in
theorem mN_channelAt_ok : xOK mN_channelAt = true := by decide +kernel
def mN_keep : XM := (⟨"ChannelNet", "keep", "(IIJ)I"⟩, prog_1_method_10_code, 9, (Option.some FieldType.int), [], [
  (0, .aload_n 0, 1, 1, 0, .null, 0),
  (1, .iload_n 1, 1, 2, 0, .null, 0),
  (2, .invokevirtual 98, 3, 5, 0, .null, 0),
  (5, .astore 5, 2, 7, 0, .null, 0),
  (7, .aload 5, 2, 9, 0, .null, 0),
  (9, .iload_n 2, 1, 10, 0, .null, 0),
  (10, .invokestatic 121, 3, 13, 0, .null, 0),
  (13, .astore 6, 2, 15, 0, .null, 0),
  (15, .lload_n 3, 1, 16, 0, .null, 0),
  (16, .invokestatic 66, 3, 19, 0, .null, 0),
  (19, .lstore 7, 2, 21, 0, .null, 0),
  (21, .aload 6, 2, 23, 0, .null, 0),
  (23, .getfield 125, 3, 26, 3, .ref 5, 504),
  (26, .lload 7, 2, 28, 0, .null, 0),
  (28, .lcmp, 1, 29, 0, .null, 0),
  (29, .ifCond .ne 7, 3, 32, 36, .null, 0),
  (32, .iconst 1, 1, 33, 0, .int 1, 0),
  (33, .goto 4, 3, 36, 37, .null, 0),
  (36, .iconst 0, 1, 37, 0, .int 0, 0),
  (37, .invokestatic 62, 3, 40, 0, .null, 0),
  (40, .aload 5, 2, 42, 0, .null, 0),
  (42, .getfield 131, 3, 45, 6, .ref 4, 300),
  (45, .ifCond .ne 19, 3, 48, 64, .null, 0),
  (48, .aload 6, 2, 50, 0, .null, 0),
  (50, .getfield 134, 3, 53, 4, .ref 5, 506),
  (53, .aload_n 0, 1, 54, 0, .null, 0),
  (54, .getfield 53, 3, 57, 10, .ref 0, 112),
  (57, .if_icmp .le 7, 3, 60, 64, .null, 0),
  (60, .iconst 1, 1, 61, 0, .int 1, 0),
  (61, .goto 4, 3, 64, 65, .null, 0),
  (64, .iconst 0, 1, 65, 0, .int 0, 0),
  (65, .invokestatic 74, 3, 68, 0, .null, 0),
  (68, .aload 5, 2, 70, 0, .null, 0),
  (70, .invokevirtual 113, 3, 73, 0, .null, 0),
  (73, .invokestatic 74, 3, 76, 0, .null, 0),
  (76, .aload_n 0, 1, 77, 0, .null, 0),
  (77, .getfield 29, 3, 80, 5, .ref 0, 107),
  (80, .lload 7, 2, 82, 0, .null, 0),
  (82, .invokevirtual 70, 3, 85, 0, .null, 0),
  (85, .invokestatic 74, 3, 88, 0, .null, 0),
  (88, .aload 5, 2, 90, 0, .null, 0),
  (90, .aload 6, 2, 92, 0, .null, 0),
  (92, .aload 6, 2, 94, 0, .null, 0),
  (94, .getfield 137, 3, 97, 1, .ref 5, 499),
  (97, .invokevirtual 140, 3, 100, 0, .null, 0),
  (100, .aload_n 0, 1, 101, 0, .null, 0),
  (101, .getfield 29, 3, 104, 5, .ref 0, 107),
  (104, .lload 7, 2, 106, 0, .null, 0),
  (106, .iconst 1, 1, 107, 0, .int 1, 0),
  (107, .aload 6, 2, 109, 0, .null, 0),
  (109, .getfield 144, 3, 112, 0, .ref 5, 497),
  (112, .ishl, 1, 113, 0, .null, 0),
  (113, .iconst 1, 1, 114, 0, .int 1, 0),
  (114, .aload 6, 2, 116, 0, .null, 0),
  (116, .getfield 137, 3, 119, 1, .ref 5, 499),
  (119, .ishl, 1, 120, 0, .null, 0),
  (120, .ior, 1, 121, 0, .null, 0),
  (121, .invokevirtual 77, 3, 124, 0, .null, 0),
  (124, .aload 5, 2, 126, 0, .null, 0),
  (126, .getfield 147, 3, 129, 5, .ref 4, 298),
  (129, .ireturn, 1, 130, 0, .null, 0)])
set_option maxRecDepth 100000 in
theorem mN_keep_ok : xOK mN_keep = true := by decide +kernel
def mN_latestPromise : XM := (⟨"ChannelNet", "latestPromise", "(LChannelNet$Channel;I)LChannelNet$Promise;"⟩, prog_1_method_37_code, 3, (Option.some (FieldType.object "ChannelNet$Promise")), [], [
  (0, .aload_n 0, 1, 1, 0, .null, 0),
  (1, .iload_n 1, 1, 2, 0, .null, 0),
  (2, .invokestatic 189, 3, 5, 0, .null, 0),
  (5, .astore_n 2, 1, 6, 0, .null, 0),
  (6, .aload_n 2, 1, 7, 0, .null, 0),
  (7, .aload_n 0, 1, 8, 0, .null, 0),
  (8, .getfield 147, 3, 11, 5, .ref 4, 298),
  (11, .invokevirtual 195, 3, 14, 0, .null, 0),
  (14, .invokestatic 106, 3, 17, 0, .null, 0),
  (17, .aload_n 2, 1, 18, 0, .null, 0),
  (18, .areturn, 1, 19, 0, .null, 0)])
set_option maxRecDepth 100000 in
theorem mN_latestPromise_ok : xOK mN_latestPromise = true := by decide +kernel
def mN_promiseOf : XM := (⟨"ChannelNet", "promiseOf", "(LChannelNet$Channel;I)LChannelNet$Promise;"⟩, prog_1_method_36_code, 2, (Option.some (FieldType.object "ChannelNet$Promise")), [], [
  (0, .iload_n 1, 1, 1, 0, .null, 0),
  (1, .ifCond .lt 18, 3, 4, 19, .null, 0),
  (4, .iload_n 1, 1, 5, 0, .null, 0),
  (5, .aload_n 0, 1, 6, 0, .null, 0),
  (6, .getfield 167, 3, 9, 4, .ref 4, 296),
  (9, .invokevirtual 85, 3, 12, 0, .null, 0),
  (12, .if_icmp .ge 7, 3, 15, 19, .null, 0),
  (15, .iconst 1, 1, 16, 0, .int 1, 0),
  (16, .goto 4, 3, 19, 20, .null, 0),
  (19, .iconst 0, 1, 20, 0, .int 0, 0),
  (20, .invokestatic 106, 3, 23, 0, .null, 0),
  (23, .aload_n 0, 1, 24, 0, .null, 0),
  (24, .getfield 167, 3, 27, 4, .ref 4, 296),
  (27, .iload_n 1, 1, 28, 0, .null, 0),
  (28, .invokevirtual 298, 3, 31, 0, .null, 0),
  (31, .checkcast 126, 3, 34, 0, .null, 0),
  (34, .areturn, 1, 35, 0, .null, 0)])
set_option maxRecDepth 100000 in
theorem mN_promiseOf_ok : xOK mN_promiseOf = true := by decide +kernel
def mN_drop : XM := (⟨"ChannelNet", "drop", "(II)I"⟩, prog_1_method_11_code, 5, (Option.some FieldType.int), [], [
  (0, .aload_n 0, 1, 1, 0, .null, 0),
  (1, .iload_n 1, 1, 2, 0, .null, 0),
  (2, .invokevirtual 98, 3, 5, 0, .null, 0),
  (5, .astore_n 3, 1, 6, 0, .null, 0),
  (6, .aload_n 3, 1, 7, 0, .null, 0),
  (7, .iload_n 2, 1, 8, 0, .null, 0),
  (8, .invokestatic 121, 3, 11, 0, .null, 0),
  (11, .astore 4, 2, 13, 0, .null, 0),
  (13, .aload_n 3, 1, 14, 0, .null, 0),
  (14, .getfield 131, 3, 17, 6, .ref 4, 300),
  (17, .ifCond .ne 7, 3, 20, 24, .null, 0),
  (20, .iconst 1, 1, 21, 0, .int 1, 0),
  (21, .goto 4, 3, 24, 25, .null, 0),
  (24, .iconst 0, 1, 25, 0, .int 0, 0),
  (25, .invokestatic 74, 3, 28, 0, .null, 0),
  (28, .aload_n 3, 1, 29, 0, .null, 0),
  (29, .invokevirtual 113, 3, 32, 0, .null, 0),
  (32, .invokestatic 74, 3, 35, 0, .null, 0),
  (35, .aload_n 3, 1, 36, 0, .null, 0),
  (36, .aload 4, 2, 38, 0, .null, 0),
  (38, .aload 4, 2, 40, 0, .null, 0),
  (40, .getfield 144, 3, 43, 0, .ref 5, 497),
  (43, .invokevirtual 140, 3, 46, 0, .null, 0),
  (46, .aload_n 3, 1, 47, 0, .null, 0),
  (47, .getfield 147, 3, 50, 5, .ref 4, 298),
  (50, .ireturn, 1, 51, 0, .null, 0)])
set_option maxRecDepth 100000 in
theorem mN_drop_ok : xOK mN_drop = true := by decide +kernel
def mN_close : XM := (⟨"ChannelNet", "close", "(I)V"⟩, prog_1_method_12_code, 3, (Option.none : Option FieldType), [], [
  (0, .aload_n 0, 1, 1, 0, .null, 0),
  (1, .iload_n 1, 1, 2, 0, .null, 0),
  (2, .invokevirtual 98, 3, 5, 0, .null, 0),
  (5, .astore_n 2, 1, 6, 0, .null, 0),
  (6, .aload_n 2, 1, 7, 0, .null, 0),
  (7, .getfield 131, 3, 10, 6, .ref 4, 300),
  (10, .ifCond .ne 18, 3, 13, 28, .null, 0),
  (13, .aload_n 2, 1, 14, 0, .null, 0),
  (14, .aload_n 2, 1, 15, 0, .null, 0),
  (15, .getfield 147, 3, 18, 5, .ref 4, 298),
  (18, .invokevirtual 150, 3, 21, 0, .null, 0),
  (21, .ifCond .ne 7, 3, 24, 28, .null, 0),
  (24, .iconst 1, 1, 25, 0, .int 1, 0),
  (25, .goto 4, 3, 28, 29, .null, 0),
  (28, .iconst 0, 1, 29, 0, .int 0, 0),
  (29, .invokestatic 74, 3, 32, 0, .null, 0),
  (32, .aload_n 0, 1, 33, 0, .null, 0),
  (33, .aload_n 2, 1, 34, 0, .null, 0),
  (34, .aload_n 2, 1, 35, 0, .null, 0),
  (35, .getfield 147, 3, 38, 5, .ref 4, 298),
  (38, .invokevirtual 154, 3, 41, 0, .null, 0),
  (41, .aload_n 2, 1, 42, 0, .null, 0),
  (42, .iconst 2, 1, 43, 0, .int 2, 0),
  (43, .putfield 131, 3, 46, 6, .ref 4, 300),
  (46, .return_, 1, 47, 0, .null, 0)])
set_option maxRecDepth 100000 in
theorem mN_close_ok : xOK mN_close = true := by decide +kernel
def mN_payBalances : XM := (⟨"ChannelNet", "payBalances", "(LChannelNet$Channel;I)V"⟩, prog_1_method_51_code, 3, (Option.none : Option FieldType), [], [
  (0, .aload_n 0, 1, 1, 0, .null, 0),
  (1, .getfield 9, 3, 4, 0, .ref 0, 102),
  (4, .aload_n 1, 1, 5, 0, .null, 0),
  (5, .getfield 361, 3, 8, 0, .ref 4, 288),
  (8, .dup2, 1, 9, 0, .null, 0),
  (9, .iaload, 1, 10, 0, .null, 0),
  (10, .aload_n 1, 1, 11, 0, .null, 0),
  (11, .getfield 180, 3, 14, 2, .ref 4, 292),
  (14, .iload_n 2, 1, 15, 0, .null, 0),
  (15, .iaload, 1, 16, 0, .null, 0),
  (16, .iadd, 1, 17, 0, .null, 0),
  (17, .iastore, 1, 18, 0, .null, 0),
  (18, .aload_n 0, 1, 19, 0, .null, 0),
  (19, .getfield 9, 3, 22, 0, .ref 0, 102),
  (22, .aload_n 1, 1, 23, 0, .null, 0),
  (23, .getfield 364, 3, 26, 1, .ref 4, 290),
  (26, .dup2, 1, 27, 0, .null, 0),
  (27, .iaload, 1, 28, 0, .null, 0),
  (28, .aload_n 1, 1, 29, 0, .null, 0),
  (29, .getfield 183, 3, 32, 3, .ref 4, 294),
  (32, .iload_n 2, 1, 33, 0, .null, 0),
  (33, .iaload, 1, 34, 0, .null, 0),
  (34, .iadd, 1, 35, 0, .null, 0),
  (35, .iastore, 1, 36, 0, .null, 0),
  (36, .aload_n 1, 1, 37, 0, .null, 0),
  (37, .dup, 1, 38, 0, .null, 0),
  (38, .getfield 164, 3, 41, 7, .ref 4, 302),
  (41, .aload_n 1, 1, 42, 0, .null, 0),
  (42, .getfield 180, 3, 45, 2, .ref 4, 292),
  (45, .iload_n 2, 1, 46, 0, .null, 0),
  (46, .iaload, 1, 47, 0, .null, 0),
  (47, .aload_n 1, 1, 48, 0, .null, 0),
  (48, .getfield 183, 3, 51, 3, .ref 4, 294),
  (51, .iload_n 2, 1, 52, 0, .null, 0),
  (52, .iaload, 1, 53, 0, .null, 0),
  (53, .iadd, 1, 54, 0, .null, 0),
  (54, .isub, 1, 55, 0, .null, 0),
  (55, .putfield 164, 3, 58, 7, .ref 4, 302),
  (58, .return_, 1, 59, 0, .null, 0)])
set_option maxRecDepth 100000 in
theorem mN_payBalances_ok : xOK mN_payBalances = true := by decide +kernel
def mN_route : XM := (⟨"ChannelNet", "route", "(III)I"⟩, prog_1_method_17_code, 4, (Option.some FieldType.int), [], [
  (0, .iload_n 1, 1, 1, 0, .null, 0),
  (1, .iload_n 2, 1, 2, 0, .null, 0),
  (2, .iload_n 3, 1, 3, 0, .null, 0),
  (3, .invokestatic 198, 3, 6, 0, .null, 0),
  (6, .aload_n 0, 1, 7, 0, .null, 0),
  (7, .iload_n 1, 1, 8, 0, .null, 0),
  (8, .iload_n 2, 1, 9, 0, .null, 0),
  (9, .iload_n 3, 1, 10, 0, .null, 0),
  (10, .invokevirtual 202, 3, 13, 0, .null, 0),
  (13, .aload_n 0, 1, 14, 0, .null, 0),
  (14, .getfield 46, 3, 17, 8, .ref 0, 110),
  (17, .getfield 205, 3, 20, 3, .ref 3, 91),
  (20, .ifCond .ne 7, 3, 23, 27, .null, 0),
  (23, .iconst (-1), 1, 24, 0, .int (-1), 0),
  (24, .goto 10, 3, 27, 34, .null, 0),
  (27, .aload_n 0, 1, 28, 0, .null, 0),
  (28, .getfield 46, 3, 31, 8, .ref 0, 110),
  (31, .invokevirtual 208, 3, 34, 0, .null, 0),
  (34, .ireturn, 1, 35, 0, .null, 0)])
set_option maxRecDepth 100000 in
theorem mN_route_ok : xOK mN_route = true := by decide +kernel
def mN_checkEnds : XM := (⟨"ChannelNet", "checkEnds", "(III)V"⟩, prog_1_method_33_code, 3, (Option.none : Option FieldType), [], [
  (0, .iload_n 0, 1, 1, 0, .null, 0),
  (1, .invokestatic 58, 3, 4, 0, .null, 0),
  (4, .iload_n 1, 1, 5, 0, .null, 0),
  (5, .invokestatic 58, 3, 8, 0, .null, 0),
  (8, .iload_n 0, 1, 9, 0, .null, 0),
  (9, .iload_n 1, 1, 10, 0, .null, 0),
  (10, .if_icmp .eq 7, 3, 13, 17, .null, 0),
  (13, .iconst 1, 1, 14, 0, .int 1, 0),
  (14, .goto 4, 3, 17, 18, .null, 0),
  (17, .iconst 0, 1, 18, 0, .int 0, 0),
  (18, .invokestatic 62, 3, 21, 0, .null, 0),
  (21, .iload_n 2, 1, 22, 0, .null, 0),
  (22, .iconst 1, 1, 23, 0, .int 1, 0),
  (23, .if_icmp .lt 14, 3, 26, 37, .null, 0),
  (26, .iload_n 2, 1, 27, 0, .null, 0),
  (27, .ldc_w 297, 3, 30, 0, .int 10000000, 578),
  (30, .if_icmp .gt 7, 3, 33, 37, .null, 0),
  (33, .iconst 1, 1, 34, 0, .int 1, 0),
  (34, .goto 4, 3, 37, 38, .null, 0),
  (37, .iconst 0, 1, 38, 0, .int 0, 0),
  (38, .invokestatic 62, 3, 41, 0, .null, 0),
  (41, .return_, 1, 42, 0, .null, 0)])
set_option maxRecDepth 100000 in
theorem mN_checkEnds_ok : xOK mN_checkEnds = true := by decide +kernel
def mN_findRoute : XM := (⟨"ChannelNet", "findRoute", "(III)V"⟩, prog_1_method_40_code, 4, (Option.none : Option FieldType), [], [
  (0, .aload_n 0, 1, 1, 0, .null, 0),
  (1, .getfield 46, 3, 4, 8, .ref 0, 110),
  (4, .iconst 0, 1, 5, 0, .int 0, 0),
  (5, .putfield 205, 3, 8, 3, .ref 3, 91),
  (8, .aload_n 0, 1, 9, 0, .null, 0),
  (9, .iconst 0, 1, 10, 0, .int 0, 0),
  (10, .iload_n 1, 1, 11, 0, .null, 0),
  (11, .iload_n 2, 1, 12, 0, .null, 0),
  (12, .iload_n 3, 1, 13, 0, .null, 0),
  (13, .iconst 1, 1, 14, 0, .int 1, 0),
  (14, .iload_n 2, 1, 15, 0, .null, 0),
  (15, .ishl, 1, 16, 0, .null, 0),
  (16, .invokevirtual 309, 3, 19, 0, .null, 0),
  (19, .return_, 1, 20, 0, .null, 0)])
set_option maxRecDepth 100000 in
theorem mN_findRoute_ok : xOK mN_findRoute = true := by decide +kernel
def mN_searchBack : XM := (⟨"ChannelNet", "searchBack", "(IIIII)V"⟩, prog_1_method_41_code, 9, (Option.none : Option FieldType), [], [
  (0, .iload_n 1, 1, 1, 0, .null, 0),
  (1, .iconst 5, 1, 2, 0, .int 5, 0),
  (2, .if_icmp .lt 4, 3, 5, 6, .null, 0),
  (5, .return_, 1, 6, 0, .null, 0),
  (6, .iconst 0, 1, 7, 0, .int 0, 0),
  (7, .istore 6, 2, 9, 0, .null, 0),
  (9, .iload 6, 2, 11, 0, .null, 0),
  (11, .aload_n 0, 1, 12, 0, .null, 0),
  (12, .getfield 36, 3, 15, 6, .ref 0, 108),
  (15, .invokevirtual 85, 3, 18, 0, .null, 0),
  (18, .if_icmp .ge 88, 3, 21, 106, .null, 0),
  (21, .aload_n 0, 1, 22, 0, .null, 0),
  (22, .getfield 36, 3, 25, 6, .ref 0, 108),
  (25, .iload 6, 2, 27, 0, .null, 0),
  (27, .invokevirtual 298, 3, 30, 0, .null, 0),
  (30, .checkcast 89, 3, 33, 0, .null, 0),
  (33, .astore 7, 2, 35, 0, .null, 0),
  (35, .aload 7, 2, 37, 0, .null, 0),
  (37, .iload_n 3, 1, 38, 0, .null, 0),
  (38, .invokevirtual 102, 3, 41, 0, .null, 0),
  (41, .ifCond .eq 59, 3, 44, 100, .null, 0),
  (44, .aload 7, 2, 46, 0, .null, 0),
  (46, .iload_n 3, 1, 47, 0, .null, 0),
  (47, .invokevirtual 313, 3, 50, 0, .null, 0),
  (50, .istore 8, 2, 52, 0, .null, 0),
  (52, .iload 5, 2, 54, 0, .null, 0),
  (54, .iload 8, 2, 56, 0, .null, 0),
  (56, .ishr, 1, 57, 0, .null, 0),
  (57, .iconst 1, 1, 58, 0, .int 1, 0),
  (58, .iand, 1, 59, 0, .null, 0),
  (59, .ifCond .ne 41, 3, 62, 100, .null, 0),
  (62, .aload 7, 2, 64, 0, .null, 0),
  (64, .iload 8, 2, 66, 0, .null, 0),
  (66, .iload 4, 2, 68, 0, .null, 0),
  (68, .invokevirtual 109, 3, 71, 0, .null, 0),
  (71, .ifCond .eq 29, 3, 74, 100, .null, 0),
  (74, .aload_n 0, 1, 75, 0, .null, 0),
  (75, .getfield 50, 3, 78, 9, .ref 0, 111),
  (78, .iload_n 1, 1, 79, 0, .null, 0),
  (79, .iload 6, 2, 81, 0, .null, 0),
  (81, .iload 8, 2, 83, 0, .null, 0),
  (83, .iload 4, 2, 85, 0, .null, 0),
  (85, .invokevirtual 316, 3, 88, 0, .null, 0),
  (88, .aload_n 0, 1, 89, 0, .null, 0),
  (89, .iload_n 1, 1, 90, 0, .null, 0),
  (90, .iload_n 2, 1, 91, 0, .null, 0),
  (91, .iload 8, 2, 93, 0, .null, 0),
  (93, .iload 4, 2, 95, 0, .null, 0),
  (95, .iload 5, 2, 97, 0, .null, 0),
  (97, .invokevirtual 319, 3, 100, 0, .null, 0),
  (100, .iinc 6 1, 3, 103, 0, .int 1, 0),
  (103, .goto (-94), 3, 106, 9, .null, 0),
  (106, .return_, 1, 107, 0, .null, 0)])
set_option maxRecDepth 100000 in
theorem mN_searchBack_ok : xOK mN_searchBack = true := by decide +kernel
def mN_goOnFrom : XM := (⟨"ChannelNet", "goOnFrom", "(IIIII)V"⟩, prog_1_method_42_code, 6, (Option.none : Option FieldType), [], [
  (0, .iload_n 3, 1, 1, 0, .null, 0),
  (1, .iload_n 2, 1, 2, 0, .null, 0),
  (2, .if_icmp .eq 31, 3, 5, 33, .null, 0),
  (5, .aload_n 0, 1, 6, 0, .null, 0),
  (6, .iload_n 1, 1, 7, 0, .null, 0),
  (7, .iconst 1, 1, 8, 0, .int 1, 0),
  (8, .iadd, 1, 9, 0, .null, 0),
  (9, .iload_n 2, 1, 10, 0, .null, 0),
  (10, .iload_n 3, 1, 11, 0, .null, 0),
  (11, .iload 4, 2, 13, 0, .null, 0),
  (13, .aload_n 0, 1, 14, 0, .null, 0),
  (14, .iload_n 3, 1, 15, 0, .null, 0),
  (15, .iload 4, 2, 17, 0, .null, 0),
  (17, .invokevirtual 322, 3, 20, 0, .null, 0),
  (20, .iadd, 1, 21, 0, .null, 0),
  (21, .iload 5, 2, 23, 0, .null, 0),
  (23, .iconst 1, 1, 24, 0, .int 1, 0),
  (24, .iload_n 3, 1, 25, 0, .null, 0),
  (25, .ishl, 1, 26, 0, .null, 0),
  (26, .ior, 1, 27, 0, .null, 0),
  (27, .invokevirtual 309, 3, 30, 0, .null, 0),
  (30, .goto 28, 3, 33, 58, .null, 0),
  (33, .aload_n 0, 1, 34, 0, .null, 0),
  (34, .getfield 50, 3, 37, 9, .ref 0, 111),
  (37, .aload_n 0, 1, 38, 0, .null, 0),
  (38, .getfield 46, 3, 41, 8, .ref 0, 110),
  (41, .invokevirtual 326, 3, 44, 0, .null, 0),
  (44, .ifCond .eq 14, 3, 47, 58, .null, 0),
  (47, .aload_n 0, 1, 48, 0, .null, 0),
  (48, .getfield 46, 3, 51, 8, .ref 0, 110),
  (51, .aload_n 0, 1, 52, 0, .null, 0),
  (52, .getfield 50, 3, 55, 9, .ref 0, 111),
  (55, .invokevirtual 330, 3, 58, 0, .null, 0),
  (58, .return_, 1, 59, 0, .null, 0)])
set_option maxRecDepth 100000 in
theorem mN_goOnFrom_ok : xOK mN_goOnFrom = true := by decide +kernel
def mN_feeOf : XM := (⟨"ChannelNet", "feeOf", "(II)I"⟩, prog_1_method_43_code, 3, (Option.some FieldType.int), [], [
  (0, .aload_n 0, 1, 1, 0, .null, 0),
  (1, .getfield 13, 3, 4, 1, .ref 0, 103),
  (4, .iload_n 1, 1, 5, 0, .null, 0),
  (5, .iaload, 1, 6, 0, .null, 0),
  (6, .iload_n 2, 1, 7, 0, .null, 0),
  (7, .i2l, 1, 8, 0, .null, 0),
  (8, .aload_n 0, 1, 9, 0, .null, 0),
  (9, .getfield 16, 3, 12, 2, .ref 0, 104),
  (12, .iload_n 1, 1, 13, 0, .null, 0),
  (13, .iaload, 1, 14, 0, .null, 0),
  (14, .i2l, 1, 15, 0, .null, 0),
  (15, .lmul, 1, 16, 0, .null, 0),
  (16, .ldc2_w 334, 3, 19, 0, .long 1000000, 600),
  (19, .ldiv, 1, 20, 0, .null, 0),
  (20, .l2i, 1, 21, 0, .null, 0),
  (21, .iadd, 1, 22, 0, .null, 0),
  (22, .ireturn, 1, 23, 0, .null, 0)])
set_option maxRecDepth 100000 in
theorem mN_feeOf_ok : xOK mN_feeOf = true := by decide +kernel
def mN_hop : XM := (⟨"ChannelNet", "hop", "(I)I"⟩, prog_1_method_18_code, 2, (Option.some FieldType.int), [], [
  (0, .iload_n 1, 1, 1, 0, .null, 0),
  (1, .iconst (-1), 1, 2, 0, .int (-1), 0),
  (2, .if_icmp .ne 11, 3, 5, 13, .null, 0),
  (5, .aload_n 0, 1, 6, 0, .null, 0),
  (6, .getfield 46, 3, 9, 8, .ref 0, 110),
  (9, .getfield 205, 3, 12, 3, .ref 3, 91),
  (12, .ireturn, 1, 13, 0, .null, 0),
  (13, .iload_n 1, 1, 14, 0, .null, 0),
  (14, .ifCond .lt 18, 3, 17, 32, .null, 0),
  (17, .iload_n 1, 1, 18, 0, .null, 0),
  (18, .aload_n 0, 1, 19, 0, .null, 0),
  (19, .getfield 46, 3, 22, 8, .ref 0, 110),
  (22, .getfield 205, 3, 25, 3, .ref 3, 91),
  (25, .if_icmp .ge 7, 3, 28, 32, .null, 0),
  (28, .iconst 1, 1, 29, 0, .int 1, 0),
  (29, .goto 4, 3, 32, 33, .null, 0),
  (32, .iconst 0, 1, 33, 0, .int 0, 0),
  (33, .invokestatic 106, 3, 36, 0, .null, 0),
  (36, .aload_n 0, 1, 37, 0, .null, 0),
  (37, .getfield 46, 3, 40, 8, .ref 0, 110),
  (40, .getfield 211, 3, 43, 0, .ref 3, 84),
  (43, .aload_n 0, 1, 44, 0, .null, 0),
  (44, .getfield 46, 3, 47, 8, .ref 0, 110),
  (47, .iload_n 1, 1, 48, 0, .null, 0),
  (48, .invokevirtual 213, 3, 51, 0, .null, 0),
  (51, .iaload, 1, 52, 0, .null, 0),
  (52, .ireturn, 1, 53, 0, .null, 0)])
set_option maxRecDepth 100000 in
theorem mN_hop_ok : xOK mN_hop = true := by decide +kernel
def mN_pay : XM := (⟨"ChannelNet", "pay", "(IIIJI)I"⟩, prog_1_method_19_code, 8, (Option.some FieldType.int), [], [
  (0, .iload_n 1, 1, 1, 0, .null, 0),
  (1, .iload_n 2, 1, 2, 0, .null, 0),
  (2, .iload_n 3, 1, 3, 0, .null, 0),
  (3, .invokestatic 198, 3, 6, 0, .null, 0),
  (6, .iload 6, 2, 8, 0, .null, 0),
  (8, .ifCond .lt 14, 3, 11, 22, .null, 0),
  (11, .iload 6, 2, 13, 0, .null, 0),
  (13, .ldc 216, 2, 15, 0, .int 1000000000, 634),
  (15, .if_icmp .gt 7, 3, 18, 22, .null, 0),
  (18, .iconst 1, 1, 19, 0, .int 1, 0),
  (19, .goto 4, 3, 22, 23, .null, 0),
  (22, .iconst 0, 1, 23, 0, .int 0, 0),
  (23, .invokestatic 62, 3, 26, 0, .null, 0),
  (26, .aload_n 0, 1, 27, 0, .null, 0),
  (27, .getfield 40, 3, 30, 7, .ref 0, 109),
  (30, .invokevirtual 85, 3, 33, 0, .null, 0),
  (33, .bipush 16, 2, 35, 0, .int 16, 0),
  (35, .if_icmp .ge 7, 3, 38, 42, .null, 0),
  (38, .iconst 1, 1, 39, 0, .int 1, 0),
  (39, .goto 4, 3, 42, 43, .null, 0),
  (42, .iconst 0, 1, 43, 0, .int 0, 0),
  (43, .invokestatic 74, 3, 46, 0, .null, 0),
  (46, .aload_n 0, 1, 47, 0, .null, 0),
  (47, .iload_n 1, 1, 48, 0, .null, 0),
  (48, .iload_n 2, 1, 49, 0, .null, 0),
  (49, .iload_n 3, 1, 50, 0, .null, 0),
  (50, .invokevirtual 202, 3, 53, 0, .null, 0),
  (53, .aload_n 0, 1, 54, 0, .null, 0),
  (54, .getfield 46, 3, 57, 8, .ref 0, 110),
  (57, .getfield 205, 3, 60, 3, .ref 3, 91),
  (60, .ifCond .ne 5, 3, 63, 65, .null, 0),
  (63, .iconst (-1), 1, 64, 0, .int (-1), 0),
  (64, .ireturn, 1, 65, 0, .null, 0),
  (65, .new 217, 3, 68, 0, .null, 0),
  (68, .dup, 1, 69, 0, .null, 0),
  (69, .aload_n 0, 1, 70, 0, .null, 0),
  (70, .getfield 46, 3, 73, 8, .ref 0, 110),
  (73, .iload_n 2, 1, 74, 0, .null, 0),
  (74, .lload 4, 2, 76, 0, .null, 0),
  (76, .invokespecial 219, 3, 79, 0, .null, 0),
  (79, .astore 7, 2, 81, 0, .null, 0),
  (81, .aload_n 0, 1, 82, 0, .null, 0),
  (82, .aload 7, 2, 84, 0, .null, 0),
  (84, .iload 6, 2, 86, 0, .null, 0),
  (86, .invokevirtual 222, 3, 89, 0, .null, 0),
  (89, .aload_n 0, 1, 90, 0, .null, 0),
  (90, .getfield 40, 3, 93, 7, .ref 0, 109),
  (93, .aload 7, 2, 95, 0, .null, 0),
  (95, .invokevirtual 94, 3, 98, 0, .null, 0),
  (98, .pop, 1, 99, 0, .null, 0),
  (99, .aload_n 0, 1, 100, 0, .null, 0),
  (100, .getfield 40, 3, 103, 7, .ref 0, 109),
  (103, .invokevirtual 85, 3, 106, 0, .null, 0),
  (106, .iconst 1, 1, 107, 0, .int 1, 0),
  (107, .isub, 1, 108, 0, .null, 0),
  (108, .ireturn, 1, 109, 0, .null, 0)])
set_option maxRecDepth 100000 in
theorem mN_pay_ok : xOK mN_pay = true := by decide +kernel
def mN_fixDeadlines : XM := (⟨"ChannelNet", "fixDeadlines", "(LChannelNet$Payment;I)V"⟩, prog_1_method_44_code, 5, (Option.none : Option FieldType), [], [
  (0, .iload_n 2, 1, 1, 0, .null, 0),
  (1, .istore_n 3, 1, 2, 0, .null, 0),
  (2, .aload_n 1, 1, 3, 0, .null, 0),
  (3, .getfield 238, 3, 6, 2, .ref 6, 647),
  (6, .iconst 1, 1, 7, 0, .int 1, 0),
  (7, .isub, 1, 8, 0, .null, 0),
  (8, .istore 4, 2, 10, 0, .null, 0),
  (10, .iload 4, 2, 12, 0, .null, 0),
  (12, .ifCond .lt 32, 3, 15, 44, .null, 0),
  (15, .aload_n 1, 1, 16, 0, .null, 0),
  (16, .getfield 336, 3, 19, 6, .ref 6, 655),
  (19, .iload 4, 2, 21, 0, .null, 0),
  (21, .iload_n 3, 1, 22, 0, .null, 0),
  (22, .iastore, 1, 23, 0, .null, 0),
  (23, .iload_n 3, 1, 24, 0, .null, 0),
  (24, .aload_n 0, 1, 25, 0, .null, 0),
  (25, .getfield 19, 3, 28, 3, .ref 0, 105),
  (28, .aload_n 1, 1, 29, 0, .null, 0),
  (29, .getfield 339, 3, 32, 4, .ref 6, 651),
  (32, .iload 4, 2, 34, 0, .null, 0),
  (34, .iaload, 1, 35, 0, .null, 0),
  (35, .iaload, 1, 36, 0, .null, 0),
  (36, .iadd, 1, 37, 0, .null, 0),
  (37, .istore_n 3, 1, 38, 0, .null, 0),
  (38, .iinc 4 (-1), 3, 41, 0, .int (-1), 0),
  (41, .goto (-31), 3, 44, 10, .null, 0),
  (44, .return_, 1, 45, 0, .null, 0)])
set_option maxRecDepth 100000 in
theorem mN_fixDeadlines_ok : xOK mN_fixDeadlines = true := by decide +kernel
def mN_step : XM := (⟨"ChannelNet", "step", "(I)I"⟩, prog_1_method_20_code, 3, (Option.some FieldType.int), [], [
  (0, .aload_n 0, 1, 1, 0, .null, 0),
  (1, .iload_n 1, 1, 2, 0, .null, 0),
  (2, .invokevirtual 226, 3, 5, 0, .null, 0),
  (5, .astore_n 2, 1, 6, 0, .null, 0),
  (6, .aload_n 2, 1, 7, 0, .null, 0),
  (7, .getfield 230, 3, 10, 8, .ref 6, 659),
  (10, .iconst 3, 1, 11, 0, .int 3, 0),
  (11, .if_icmp .eq 7, 3, 14, 18, .null, 0),
  (14, .iconst 1, 1, 15, 0, .int 1, 0),
  (15, .goto 4, 3, 18, 19, .null, 0),
  (18, .iconst 0, 1, 19, 0, .int 0, 0),
  (19, .invokestatic 74, 3, 22, 0, .null, 0),
  (22, .aload_n 2, 1, 23, 0, .null, 0),
  (23, .getfield 230, 3, 26, 8, .ref 6, 659),
  (26, .ifCond .eq 11, 3, 29, 37, .null, 0),
  (29, .aload_n 0, 1, 30, 0, .null, 0),
  (30, .aload_n 2, 1, 31, 0, .null, 0),
  (31, .invokevirtual 231, 3, 34, 0, .null, 0),
  (34, .goto 49, 3, 37, 83, .null, 0),
  (37, .aload_n 2, 1, 38, 0, .null, 0),
  (38, .getfield 235, 3, 41, 10, .ref 6, 663),
  (41, .aload_n 2, 1, 42, 0, .null, 0),
  (42, .getfield 238, 3, 45, 2, .ref 6, 647),
  (45, .if_icmp .ge 11, 3, 48, 56, .null, 0),
  (48, .aload_n 0, 1, 49, 0, .null, 0),
  (49, .aload_n 2, 1, 50, 0, .null, 0),
  (50, .invokevirtual 239, 3, 53, 0, .null, 0),
  (53, .goto 30, 3, 56, 83, .null, 0),
  (56, .aload_n 2, 1, 57, 0, .null, 0),
  (57, .aload_n 0, 1, 58, 0, .null, 0),
  (58, .getfield 29, 3, 61, 5, .ref 0, 107),
  (61, .aload_n 2, 1, 62, 0, .null, 0),
  (62, .getfield 242, 3, 65, 0, .ref 6, 643),
  (65, .aload_n 2, 1, 66, 0, .null, 0),
  (66, .getfield 245, 3, 69, 1, .ref 6, 645),
  (69, .invokevirtual 81, 3, 72, 0, .null, 0),
  (72, .ifCond .eq 7, 3, 75, 79, .null, 0),
  (75, .iconst 1, 1, 76, 0, .int 1, 0),
  (76, .goto 4, 3, 79, 80, .null, 0),
  (79, .iconst 2, 1, 80, 0, .int 2, 0),
  (80, .invokevirtual 246, 3, 83, 0, .null, 0),
  (83, .aload_n 2, 1, 84, 0, .null, 0),
  (84, .getfield 230, 3, 87, 8, .ref 6, 659),
  (87, .ireturn, 1, 88, 0, .null, 0)])
set_option maxRecDepth 100000 in
theorem mN_step_ok : xOK mN_step = true := by decide +kernel
def mN_paymentAt : XM := (⟨"ChannelNet", "paymentAt", "(I)LChannelNet$Payment;"⟩, prog_1_method_35_code, 2, (Option.some (FieldType.object "ChannelNet$Payment")), [], [
  (0, .iload_n 1, 1, 1, 0, .null, 0),
  (1, .ifCond .lt 18, 3, 4, 19, .null, 0),
  (4, .iload_n 1, 1, 5, 0, .null, 0),
  (5, .aload_n 0, 1, 6, 0, .null, 0),
  (6, .getfield 40, 3, 9, 7, .ref 0, 109),
  (9, .invokevirtual 85, 3, 12, 0, .null, 0),
  (12, .if_icmp .ge 7, 3, 15, 19, .null, 0),
  (15, .iconst 1, 1, 16, 0, .int 1, 0),
  (16, .goto 4, 3, 19, 20, .null, 0),
  (19, .iconst 0, 1, 20, 0, .int 0, 0),
  (20, .invokestatic 106, 3, 23, 0, .null, 0),
  (23, .aload_n 0, 1, 24, 0, .null, 0),
  (24, .getfield 40, 3, 27, 7, .ref 0, 109),
  (27, .iload_n 1, 1, 28, 0, .null, 0),
  (28, .invokevirtual 298, 3, 31, 0, .null, 0),
  (31, .checkcast 217, 3, 34, 0, .null, 0),
  (34, .areturn, 1, 35, 0, .null, 0)])
set_option maxRecDepth 100000 in
theorem mN_paymentAt_ok : xOK mN_paymentAt = true := by decide +kernel
def mN_stepBack : XM := (⟨"ChannelNet", "stepBack", "(LChannelNet$Payment;)V"⟩, prog_1_method_46_code, 5, (Option.none : Option FieldType), [], [
  (0, .aload_n 1, 1, 1, 0, .null, 0),
  (1, .getfield 348, 3, 4, 11, .ref 6, 665),
  (4, .iconst 1, 1, 5, 0, .int 1, 0),
  (5, .isub, 1, 6, 0, .null, 0),
  (6, .istore_n 2, 1, 7, 0, .null, 0),
  (7, .aload_n 0, 1, 8, 0, .null, 0),
  (8, .aload_n 1, 1, 9, 0, .null, 0),
  (9, .getfield 342, 3, 12, 3, .ref 6, 649),
  (12, .iload_n 2, 1, 13, 0, .null, 0),
  (13, .iaload, 1, 14, 0, .null, 0),
  (14, .invokevirtual 98, 3, 17, 0, .null, 0),
  (17, .astore_n 3, 1, 18, 0, .null, 0),
  (18, .aload_n 3, 1, 19, 0, .null, 0),
  (19, .aload_n 1, 1, 20, 0, .null, 0),
  (20, .getfield 346, 3, 23, 7, .ref 6, 657),
  (23, .iload_n 2, 1, 24, 0, .null, 0),
  (24, .iaload, 1, 25, 0, .null, 0),
  (25, .invokestatic 189, 3, 28, 0, .null, 0),
  (28, .astore 4, 2, 30, 0, .null, 0),
  (30, .aload_n 0, 1, 31, 0, .null, 0),
  (31, .aload_n 3, 1, 32, 0, .null, 0),
  (32, .aload 4, 2, 34, 0, .null, 0),
  (34, .aload_n 1, 1, 35, 0, .null, 0),
  (35, .getfield 249, 3, 38, 9, .ref 6, 661),
  (38, .invokevirtual 351, 3, 41, 0, .null, 0),
  (41, .ifCond .eq 31, 3, 44, 72, .null, 0),
  (44, .aload_n 3, 1, 45, 0, .null, 0),
  (45, .invokevirtual 113, 3, 48, 0, .null, 0),
  (48, .invokestatic 74, 3, 51, 0, .null, 0),
  (51, .aload_n 0, 1, 52, 0, .null, 0),
  (52, .aload_n 3, 1, 53, 0, .null, 0),
  (53, .aload 4, 2, 55, 0, .null, 0),
  (55, .aload_n 1, 1, 56, 0, .null, 0),
  (56, .getfield 249, 3, 59, 9, .ref 6, 661),
  (59, .invokevirtual 355, 3, 62, 0, .null, 0),
  (62, .aload_n 1, 1, 63, 0, .null, 0),
  (63, .dup, 1, 64, 0, .null, 0),
  (64, .getfield 252, 3, 67, 12, .ref 6, 667),
  (67, .iconst 1, 1, 68, 0, .int 1, 0),
  (68, .iadd, 1, 69, 0, .null, 0),
  (69, .putfield 252, 3, 72, 12, .ref 6, 667),
  (72, .aload_n 1, 1, 73, 0, .null, 0),
  (73, .invokevirtual 358, 3, 76, 0, .null, 0),
  (76, .return_, 1, 77, 0, .null, 0)])
set_option maxRecDepth 100000 in
theorem mN_stepBack_ok : xOK mN_stepBack = true := by decide +kernel
def mN_canEnd : XM := (⟨"ChannelNet", "canEnd", "(LChannelNet$Channel;LChannelNet$Promise;I)Z"⟩, prog_1_method_47_code, 4, (Option.some FieldType.boolean), [], [
  (0, .aload_n 1, 1, 1, 0, .null, 0),
  (1, .getfield 131, 3, 4, 6, .ref 4, 300),
  (4, .ifCond .ne 34, 3, 7, 38, .null, 0),
  (7, .aload_n 2, 1, 8, 0, .null, 0),
  (8, .aload_n 1, 1, 9, 0, .null, 0),
  (9, .getfield 147, 3, 12, 5, .ref 4, 298),
  (12, .invokevirtual 195, 3, 15, 0, .null, 0),
  (15, .ifCond .eq 23, 3, 18, 38, .null, 0),
  (18, .iload_n 3, 1, 19, 0, .null, 0),
  (19, .iconst 2, 1, 20, 0, .int 2, 0),
  (20, .if_icmp .eq 14, 3, 23, 34, .null, 0),
  (23, .aload_n 2, 1, 24, 0, .null, 0),
  (24, .getfield 134, 3, 27, 4, .ref 5, 506),
  (27, .aload_n 0, 1, 28, 0, .null, 0),
  (28, .getfield 53, 3, 31, 10, .ref 0, 112),
  (31, .if_icmp .le 7, 3, 34, 38, .null, 0),
  (34, .iconst 1, 1, 35, 0, .int 1, 0),
  (35, .goto 4, 3, 38, 39, .null, 0),
  (38, .iconst 0, 1, 39, 0, .int 0, 0),
  (39, .ireturn, 1, 40, 0, .null, 0)])
set_option maxRecDepth 100000 in
theorem mN_canEnd_ok : xOK mN_canEnd = true := by decide +kernel
def mN_endAs : XM := (⟨"ChannelNet", "endAs", "(LChannelNet$Channel;LChannelNet$Promise;I)V"⟩, prog_1_method_48_code, 4, (Option.none : Option FieldType), [], [
  (0, .iload_n 3, 1, 1, 0, .null, 0),
  (1, .iconst 1, 1, 2, 0, .int 1, 0),
  (2, .if_icmp .ne 32, 3, 5, 34, .null, 0),
  (5, .aload_n 1, 1, 6, 0, .null, 0),
  (6, .aload_n 2, 1, 7, 0, .null, 0),
  (7, .aload_n 2, 1, 8, 0, .null, 0),
  (8, .getfield 137, 3, 11, 1, .ref 5, 499),
  (11, .invokevirtual 140, 3, 14, 0, .null, 0),
  (14, .aload_n 0, 1, 15, 0, .null, 0),
  (15, .getfield 29, 3, 18, 5, .ref 0, 107),
  (18, .aload_n 2, 1, 19, 0, .null, 0),
  (19, .getfield 125, 3, 22, 3, .ref 5, 504),
  (22, .iconst 1, 1, 23, 0, .int 1, 0),
  (23, .aload_n 2, 1, 24, 0, .null, 0),
  (24, .getfield 144, 3, 27, 0, .ref 5, 497),
  (27, .ishl, 1, 28, 0, .null, 0),
  (28, .invokevirtual 77, 3, 31, 0, .null, 0),
  (31, .goto 12, 3, 34, 43, .null, 0),
  (34, .aload_n 1, 1, 35, 0, .null, 0),
  (35, .aload_n 2, 1, 36, 0, .null, 0),
  (36, .aload_n 2, 1, 37, 0, .null, 0),
  (37, .getfield 144, 3, 40, 0, .ref 5, 497),
  (40, .invokevirtual 140, 3, 43, 0, .null, 0),
  (43, .return_, 1, 44, 0, .null, 0)])
set_option maxRecDepth 100000 in
theorem mN_endAs_ok : xOK mN_endAs = true := by decide +kernel
def mN_stepForward : XM := (⟨"ChannelNet", "stepForward", "(LChannelNet$Payment;)V"⟩, prog_1_method_45_code, 6, (Option.none : Option FieldType), [], [
  (0, .aload_n 1, 1, 1, 0, .null, 0),
  (1, .getfield 235, 3, 4, 10, .ref 6, 663),
  (4, .istore_n 2, 1, 5, 0, .null, 0),
  (5, .aload_n 0, 1, 6, 0, .null, 0),
  (6, .aload_n 1, 1, 7, 0, .null, 0),
  (7, .getfield 342, 3, 10, 3, .ref 6, 649),
  (10, .iload_n 2, 1, 11, 0, .null, 0),
  (11, .iaload, 1, 12, 0, .null, 0),
  (12, .invokevirtual 98, 3, 15, 0, .null, 0),
  (15, .astore_n 3, 1, 16, 0, .null, 0),
  (16, .aload_n 1, 1, 17, 0, .null, 0),
  (17, .getfield 339, 3, 20, 4, .ref 6, 651),
  (20, .iload_n 2, 1, 21, 0, .null, 0),
  (21, .iaload, 1, 22, 0, .null, 0),
  (22, .istore 4, 2, 24, 0, .null, 0),
  (24, .aload_n 1, 1, 25, 0, .null, 0),
  (25, .getfield 343, 3, 28, 5, .ref 6, 653),
  (28, .iload_n 2, 1, 29, 0, .null, 0),
  (29, .iaload, 1, 30, 0, .null, 0),
  (30, .istore 5, 2, 32, 0, .null, 0),
  (32, .aload_n 3, 1, 33, 0, .null, 0),
  (33, .iload 4, 2, 35, 0, .null, 0),
  (35, .iload 5, 2, 37, 0, .null, 0),
  (37, .invokevirtual 109, 3, 40, 0, .null, 0),
  (40, .ifCond .eq 16, 3, 43, 56, .null, 0),
  (43, .aload_n 1, 1, 44, 0, .null, 0),
  (44, .getfield 336, 3, 47, 6, .ref 6, 655),
  (47, .iload_n 2, 1, 48, 0, .null, 0),
  (48, .iaload, 1, 49, 0, .null, 0),
  (49, .aload_n 0, 1, 50, 0, .null, 0),
  (50, .getfield 53, 3, 53, 10, .ref 0, 112),
  (53, .if_icmp .gt 9, 3, 56, 62, .null, 0),
  (56, .aload_n 1, 1, 57, 0, .null, 0),
  (57, .iconst 2, 1, 58, 0, .int 2, 0),
  (58, .invokevirtual 246, 3, 61, 0, .null, 0),
  (61, .return_, 1, 62, 0, .null, 0),
  (62, .aload_n 3, 1, 63, 0, .null, 0),
  (63, .invokevirtual 113, 3, 66, 0, .null, 0),
  (66, .invokestatic 74, 3, 69, 0, .null, 0),
  (69, .aload_n 1, 1, 70, 0, .null, 0),
  (70, .getfield 346, 3, 73, 7, .ref 6, 657),
  (73, .iload_n 2, 1, 74, 0, .null, 0),
  (74, .aload_n 3, 1, 75, 0, .null, 0),
  (75, .iload 4, 2, 77, 0, .null, 0),
  (77, .iload 5, 2, 79, 0, .null, 0),
  (79, .aload_n 1, 1, 80, 0, .null, 0),
  (80, .getfield 245, 3, 83, 1, .ref 6, 645),
  (83, .aload_n 1, 1, 84, 0, .null, 0),
  (84, .getfield 336, 3, 87, 6, .ref 6, 655),
  (87, .iload_n 2, 1, 88, 0, .null, 0),
  (88, .iaload, 1, 89, 0, .null, 0),
  (89, .invokevirtual 117, 3, 92, 0, .null, 0),
  (92, .iastore, 1, 93, 0, .null, 0),
  (93, .aload_n 1, 1, 94, 0, .null, 0),
  (94, .dup, 1, 95, 0, .null, 0),
  (95, .getfield 235, 3, 98, 10, .ref 6, 663),
  (98, .iconst 1, 1, 99, 0, .int 1, 0),
  (99, .iadd, 1, 100, 0, .null, 0),
  (100, .putfield 235, 3, 103, 10, .ref 6, 663),
  (103, .return_, 1, 104, 0, .null, 0)])
set_option maxRecDepth 100000 in
theorem mN_stepForward_ok : xOK mN_stepForward = true := by decide +kernel
def mN_payment : XM := (⟨"ChannelNet", "payment", "(II)I"⟩, prog_1_method_21_code, 4, (Option.some FieldType.int), [], [
  (0, .aload_n 0, 1, 1, 0, .null, 0),
  (1, .iload_n 1, 1, 2, 0, .null, 0),
  (2, .invokevirtual 226, 3, 5, 0, .null, 0),
  (5, .astore_n 3, 1, 6, 0, .null, 0),
  (6, .iload_n 2, 1, 7, 0, .null, 0),
  (7, .tableswitch 49 0 3 #[29, 34, 39, 44], 29, 36, 0, .null, 0),
  (36, .aload_n 3, 1, 37, 0, .null, 0),
  (37, .getfield 230, 3, 40, 8, .ref 6, 659),
  (40, .ireturn, 1, 41, 0, .null, 0),
  (41, .aload_n 3, 1, 42, 0, .null, 0),
  (42, .getfield 249, 3, 45, 9, .ref 6, 661),
  (45, .ireturn, 1, 46, 0, .null, 0),
  (46, .aload_n 3, 1, 47, 0, .null, 0),
  (47, .getfield 235, 3, 50, 10, .ref 6, 663),
  (50, .ireturn, 1, 51, 0, .null, 0),
  (51, .aload_n 3, 1, 52, 0, .null, 0),
  (52, .getfield 252, 3, 55, 12, .ref 6, 667),
  (55, .ireturn, 1, 56, 0, .null, 0),
  (56, .new 170, 3, 59, 0, .null, 0),
  (59, .dup, 1, 60, 0, .null, 0),
  (60, .ldc 172, 2, 62, 0, .null, 0),
  (62, .invokespecial 174, 3, 65, 0, .null, 0),
  (65, .athrow, 1, 66, 0, .null, 0)])
set_option maxRecDepth 100000 in
theorem mN_payment_ok : xOK mN_payment = true := by decide +kernel
def mN_publish : XM := (⟨"ChannelNet", "publish", "(III)V"⟩, prog_1_method_22_code, 5, (Option.none : Option FieldType), [], [
  (0, .aload_n 0, 1, 1, 0, .null, 0),
  (1, .iload_n 1, 1, 2, 0, .null, 0),
  (2, .invokevirtual 98, 3, 5, 0, .null, 0),
  (5, .astore 4, 2, 7, 0, .null, 0),
  (7, .aload 4, 2, 9, 0, .null, 0),
  (9, .iload_n 2, 1, 10, 0, .null, 0),
  (10, .invokevirtual 102, 3, 13, 0, .null, 0),
  (13, .invokestatic 106, 3, 16, 0, .null, 0),
  (16, .aload 4, 2, 18, 0, .null, 0),
  (18, .iload_n 3, 1, 19, 0, .null, 0),
  (19, .invokevirtual 177, 3, 22, 0, .null, 0),
  (22, .invokestatic 106, 3, 25, 0, .null, 0),
  (25, .aload 4, 2, 27, 0, .null, 0),
  (27, .getfield 131, 3, 30, 6, .ref 4, 300),
  (30, .ifCond .ne 7, 3, 33, 37, .null, 0),
  (33, .iconst 1, 1, 34, 0, .int 1, 0),
  (34, .goto 4, 3, 37, 38, .null, 0),
  (37, .iconst 0, 1, 38, 0, .int 0, 0),
  (38, .invokestatic 74, 3, 41, 0, .null, 0),
  (41, .aload 4, 2, 43, 0, .null, 0),
  (43, .iconst 1, 1, 44, 0, .int 1, 0),
  (44, .putfield 131, 3, 47, 6, .ref 4, 300),
  (47, .aload 4, 2, 49, 0, .null, 0),
  (49, .iload_n 2, 1, 50, 0, .null, 0),
  (50, .putfield 255, 3, 53, 8, .ref 4, 304),
  (53, .aload 4, 2, 55, 0, .null, 0),
  (55, .iload_n 3, 1, 56, 0, .null, 0),
  (56, .putfield 158, 3, 59, 9, .ref 4, 306),
  (59, .aload 4, 2, 61, 0, .null, 0),
  (61, .aload_n 0, 1, 62, 0, .null, 0),
  (62, .getfield 53, 3, 65, 10, .ref 0, 112),
  (65, .putfield 161, 3, 68, 10, .ref 4, 308),
  (68, .return_, 1, 69, 0, .null, 0)])
set_option maxRecDepth 100000 in
theorem mN_publish_ok : xOK mN_publish = true := by decide +kernel
def mN_punish : XM := (⟨"ChannelNet", "punish", "(I)I"⟩, prog_1_method_23_code, 3, (Option.some FieldType.int), [], [
  (0, .aload_n 0, 1, 1, 0, .null, 0),
  (1, .iload_n 1, 1, 2, 0, .null, 0),
  (2, .invokevirtual 98, 3, 5, 0, .null, 0),
  (5, .astore_n 2, 1, 6, 0, .null, 0),
  (6, .aload_n 2, 1, 7, 0, .null, 0),
  (7, .aload_n 0, 1, 8, 0, .null, 0),
  (8, .getfield 53, 3, 11, 10, .ref 0, 112),
  (11, .invokevirtual 258, 3, 14, 0, .null, 0),
  (14, .invokestatic 74, 3, 17, 0, .null, 0),
  (17, .aload_n 0, 1, 18, 0, .null, 0),
  (18, .aload_n 2, 1, 19, 0, .null, 0),
  (19, .invokevirtual 261, 3, 22, 0, .null, 0),
  (22, .aload_n 0, 1, 23, 0, .null, 0),
  (23, .getfield 9, 3, 26, 0, .ref 0, 102),
  (26, .aload_n 2, 1, 27, 0, .null, 0),
  (27, .invokevirtual 265, 3, 30, 0, .null, 0),
  (30, .iaload, 1, 31, 0, .null, 0),
  (31, .ireturn, 1, 32, 0, .null, 0)])
set_option maxRecDepth 100000 in
theorem mN_punish_ok : xOK mN_punish = true := by decide +kernel
def mN_payPunisher : XM := (⟨"ChannelNet", "payPunisher", "(LChannelNet$Channel;)V"⟩, prog_1_method_50_code, 2, (Option.none : Option FieldType), [], [
  (0, .aload_n 0, 1, 1, 0, .null, 0),
  (1, .getfield 9, 3, 4, 0, .ref 0, 102),
  (4, .aload_n 1, 1, 5, 0, .null, 0),
  (5, .invokevirtual 265, 3, 8, 0, .null, 0),
  (8, .dup2, 1, 9, 0, .null, 0),
  (9, .iaload, 1, 10, 0, .null, 0),
  (10, .aload_n 1, 1, 11, 0, .null, 0),
  (11, .getfield 164, 3, 14, 7, .ref 4, 302),
  (14, .iadd, 1, 15, 0, .null, 0),
  (15, .iastore, 1, 16, 0, .null, 0),
  (16, .aload_n 1, 1, 17, 0, .null, 0),
  (17, .iconst 0, 1, 18, 0, .int 0, 0),
  (18, .putfield 164, 3, 21, 7, .ref 4, 302),
  (21, .aload_n 1, 1, 22, 0, .null, 0),
  (22, .iconst 2, 1, 23, 0, .int 2, 0),
  (23, .putfield 131, 3, 26, 6, .ref 4, 300),
  (26, .return_, 1, 27, 0, .null, 0)])
set_option maxRecDepth 100000 in
theorem mN_payPunisher_ok : xOK mN_payPunisher = true := by decide +kernel
def mN_claim : XM := (⟨"ChannelNet", "claim", "(IIJ)I"⟩, prog_1_method_24_code, 9, (Option.some FieldType.int), [], [
  (0, .aload_n 0, 1, 1, 0, .null, 0),
  (1, .iload_n 1, 1, 2, 0, .null, 0),
  (2, .invokevirtual 98, 3, 5, 0, .null, 0),
  (5, .astore 5, 2, 7, 0, .null, 0),
  (7, .aload 5, 2, 9, 0, .null, 0),
  (9, .iload_n 2, 1, 10, 0, .null, 0),
  (10, .invokestatic 268, 3, 13, 0, .null, 0),
  (13, .astore 6, 2, 15, 0, .null, 0),
  (15, .lload_n 3, 1, 16, 0, .null, 0),
  (16, .invokestatic 66, 3, 19, 0, .null, 0),
  (19, .lstore 7, 2, 21, 0, .null, 0),
  (21, .aload 6, 2, 23, 0, .null, 0),
  (23, .getfield 125, 3, 26, 3, .ref 5, 504),
  (26, .lload 7, 2, 28, 0, .null, 0),
  (28, .lcmp, 1, 29, 0, .null, 0),
  (29, .ifCond .ne 7, 3, 32, 36, .null, 0),
  (32, .iconst 1, 1, 33, 0, .int 1, 0),
  (33, .goto 4, 3, 36, 37, .null, 0),
  (36, .iconst 0, 1, 37, 0, .int 0, 0),
  (37, .invokestatic 62, 3, 40, 0, .null, 0),
  (40, .aload 5, 2, 42, 0, .null, 0),
  (42, .getfield 131, 3, 45, 6, .ref 4, 300),
  (45, .iconst 1, 1, 46, 0, .int 1, 0),
  (46, .if_icmp .ne 19, 3, 49, 65, .null, 0),
  (49, .aload 5, 2, 51, 0, .null, 0),
  (51, .aload_n 0, 1, 52, 0, .null, 0),
  (52, .getfield 53, 3, 55, 10, .ref 0, 112),
  (55, .invokevirtual 258, 3, 58, 0, .null, 0),
  (58, .ifCond .ne 7, 3, 61, 65, .null, 0),
  (61, .iconst 1, 1, 62, 0, .int 1, 0),
  (62, .goto 4, 3, 65, 66, .null, 0),
  (65, .iconst 0, 1, 66, 0, .int 0, 0),
  (66, .invokestatic 74, 3, 69, 0, .null, 0),
  (69, .aload 6, 2, 71, 0, .null, 0),
  (71, .getfield 134, 3, 74, 4, .ref 5, 506),
  (74, .aload_n 0, 1, 75, 0, .null, 0),
  (75, .getfield 53, 3, 78, 10, .ref 0, 112),
  (78, .if_icmp .le 7, 3, 81, 85, .null, 0),
  (81, .iconst 1, 1, 82, 0, .int 1, 0),
  (82, .goto 4, 3, 85, 86, .null, 0),
  (85, .iconst 0, 1, 86, 0, .int 0, 0),
  (86, .invokestatic 74, 3, 89, 0, .null, 0),
  (89, .aload_n 0, 1, 90, 0, .null, 0),
  (90, .getfield 29, 3, 93, 5, .ref 0, 107),
  (93, .lload 7, 2, 95, 0, .null, 0),
  (95, .invokevirtual 70, 3, 98, 0, .null, 0),
  (98, .invokestatic 74, 3, 101, 0, .null, 0),
  (101, .aload_n 0, 1, 102, 0, .null, 0),
  (102, .getfield 29, 3, 105, 5, .ref 0, 107),
  (105, .lload 7, 2, 107, 0, .null, 0),
  (107, .bipush 63, 2, 109, 0, .int 63, 0),
  (109, .invokevirtual 77, 3, 112, 0, .null, 0),
  (112, .aload_n 0, 1, 113, 0, .null, 0),
  (113, .aload 5, 2, 115, 0, .null, 0),
  (115, .aload 6, 2, 117, 0, .null, 0),
  (117, .aload 6, 2, 119, 0, .null, 0),
  (119, .getfield 137, 3, 122, 1, .ref 5, 499),
  (122, .invokevirtual 271, 3, 125, 0, .null, 0),
  (125, .aload_n 0, 1, 126, 0, .null, 0),
  (126, .getfield 9, 3, 129, 0, .ref 0, 102),
  (129, .aload 6, 2, 131, 0, .null, 0),
  (131, .getfield 137, 3, 134, 1, .ref 5, 499),
  (134, .iaload, 1, 135, 0, .null, 0),
  (135, .ireturn, 1, 136, 0, .null, 0)])
set_option maxRecDepth 100000 in
theorem mN_claim_ok : xOK mN_claim = true := by decide +kernel
def mN_ledgerPromise : XM := (⟨"ChannelNet", "ledgerPromise", "(LChannelNet$Channel;I)LChannelNet$Promise;"⟩, prog_1_method_38_code, 3, (Option.some (FieldType.object "ChannelNet$Promise")), [], [
  (0, .aload_n 0, 1, 1, 0, .null, 0),
  (1, .iload_n 1, 1, 2, 0, .null, 0),
  (2, .invokestatic 189, 3, 5, 0, .null, 0),
  (5, .astore_n 2, 1, 6, 0, .null, 0),
  (6, .aload_n 0, 1, 7, 0, .null, 0),
  (7, .getfield 158, 3, 10, 9, .ref 4, 306),
  (10, .iconst (-1), 1, 11, 0, .int (-1), 0),
  (11, .if_icmp .eq 21, 3, 14, 32, .null, 0),
  (14, .aload_n 2, 1, 15, 0, .null, 0),
  (15, .aload_n 0, 1, 16, 0, .null, 0),
  (16, .getfield 158, 3, 19, 9, .ref 4, 306),
  (19, .invokevirtual 195, 3, 22, 0, .null, 0),
  (22, .ifCond .eq 14, 3, 25, 36, .null, 0),
  (25, .aload_n 2, 1, 26, 0, .null, 0),
  (26, .getfield 302, 3, 29, 7, .ref 5, 511),
  (29, .ifCond .ne 7, 3, 32, 36, .null, 0),
  (32, .iconst 1, 1, 33, 0, .int 1, 0),
  (33, .goto 4, 3, 36, 37, .null, 0),
  (36, .iconst 0, 1, 37, 0, .int 0, 0),
  (37, .invokestatic 106, 3, 40, 0, .null, 0),
  (40, .aload_n 2, 1, 41, 0, .null, 0),
  (41, .areturn, 1, 42, 0, .null, 0)])
set_option maxRecDepth 100000 in
theorem mN_ledgerPromise_ok : xOK mN_ledgerPromise = true := by decide +kernel
def mN_payPromise : XM := (⟨"ChannelNet", "payPromise", "(LChannelNet$Channel;LChannelNet$Promise;I)V"⟩, prog_1_method_52_code, 4, (Option.none : Option FieldType), [], [
  (0, .aload_n 0, 1, 1, 0, .null, 0),
  (1, .getfield 9, 3, 4, 0, .ref 0, 102),
  (4, .iload_n 3, 1, 5, 0, .null, 0),
  (5, .dup2, 1, 6, 0, .null, 0),
  (6, .iaload, 1, 7, 0, .null, 0),
  (7, .aload_n 2, 1, 8, 0, .null, 0),
  (8, .getfield 192, 3, 11, 2, .ref 5, 502),
  (11, .iadd, 1, 12, 0, .null, 0),
  (12, .iastore, 1, 13, 0, .null, 0),
  (13, .aload_n 1, 1, 14, 0, .null, 0),
  (14, .dup, 1, 15, 0, .null, 0),
  (15, .getfield 164, 3, 18, 7, .ref 4, 302),
  (18, .aload_n 2, 1, 19, 0, .null, 0),
  (19, .getfield 192, 3, 22, 2, .ref 5, 502),
  (22, .isub, 1, 23, 0, .null, 0),
  (23, .putfield 164, 3, 26, 7, .ref 4, 302),
  (26, .aload_n 2, 1, 27, 0, .null, 0),
  (27, .iconst 1, 1, 28, 0, .int 1, 0),
  (28, .putfield 302, 3, 31, 7, .ref 5, 511),
  (31, .aload_n 1, 1, 32, 0, .null, 0),
  (32, .invokevirtual 279, 3, 35, 0, .null, 0),
  (35, .return_, 1, 36, 0, .null, 0)])
set_option maxRecDepth 100000 in
theorem mN_payPromise_ok : xOK mN_payPromise = true := by decide +kernel
def mN_takeBack : XM := (⟨"ChannelNet", "takeBack", "(II)I"⟩, prog_1_method_25_code, 5, (Option.some FieldType.int), [], [
  (0, .aload_n 0, 1, 1, 0, .null, 0),
  (1, .iload_n 1, 1, 2, 0, .null, 0),
  (2, .invokevirtual 98, 3, 5, 0, .null, 0),
  (5, .astore_n 3, 1, 6, 0, .null, 0),
  (6, .aload_n 3, 1, 7, 0, .null, 0),
  (7, .iload_n 2, 1, 8, 0, .null, 0),
  (8, .invokestatic 268, 3, 11, 0, .null, 0),
  (11, .astore 4, 2, 13, 0, .null, 0),
  (13, .aload_n 3, 1, 14, 0, .null, 0),
  (14, .getfield 131, 3, 17, 6, .ref 4, 300),
  (17, .iconst 1, 1, 18, 0, .int 1, 0),
  (18, .if_icmp .ne 18, 3, 21, 36, .null, 0),
  (21, .aload_n 3, 1, 22, 0, .null, 0),
  (22, .aload_n 0, 1, 23, 0, .null, 0),
  (23, .getfield 53, 3, 26, 10, .ref 0, 112),
  (26, .invokevirtual 258, 3, 29, 0, .null, 0),
  (29, .ifCond .ne 7, 3, 32, 36, .null, 0),
  (32, .iconst 1, 1, 33, 0, .int 1, 0),
  (33, .goto 4, 3, 36, 37, .null, 0),
  (36, .iconst 0, 1, 37, 0, .int 0, 0),
  (37, .invokestatic 74, 3, 40, 0, .null, 0),
  (40, .aload 4, 2, 42, 0, .null, 0),
  (42, .getfield 134, 3, 45, 4, .ref 5, 506),
  (45, .aload_n 0, 1, 46, 0, .null, 0),
  (46, .getfield 53, 3, 49, 10, .ref 0, 112),
  (49, .if_icmp .gt 7, 3, 52, 56, .null, 0),
  (52, .iconst 1, 1, 53, 0, .int 1, 0),
  (53, .goto 4, 3, 56, 57, .null, 0),
  (56, .iconst 0, 1, 57, 0, .int 0, 0),
  (57, .invokestatic 74, 3, 60, 0, .null, 0),
  (60, .aload_n 0, 1, 61, 0, .null, 0),
  (61, .aload_n 3, 1, 62, 0, .null, 0),
  (62, .aload 4, 2, 64, 0, .null, 0),
  (64, .aload 4, 2, 66, 0, .null, 0),
  (66, .getfield 144, 3, 69, 0, .ref 5, 497),
  (69, .invokevirtual 271, 3, 72, 0, .null, 0),
  (72, .aload_n 0, 1, 73, 0, .null, 0),
  (73, .getfield 9, 3, 76, 0, .ref 0, 102),
  (76, .aload 4, 2, 78, 0, .null, 0),
  (78, .getfield 144, 3, 81, 0, .ref 5, 497),
  (81, .iaload, 1, 82, 0, .null, 0),
  (82, .ireturn, 1, 83, 0, .null, 0)])
set_option maxRecDepth 100000 in
theorem mN_takeBack_ok : xOK mN_takeBack = true := by decide +kernel
def mN_settle : XM := (⟨"ChannelNet", "settle", "(I)I"⟩, prog_1_method_26_code, 3, (Option.some FieldType.int), [], [
  (0, .aload_n 0, 1, 1, 0, .null, 0),
  (1, .iload_n 1, 1, 2, 0, .null, 0),
  (2, .invokevirtual 98, 3, 5, 0, .null, 0),
  (5, .astore_n 2, 1, 6, 0, .null, 0),
  (6, .aload_n 2, 1, 7, 0, .null, 0),
  (7, .getfield 131, 3, 10, 6, .ref 4, 300),
  (10, .iconst 1, 1, 11, 0, .int 1, 0),
  (11, .if_icmp .ne 14, 3, 14, 25, .null, 0),
  (14, .aload_n 2, 1, 15, 0, .null, 0),
  (15, .getfield 275, 3, 18, 11, .ref 4, 310),
  (18, .ifCond .ne 7, 3, 21, 25, .null, 0),
  (21, .iconst 1, 1, 22, 0, .int 1, 0),
  (22, .goto 4, 3, 25, 26, .null, 0),
  (25, .iconst 0, 1, 26, 0, .int 0, 0),
  (26, .invokestatic 74, 3, 29, 0, .null, 0),
  (29, .aload_n 0, 1, 30, 0, .null, 0),
  (30, .getfield 53, 3, 33, 10, .ref 0, 112),
  (33, .aload_n 2, 1, 34, 0, .null, 0),
  (34, .getfield 161, 3, 37, 10, .ref 4, 308),
  (37, .bipush 10, 2, 39, 0, .int 10, 0),
  (39, .iadd, 1, 40, 0, .null, 0),
  (40, .if_icmp .lt 7, 3, 43, 47, .null, 0),
  (43, .iconst 1, 1, 44, 0, .int 1, 0),
  (44, .goto 4, 3, 47, 48, .null, 0),
  (47, .iconst 0, 1, 48, 0, .int 0, 0),
  (48, .invokestatic 74, 3, 51, 0, .null, 0),
  (51, .aload_n 0, 1, 52, 0, .null, 0),
  (52, .aload_n 2, 1, 53, 0, .null, 0),
  (53, .aload_n 2, 1, 54, 0, .null, 0),
  (54, .getfield 158, 3, 57, 9, .ref 4, 306),
  (57, .invokevirtual 154, 3, 60, 0, .null, 0),
  (60, .aload_n 2, 1, 61, 0, .null, 0),
  (61, .iconst 1, 1, 62, 0, .int 1, 0),
  (62, .putfield 275, 3, 65, 11, .ref 4, 310),
  (65, .aload_n 2, 1, 66, 0, .null, 0),
  (66, .invokevirtual 279, 3, 69, 0, .null, 0),
  (69, .aload_n 2, 1, 70, 0, .null, 0),
  (70, .getfield 131, 3, 73, 6, .ref 4, 300),
  (73, .ireturn, 1, 74, 0, .null, 0)])
set_option maxRecDepth 100000 in
theorem mN_settle_ok : xOK mN_settle = true := by decide +kernel
def mN_watch : XM := (⟨"ChannelNet", "watch", "(IZ)V"⟩, prog_1_method_6_code, 3, (Option.none : Option FieldType), [], [
  (0, .iload_n 1, 1, 1, 0, .null, 0),
  (1, .invokestatic 58, 3, 4, 0, .null, 0),
  (4, .aload_n 0, 1, 5, 0, .null, 0),
  (5, .getfield 22, 3, 8, 4, .ref 0, 106),
  (8, .iload_n 1, 1, 9, 0, .null, 0),
  (9, .iload_n 2, 1, 10, 0, .null, 0),
  (10, .bastore, 1, 11, 0, .null, 0),
  (11, .return_, 1, 12, 0, .null, 0)])
set_option maxRecDepth 100000 in
theorem mN_watch_ok : xOK mN_watch = true := by decide +kernel
def mN_grow : XM := (⟨"ChannelNet", "grow", "(I)I"⟩, prog_1_method_27_code, 4, (Option.some FieldType.int), [], [
  (0, .iload_n 1, 1, 1, 0, .null, 0),
  (1, .ifCond .lt 14, 3, 4, 15, .null, 0),
  (4, .iload_n 1, 1, 5, 0, .null, 0),
  (5, .sipush 1000, 3, 8, 0, .int 1000, 0),
  (8, .if_icmp .gt 7, 3, 11, 15, .null, 0),
  (11, .iconst 1, 1, 12, 0, .int 1, 0),
  (12, .goto 4, 3, 15, 16, .null, 0),
  (15, .iconst 0, 1, 16, 0, .int 0, 0),
  (16, .invokestatic 62, 3, 19, 0, .null, 0),
  (19, .iconst 0, 1, 20, 0, .int 0, 0),
  (20, .istore_n 2, 1, 21, 0, .null, 0),
  (21, .iconst 0, 1, 22, 0, .int 0, 0),
  (22, .istore_n 3, 1, 23, 0, .null, 0),
  (23, .iload_n 3, 1, 24, 0, .null, 0),
  (24, .iload_n 1, 1, 25, 0, .null, 0),
  (25, .if_icmp .ge 26, 3, 28, 51, .null, 0),
  (28, .aload_n 0, 1, 29, 0, .null, 0),
  (29, .dup, 1, 30, 0, .null, 0),
  (30, .getfield 53, 3, 33, 10, .ref 0, 112),
  (33, .iconst 1, 1, 34, 0, .int 1, 0),
  (34, .iadd, 1, 35, 0, .null, 0),
  (35, .putfield 53, 3, 38, 10, .ref 0, 112),
  (38, .iload_n 2, 1, 39, 0, .null, 0),
  (39, .aload_n 0, 1, 40, 0, .null, 0),
  (40, .invokevirtual 282, 3, 43, 0, .null, 0),
  (43, .iadd, 1, 44, 0, .null, 0),
  (44, .istore_n 2, 1, 45, 0, .null, 0),
  (45, .iinc 3 1, 3, 48, 0, .int 1, 0),
  (48, .goto (-25), 3, 51, 23, .null, 0),
  (51, .iload_n 2, 1, 52, 0, .null, 0),
  (52, .ireturn, 1, 53, 0, .null, 0)])
set_option maxRecDepth 100000 in
theorem mN_grow_ok : xOK mN_grow = true := by decide +kernel
def mN_punishAsWatched : XM := (⟨"ChannelNet", "punishAsWatched", "()I"⟩, prog_1_method_49_code, 4, (Option.some FieldType.int), [], [
  (0, .iconst 0, 1, 1, 0, .int 0, 0),
  (1, .istore_n 1, 1, 2, 0, .null, 0),
  (2, .iconst 0, 1, 3, 0, .int 0, 0),
  (3, .istore_n 2, 1, 4, 0, .null, 0),
  (4, .iload_n 2, 1, 5, 0, .null, 0),
  (5, .aload_n 0, 1, 6, 0, .null, 0),
  (6, .getfield 36, 3, 9, 6, .ref 0, 108),
  (9, .invokevirtual 85, 3, 12, 0, .null, 0),
  (12, .if_icmp .ge 52, 3, 15, 64, .null, 0),
  (15, .aload_n 0, 1, 16, 0, .null, 0),
  (16, .getfield 36, 3, 19, 6, .ref 0, 108),
  (19, .iload_n 2, 1, 20, 0, .null, 0),
  (20, .invokevirtual 298, 3, 23, 0, .null, 0),
  (23, .checkcast 89, 3, 26, 0, .null, 0),
  (26, .astore_n 3, 1, 27, 0, .null, 0),
  (27, .aload_n 3, 1, 28, 0, .null, 0),
  (28, .aload_n 0, 1, 29, 0, .null, 0),
  (29, .getfield 53, 3, 32, 10, .ref 0, 112),
  (32, .invokevirtual 258, 3, 35, 0, .null, 0),
  (35, .ifCond .eq 23, 3, 38, 58, .null, 0),
  (38, .aload_n 0, 1, 39, 0, .null, 0),
  (39, .getfield 22, 3, 42, 4, .ref 0, 106),
  (42, .aload_n 3, 1, 43, 0, .null, 0),
  (43, .invokevirtual 265, 3, 46, 0, .null, 0),
  (46, .baload, 1, 47, 0, .null, 0),
  (47, .ifCond .eq 11, 3, 50, 58, .null, 0),
  (50, .aload_n 0, 1, 51, 0, .null, 0),
  (51, .aload_n 3, 1, 52, 0, .null, 0),
  (52, .invokevirtual 261, 3, 55, 0, .null, 0),
  (55, .iinc 1 1, 3, 58, 0, .int 1, 0),
  (58, .iinc 2 1, 3, 61, 0, .int 1, 0),
  (61, .goto (-57), 3, 64, 4, .null, 0),
  (64, .iload_n 1, 1, 65, 0, .null, 0),
  (65, .ireturn, 1, 66, 0, .null, 0)])
set_option maxRecDepth 100000 in
theorem mN_punishAsWatched_ok : xOK mN_punishAsWatched = true := by decide +kernel
def mN_coins : XM := (⟨"ChannelNet", "coins", "(I)I"⟩, prog_1_method_7_code, 2, (Option.some FieldType.int), [], [
  (0, .iload_n 1, 1, 1, 0, .null, 0),
  (1, .invokestatic 58, 3, 4, 0, .null, 0),
  (4, .aload_n 0, 1, 5, 0, .null, 0),
  (5, .getfield 9, 3, 8, 0, .ref 0, 102),
  (8, .iload_n 1, 1, 9, 0, .null, 0),
  (9, .iaload, 1, 10, 0, .null, 0),
  (10, .ireturn, 1, 11, 0, .null, 0)])
set_option maxRecDepth 100000 in
theorem mN_coins_ok : xOK mN_coins = true := by decide +kernel
def mN_channel : XM := (⟨"ChannelNet", "channel", "(II)I"⟩, prog_1_method_14_code, 4, (Option.some FieldType.int), [], [
  (0, .aload_n 0, 1, 1, 0, .null, 0),
  (1, .iload_n 1, 1, 2, 0, .null, 0),
  (2, .invokevirtual 98, 3, 5, 0, .null, 0),
  (5, .astore_n 3, 1, 6, 0, .null, 0),
  (6, .iload_n 2, 1, 7, 0, .null, 0),
  (7, .tableswitch 70 0 5 #[37, 42, 47, 52, 57, 62], 37, 44, 0, .null, 0),
  (44, .aload_n 3, 1, 45, 0, .null, 0),
  (45, .getfield 131, 3, 48, 6, .ref 4, 300),
  (48, .ireturn, 1, 49, 0, .null, 0),
  (49, .aload_n 3, 1, 50, 0, .null, 0),
  (50, .getfield 147, 3, 53, 5, .ref 4, 298),
  (53, .ireturn, 1, 54, 0, .null, 0),
  (54, .aload_n 3, 1, 55, 0, .null, 0),
  (55, .getfield 158, 3, 58, 9, .ref 4, 306),
  (58, .ireturn, 1, 59, 0, .null, 0),
  (59, .aload_n 3, 1, 60, 0, .null, 0),
  (60, .getfield 161, 3, 63, 10, .ref 4, 308),
  (63, .ireturn, 1, 64, 0, .null, 0),
  (64, .aload_n 3, 1, 65, 0, .null, 0),
  (65, .getfield 164, 3, 68, 7, .ref 4, 302),
  (68, .ireturn, 1, 69, 0, .null, 0),
  (69, .aload_n 3, 1, 70, 0, .null, 0),
  (70, .getfield 167, 3, 73, 4, .ref 4, 296),
  (73, .invokevirtual 85, 3, 76, 0, .null, 0),
  (76, .ireturn, 1, 77, 0, .null, 0),
  (77, .new 170, 3, 80, 0, .null, 0),
  (80, .dup, 1, 81, 0, .null, 0),
  (81, .ldc 172, 2, 83, 0, .null, 0),
  (83, .invokespecial 174, 3, 86, 0, .null, 0),
  (86, .athrow, 1, 87, 0, .null, 0)])
set_option maxRecDepth 100000 in
theorem mN_channel_ok : xOK mN_channel = true := by decide +kernel
def mN_state : XM := (⟨"ChannelNet", "state", "(III)I"⟩, prog_1_method_15_code, 5, (Option.some FieldType.int), [], [
  (0, .aload_n 0, 1, 1, 0, .null, 0),
  (1, .iload_n 1, 1, 2, 0, .null, 0),
  (2, .invokevirtual 98, 3, 5, 0, .null, 0),
  (5, .astore 4, 2, 7, 0, .null, 0),
  (7, .aload 4, 2, 9, 0, .null, 0),
  (9, .iload_n 2, 1, 10, 0, .null, 0),
  (10, .invokevirtual 177, 3, 13, 0, .null, 0),
  (13, .invokestatic 106, 3, 16, 0, .null, 0),
  (16, .iload_n 3, 1, 17, 0, .null, 0),
  (17, .tableswitch 61 0 3 #[31, 39, 47, 54], 31, 48, 0, .null, 0),
  (48, .aload 4, 2, 50, 0, .null, 0),
  (50, .getfield 180, 3, 53, 2, .ref 4, 292),
  (53, .iload_n 2, 1, 54, 0, .null, 0),
  (54, .iaload, 1, 55, 0, .null, 0),
  (55, .ireturn, 1, 56, 0, .null, 0),
  (56, .aload 4, 2, 58, 0, .null, 0),
  (58, .getfield 183, 3, 61, 3, .ref 4, 294),
  (61, .iload_n 2, 1, 62, 0, .null, 0),
  (62, .iaload, 1, 63, 0, .null, 0),
  (63, .ireturn, 1, 64, 0, .null, 0),
  (64, .aload 4, 2, 66, 0, .null, 0),
  (66, .iload_n 2, 1, 67, 0, .null, 0),
  (67, .invokevirtual 150, 3, 70, 0, .null, 0),
  (70, .ireturn, 1, 71, 0, .null, 0),
  (71, .aload 4, 2, 73, 0, .null, 0),
  (73, .iload_n 2, 1, 74, 0, .null, 0),
  (74, .invokevirtual 186, 3, 77, 0, .null, 0),
  (77, .ireturn, 1, 78, 0, .null, 0),
  (78, .new 170, 3, 81, 0, .null, 0),
  (81, .dup, 1, 82, 0, .null, 0),
  (82, .ldc 172, 2, 84, 0, .null, 0),
  (84, .invokespecial 174, 3, 87, 0, .null, 0),
  (87, .athrow, 1, 88, 0, .null, 0)])
set_option maxRecDepth 100000 in
theorem mN_state_ok : xOK mN_state = true := by decide +kernel
def mN_made : XM := (⟨"ChannelNet", "made", "(III)I"⟩, prog_1_method_16_code, 6, (Option.some FieldType.int), [], [
  (0, .aload_n 0, 1, 1, 0, .null, 0),
  (1, .iload_n 1, 1, 2, 0, .null, 0),
  (2, .invokevirtual 98, 3, 5, 0, .null, 0),
  (5, .astore 4, 2, 7, 0, .null, 0),
  (7, .aload 4, 2, 9, 0, .null, 0),
  (9, .iload_n 2, 1, 10, 0, .null, 0),
  (10, .invokestatic 189, 3, 13, 0, .null, 0),
  (13, .astore 5, 2, 15, 0, .null, 0),
  (15, .iload_n 3, 1, 16, 0, .null, 0),
  (16, .tableswitch 69 0 3 #[32, 38, 44, 50], 32, 48, 0, .null, 0),
  (48, .aload 5, 2, 50, 0, .null, 0),
  (50, .getfield 144, 3, 53, 0, .ref 5, 497),
  (53, .ireturn, 1, 54, 0, .null, 0),
  (54, .aload 5, 2, 56, 0, .null, 0),
  (56, .getfield 192, 3, 59, 2, .ref 5, 502),
  (59, .ireturn, 1, 60, 0, .null, 0),
  (60, .aload 5, 2, 62, 0, .null, 0),
  (62, .getfield 134, 3, 65, 4, .ref 5, 506),
  (65, .ireturn, 1, 66, 0, .null, 0),
  (66, .aload 5, 2, 68, 0, .null, 0),
  (68, .aload 4, 2, 70, 0, .null, 0),
  (70, .getfield 147, 3, 73, 5, .ref 4, 298),
  (73, .invokevirtual 195, 3, 76, 0, .null, 0),
  (76, .ifCond .eq 7, 3, 79, 83, .null, 0),
  (79, .iconst 1, 1, 80, 0, .int 1, 0),
  (80, .goto 4, 3, 83, 84, .null, 0),
  (83, .iconst 0, 1, 84, 0, .int 0, 0),
  (84, .ireturn, 1, 85, 0, .null, 0),
  (85, .new 170, 3, 88, 0, .null, 0),
  (88, .dup, 1, 89, 0, .null, 0),
  (89, .ldc 172, 2, 91, 0, .null, 0),
  (91, .invokespecial 174, 3, 94, 0, .null, 0),
  (94, .athrow, 1, 95, 0, .null, 0)])
set_option maxRecDepth 100000 in
theorem mN_made_ok : xOK mN_made = true := by decide +kernel
end
section
/- Part 13: words of calls, new objects and casts, printed by wip/whole/tools -/
set_option maxRecDepth 100000 in
theorem g_mN_init_3 : xW (.methodLink mN_init.1.cls 3 Lib.objectInit) ∧ xW (.instanceMethod Lib.objectInit) ∧ xW (.code Lib.objectInit ⟨#[0xb1]⟩ 1 none) := ⟨xW_tab (i := 28) rfl rfl, xW_tab (i := 29) rfl rfl, xW_tab (i := 30) rfl rfl⟩
set_option maxRecDepth 100000 in
theorem n_mN_init_26 : xW (.classLink mN_init.1.cls 26 "ChannelNet$Secrets") ∧ xW (.instantiable "ChannelNet$Secrets" 3) ∧ xW (.initialized "ChannelNet$Secrets") := ⟨xW_tab (i := 31) rfl rfl, xW_tab (i := 32) rfl rfl, xW_tab (i := 2) rfl rfl⟩
set_option maxRecDepth 100000 in
theorem g_mN_init_28 : xW (.methodLinkNest mN_init.1.cls 28 mS_init.1 "ChannelNet") ∧ xW (.instanceMethod mS_init.1) ∧ xW (.code mS_init.1 mS_init.2.1 mS_init.2.2.1 none) ∧ (mS_init.2.2.2.1 = none ∧ mS_init.2.2.2.2.1 = [] ∧ mS_init.1.name = "<init>") ∧ xnp mS_init.1 0 = true := ⟨xW_tab (i := 33) rfl rfl, xW_tab (i := 34) rfl rfl, xW_tab (i := 35) rfl rfl, ⟨rfl, rfl, rfl⟩, by decide +kernel⟩
set_option maxRecDepth 100000 in
theorem n_mN_init_33 : xW (.classLink mN_init.1.cls 33 "java/util/ArrayList") ∧ xW (.instantiable "java/util/ArrayList" 3) ∧ xW (.initialized "java/util/ArrayList") := ⟨xW_tab (i := 50) rfl rfl, xW_tab (i := 51) rfl rfl, xW_tab (i := 5) rfl rfl⟩
set_option maxRecDepth 100000 in
theorem g_mN_init_35 : xci mN_init mA_init 35 0 := ⟨xW_tab (i := 52) rfl rfl, xW_tab (i := 53) rfl rfl, xW_tab (i := 54) rfl rfl, ⟨rfl, rfl, rfl⟩, by decide +kernel⟩
set_option maxRecDepth 100000 in
theorem n_mN_init_43 : xW (.classLink mN_init.1.cls 43 "ChannelNet$Route") ∧ xW (.instantiable "ChannelNet$Route" 4) ∧ xW (.initialized "ChannelNet$Route") := ⟨xW_tab (i := 76) rfl rfl, xW_tab (i := 77) rfl rfl, xW_tab (i := 6) rfl rfl⟩
set_option maxRecDepth 100000 in
theorem g_mN_init_45 : xW (.methodLinkNest mN_init.1.cls 45 mR_init.1 "ChannelNet") ∧ xW (.instanceMethod mR_init.1) ∧ xW (.code mR_init.1 mR_init.2.1 mR_init.2.2.1 none) ∧ (mR_init.2.2.2.1 = none ∧ mR_init.2.2.2.2.1 = [] ∧ mR_init.1.name = "<init>") ∧ xnp mR_init.1 0 = true := ⟨xW_tab (i := 78) rfl rfl, xW_tab (i := 79) rfl rfl, xW_tab (i := 80) rfl rfl, ⟨rfl, rfl, rfl⟩, by decide +kernel⟩
set_option maxRecDepth 100000 in
theorem g_mS_init_3 : xW (.methodLink mS_init.1.cls 3 Lib.objectInit) ∧ xW (.instanceMethod Lib.objectInit) ∧ xW (.code Lib.objectInit ⟨#[0xb1]⟩ 1 none) := ⟨xW_tab (i := 36) rfl rfl, xW_tab (i := 29) rfl rfl, xW_tab (i := 30) rfl rfl⟩
set_option maxRecDepth 100000 in
theorem g_mA_init_1 : xci mA_init mAbstractList_init 1 0 := ⟨xW_tab (i := 55) rfl rfl, xW_tab (i := 56) rfl rfl, xW_tab (i := 57) rfl rfl, ⟨rfl, rfl, rfl⟩, by decide +kernel⟩
set_option maxRecDepth 100000 in
theorem g_mAbstractList_init_1 : xci mAbstractList_init mAbstractCollection_init 1 0 := ⟨xW_tab (i := 58) rfl rfl, xW_tab (i := 59) rfl rfl, xW_tab (i := 60) rfl rfl, ⟨rfl, rfl, rfl⟩, by decide +kernel⟩
set_option maxRecDepth 100000 in
theorem g_mAbstractCollection_init_1 : xW (.methodLink mAbstractCollection_init.1.cls 1 Lib.objectInit) ∧ xW (.instanceMethod Lib.objectInit) ∧ xW (.code Lib.objectInit ⟨#[0xb1]⟩ 1 none) := ⟨xW_tab (i := 61) rfl rfl, xW_tab (i := 29) rfl rfl, xW_tab (i := 30) rfl rfl⟩
set_option maxRecDepth 100000 in
theorem g_mR_init_3 : xW (.methodLink mR_init.1.cls 3 Lib.objectInit) ∧ xW (.instanceMethod Lib.objectInit) ∧ xW (.code Lib.objectInit ⟨#[0xb1]⟩ 1 none) := ⟨xW_tab (i := 81) rfl rfl, xW_tab (i := 29) rfl rfl, xW_tab (i := 30) rfl rfl⟩
set_option maxRecDepth 100000 in
theorem g_mN_lock_66 : xcs mN_lock mN_lockOf 66 1 := ⟨xW_tab (i := 140) rfl rfl, xW_tab (i := 141) rfl rfl, xW_tab (i := 1) rfl rfl, xW_tab (i := 142) rfl rfl, by decide +kernel⟩
set_option maxRecDepth 100000 in
theorem g_mN_channels_85 : xcv "java/util/ArrayList" mN_channels mA_size 85 0 := ⟨xW_tab (i := 149) rfl rfl, xW_tab (i := 150) rfl rfl, xW_tab (i := 151) rfl rfl, xW_tab (i := 152) rfl rfl, by decide +kernel⟩
set_option maxRecDepth 100000 in
theorem g_mL_open_7 : xcv "ChannelNet" mL_open mN_open 7 4 := ⟨xW_tab (i := 163) rfl rfl, xW_tab (i := 164) rfl rfl, xW_tab (i := 165) rfl rfl, xW_tab (i := 166) rfl rfl, by decide +kernel⟩
set_option maxRecDepth 100000 in
theorem g_mN_open_58 : xcs mN_open mN_checkNode 58 1 := ⟨xW_tab (i := 167) rfl rfl, xW_tab (i := 168) rfl rfl, xW_tab (i := 1) rfl rfl, xW_tab (i := 169) rfl rfl, by decide +kernel⟩
set_option maxRecDepth 100000 in
theorem g_mN_open_62 : xcs mN_open mN_checkArgument 62 1 := ⟨xW_tab (i := 241) rfl rfl, xW_tab (i := 242) rfl rfl, xW_tab (i := 1) rfl rfl, xW_tab (i := 243) rfl rfl, by decide +kernel⟩
set_option maxRecDepth 100000 in
theorem g_mN_open_85 : xcv "java/util/ArrayList" mN_open mA_size 85 0 := ⟨xW_tab (i := 149) rfl rfl, xW_tab (i := 150) rfl rfl, xW_tab (i := 151) rfl rfl, xW_tab (i := 152) rfl rfl, by decide +kernel⟩
set_option maxRecDepth 100000 in
theorem g_mN_open_74 : xcs mN_open mN_checkState 74 1 := ⟨xW_tab (i := 260) rfl rfl, xW_tab (i := 261) rfl rfl, xW_tab (i := 1) rfl rfl, xW_tab (i := 262) rfl rfl, by decide +kernel⟩
set_option maxRecDepth 100000 in
theorem n_mN_open_89 : xW (.classLink mN_open.1.cls 89 "ChannelNet$Channel") ∧ xW (.instantiable "ChannelNet$Channel" 12) ∧ xW (.initialized "ChannelNet$Channel") := ⟨xW_tab (i := 279) rfl rfl, xW_tab (i := 280) rfl rfl, xW_tab (i := 14) rfl rfl⟩
set_option maxRecDepth 100000 in
theorem g_mN_open_91 : xci mN_open mC_init 91 4 := ⟨xW_tab (i := 281) rfl rfl, xW_tab (i := 282) rfl rfl, xW_tab (i := 283) rfl rfl, ⟨rfl, rfl, rfl⟩, by decide +kernel⟩
set_option maxRecDepth 100000 in
theorem g_mN_open_94 : xcv "java/util/ArrayList" mN_open mA_add 94 1 := ⟨xW_tab (i := 336) rfl rfl, xW_tab (i := 337) rfl rfl, xW_tab (i := 338) rfl rfl, xW_tab (i := 339) rfl rfl, by decide +kernel⟩
set_option maxRecDepth 100000 in
theorem g_mN_checkNode_106 : xcs mN_checkNode mN_checkIndex 106 1 := ⟨xW_tab (i := 170) rfl rfl, xW_tab (i := 171) rfl rfl, xW_tab (i := 1) rfl rfl, xW_tab (i := 172) rfl rfl, by decide +kernel⟩
set_option maxRecDepth 100000 in
theorem n_mN_checkIndex_285 : xW (.classLink mN_checkIndex.1.cls 285 "java/lang/IndexOutOfBoundsException") ∧ xW (.initialized "java/lang/IndexOutOfBoundsException") := ⟨xW_tab (i := 173) rfl rfl, xW_tab (i := 11) rfl rfl⟩
-- no code mN_checkIndex 289 ('java/lang/IndexOutOfBoundsException', '<init>', '(Ljava/lang/String;)V')
set_option maxRecDepth 100000 in
theorem n_mN_checkArgument_170 : xW (.classLink mN_checkArgument.1.cls 170 "java/lang/IllegalArgumentException") ∧ xW (.initialized "java/lang/IllegalArgumentException") := ⟨xW_tab (i := 244) rfl rfl, xW_tab (i := 12) rfl rfl⟩
-- no code mN_checkArgument 174 ('java/lang/IllegalArgumentException', '<init>', '(Ljava/lang/String;)V')
set_option maxRecDepth 100000 in
theorem n_mN_checkState_292 : xW (.classLink mN_checkState.1.cls 292 "java/lang/IllegalStateException") ∧ xW (.initialized "java/lang/IllegalStateException") := ⟨xW_tab (i := 263) rfl rfl, xW_tab (i := 13) rfl rfl⟩
-- no code mN_checkState 296 ('java/lang/IllegalStateException', '<init>', '(Ljava/lang/String;)V')
set_option maxRecDepth 100000 in
theorem g_mC_init_3 : xW (.methodLink mC_init.1.cls 3 Lib.objectInit) ∧ xW (.instanceMethod Lib.objectInit) ∧ xW (.code Lib.objectInit ⟨#[0xb1]⟩ 1 none) := ⟨xW_tab (i := 284) rfl rfl, xW_tab (i := 29) rfl rfl, xW_tab (i := 30) rfl rfl⟩
set_option maxRecDepth 100000 in
theorem n_mC_init_18 : xW (.classLink mC_init.1.cls 18 "java/util/ArrayList") ∧ xW (.instantiable "java/util/ArrayList" 3) ∧ xW (.initialized "java/util/ArrayList") := ⟨xW_tab (i := 285) rfl rfl, xW_tab (i := 51) rfl rfl, xW_tab (i := 5) rfl rfl⟩
set_option maxRecDepth 100000 in
theorem g_mC_init_20 : xci mC_init mA_init 20 0 := ⟨xW_tab (i := 286) rfl rfl, xW_tab (i := 53) rfl rfl, xW_tab (i := 54) rfl rfl, ⟨rfl, rfl, rfl⟩, by decide +kernel⟩
set_option maxRecDepth 100000 in
theorem g_mA_add_131 : xcv "java/util/ArrayList" mA_add mA_add2 131 3 := ⟨xW_tab (i := 340) rfl rfl, xW_tab (i := 342) rfl rfl, xW_sel (i := 1) rfl rfl, xW_tab (i := 343) rfl rfl, by decide +kernel⟩
set_option maxRecDepth 100000 in
theorem g_mA_add2_129 : xcv "java/util/ArrayList" mA_add2 mA_grow 129 0 := ⟨xW_tab (i := 344) rfl rfl, xW_tab (i := 346) rfl rfl, xW_sel (i := 2) rfl rfl, xW_tab (i := 347) rfl rfl, by decide +kernel⟩
set_option maxRecDepth 100000 in
theorem g_mA_grow_69 : xcv "java/util/ArrayList" mA_grow mA_grow2 69 1 := ⟨xW_tab (i := 348) rfl rfl, xW_tab (i := 350) rfl rfl, xW_sel (i := 3) rfl rfl, xW_tab (i := 351) rfl rfl, by decide +kernel⟩
set_option maxRecDepth 100000 in
theorem g_mA_grow2_73 : xcs mA_grow2 mArraysSupport_newLength 73 3 := ⟨xW_tab (i := 352) rfl rfl, xW_tab (i := 353) rfl rfl, xW_tab (i := 15) rfl rfl, xW_tab (i := 354) rfl rfl, by decide +kernel⟩
set_option maxRecDepth 100000 in
theorem g_mA_grow2_66 : xcs mA_grow2 mArrays_copyOf 66 2 := ⟨xW_tab (i := 362) rfl rfl, xW_tab (i := 363) rfl rfl, xW_tab (i := 17) rfl rfl, xW_tab (i := 364) rfl rfl, by decide +kernel⟩
-- no code mA_grow2 79 ('java/lang/Math', 'max', '(II)I')
-- no code mArraysSupport_newLength 194 ('java/lang/Math', 'max', '(II)I')
set_option maxRecDepth 100000 in
theorem g_mArraysSupport_newLength_201 : xcs mArraysSupport_newLength mArraysSupport_hugeLength 201 2 := ⟨xW_tab (i := 359) rfl rfl, xW_tab (i := 360) rfl rfl, xW_tab (i := 15) rfl rfl, xW_tab (i := 361) rfl rfl, by decide +kernel⟩
-- no link mArraysSupport_hugeLength 91
-- no link mArraysSupport_hugeLength 94
-- no link mArraysSupport_hugeLength 98
-- no link mArraysSupport_hugeLength 101
-- no link mArraysSupport_hugeLength 212
-- no code mArrays_copyOf 86 ('java/lang/Object', 'getClass', '()Ljava/lang/Class;')
set_option maxRecDepth 100000 in
theorem g_mArrays_copyOf_300 : xcs mArrays_copyOf mArrays_copyOf2 300 3 := ⟨xW_tab (i := 380) rfl rfl, xW_tab (i := 381) rfl rfl, xW_tab (i := 17) rfl rfl, xW_tab (i := 382) rfl rfl, by decide +kernel⟩
-- no link mArrays_copyOf2 90
-- no link mArrays_copyOf2 95
-- no code mArrays_copyOf2 304 ('java/lang/Math', 'min', '(II)I')
-- no code mArrays_copyOf2 150 ('java/lang/System', 'arraycopy', '(Ljava/lang/Object;ILjava/lang/Object;II)V')
set_option maxRecDepth 100000 in
theorem g_mL_fees_19 : xcv "ChannelNet" mL_fees mN_fees 19 4 := ⟨xW_tab (i := 397) rfl rfl, xW_tab (i := 398) rfl rfl, xW_tab (i := 399) rfl rfl, xW_tab (i := 400) rfl rfl, by decide +kernel⟩
set_option maxRecDepth 100000 in
theorem g_mN_fees_58 : xcs mN_fees mN_checkNode 58 1 := ⟨xW_tab (i := 167) rfl rfl, xW_tab (i := 168) rfl rfl, xW_tab (i := 1) rfl rfl, xW_tab (i := 169) rfl rfl, by decide +kernel⟩
set_option maxRecDepth 100000 in
theorem g_mN_fees_62 : xcs mN_fees mN_checkArgument 62 1 := ⟨xW_tab (i := 241) rfl rfl, xW_tab (i := 242) rfl rfl, xW_tab (i := 1) rfl rfl, xW_tab (i := 243) rfl rfl, by decide +kernel⟩
set_option maxRecDepth 100000 in
theorem g_mL_tell_23 : xcv "ChannelNet" mL_tell mN_tell 23 2 := ⟨xW_tab (i := 404) rfl rfl, xW_tab (i := 405) rfl rfl, xW_tab (i := 406) rfl rfl, xW_tab (i := 407) rfl rfl, by decide +kernel⟩
set_option maxRecDepth 100000 in
theorem g_mN_tell_58 : xcs mN_tell mN_checkNode 58 1 := ⟨xW_tab (i := 167) rfl rfl, xW_tab (i := 168) rfl rfl, xW_tab (i := 1) rfl rfl, xW_tab (i := 169) rfl rfl, by decide +kernel⟩
set_option maxRecDepth 100000 in
theorem g_mN_tell_66 : xcs mN_tell mN_lockOf 66 1 := ⟨xW_tab (i := 140) rfl rfl, xW_tab (i := 141) rfl rfl, xW_tab (i := 1) rfl rfl, xW_tab (i := 142) rfl rfl, by decide +kernel⟩
set_option maxRecDepth 100000 in
theorem g_mN_tell_70 : xcv "ChannelNet$Secrets" mN_tell mS_hasRoomFor 70 1 := ⟨xW_tab (i := 408) rfl rfl, xW_tab (i := 409) rfl rfl, xW_tab (i := 410) rfl rfl, xW_tab (i := 411) rfl rfl, by decide +kernel⟩
set_option maxRecDepth 100000 in
theorem g_mN_tell_74 : xcs mN_tell mN_checkState 74 1 := ⟨xW_tab (i := 260) rfl rfl, xW_tab (i := 261) rfl rfl, xW_tab (i := 1) rfl rfl, xW_tab (i := 262) rfl rfl, by decide +kernel⟩
set_option maxRecDepth 100000 in
theorem g_mN_tell_77 : xcv "ChannelNet$Secrets" mN_tell mS_learn 77 2 := ⟨xW_tab (i := 416) rfl rfl, xW_tab (i := 417) rfl rfl, xW_tab (i := 418) rfl rfl, xW_tab (i := 419) rfl rfl, by decide +kernel⟩
set_option maxRecDepth 100000 in
theorem g_mS_hasRoomFor_23 : xcv "ChannelNet$Secrets" mS_hasRoomFor mS_find 23 1 := ⟨xW_tab (i := 412) rfl rfl, xW_tab (i := 413) rfl rfl, xW_tab (i := 414) rfl rfl, xW_tab (i := 415) rfl rfl, by decide +kernel⟩
set_option maxRecDepth 100000 in
theorem g_mS_learn_23 : xcv "ChannelNet$Secrets" mS_learn mS_find 23 1 := ⟨xW_tab (i := 412) rfl rfl, xW_tab (i := 413) rfl rfl, xW_tab (i := 414) rfl rfl, xW_tab (i := 415) rfl rfl, by decide +kernel⟩
set_option maxRecDepth 100000 in
theorem g_mL_knows_27 : xcv "ChannelNet" mL_knows mN_knows 27 2 := ⟨xW_tab (i := 423) rfl rfl, xW_tab (i := 424) rfl rfl, xW_tab (i := 425) rfl rfl, xW_tab (i := 426) rfl rfl, by decide +kernel⟩
set_option maxRecDepth 100000 in
theorem g_mN_knows_58 : xcs mN_knows mN_checkNode 58 1 := ⟨xW_tab (i := 167) rfl rfl, xW_tab (i := 168) rfl rfl, xW_tab (i := 1) rfl rfl, xW_tab (i := 169) rfl rfl, by decide +kernel⟩
set_option maxRecDepth 100000 in
theorem g_mN_knows_81 : xcv "ChannelNet$Secrets" mN_knows mS_isKnown 81 2 := ⟨xW_tab (i := 427) rfl rfl, xW_tab (i := 428) rfl rfl, xW_tab (i := 429) rfl rfl, xW_tab (i := 430) rfl rfl, by decide +kernel⟩
set_option maxRecDepth 100000 in
theorem g_mS_isKnown_23 : xcv "ChannelNet$Secrets" mS_isKnown mS_find 23 1 := ⟨xW_tab (i := 412) rfl rfl, xW_tab (i := 413) rfl rfl, xW_tab (i := 414) rfl rfl, xW_tab (i := 415) rfl rfl, by decide +kernel⟩
set_option maxRecDepth 100000 in
theorem g_mL_promise_31 : xcv "ChannelNet" mL_promise mN_promise 31 5 := ⟨xW_tab (i := 434) rfl rfl, xW_tab (i := 435) rfl rfl, xW_tab (i := 436) rfl rfl, xW_tab (i := 437) rfl rfl, by decide +kernel⟩
set_option maxRecDepth 100000 in
theorem g_mN_promise_98 : xcv "ChannelNet" mN_promise mN_channelAt 98 1 := ⟨xW_tab (i := 438) rfl rfl, xW_tab (i := 440) rfl rfl, xW_sel (i := 4) rfl rfl, xW_tab (i := 441) rfl rfl, by decide +kernel⟩
set_option maxRecDepth 100000 in
theorem g_mN_promise_102 : xcv "ChannelNet$Channel" mN_promise mC_joins 102 1 := ⟨xW_tab (i := 456) rfl rfl, xW_tab (i := 457) rfl rfl, xW_tab (i := 458) rfl rfl, xW_tab (i := 459) rfl rfl, by decide +kernel⟩
set_option maxRecDepth 100000 in
theorem g_mN_promise_106 : xcs mN_promise mN_checkIndex 106 1 := ⟨xW_tab (i := 170) rfl rfl, xW_tab (i := 171) rfl rfl, xW_tab (i := 1) rfl rfl, xW_tab (i := 172) rfl rfl, by decide +kernel⟩
set_option maxRecDepth 100000 in
theorem g_mN_promise_62 : xcs mN_promise mN_checkArgument 62 1 := ⟨xW_tab (i := 241) rfl rfl, xW_tab (i := 242) rfl rfl, xW_tab (i := 1) rfl rfl, xW_tab (i := 243) rfl rfl, by decide +kernel⟩
set_option maxRecDepth 100000 in
theorem g_mN_promise_109 : xcv "ChannelNet$Channel" mN_promise mC_canCarry 109 2 := ⟨xW_tab (i := 460) rfl rfl, xW_tab (i := 461) rfl rfl, xW_tab (i := 462) rfl rfl, xW_tab (i := 463) rfl rfl, by decide +kernel⟩
set_option maxRecDepth 100000 in
theorem g_mN_promise_74 : xcs mN_promise mN_checkState 74 1 := ⟨xW_tab (i := 260) rfl rfl, xW_tab (i := 261) rfl rfl, xW_tab (i := 1) rfl rfl, xW_tab (i := 262) rfl rfl, by decide +kernel⟩
set_option maxRecDepth 100000 in
theorem g_mN_promise_113 : xcv "ChannelNet$Channel" mN_promise mC_hasRoomForState 113 0 := ⟨xW_tab (i := 475) rfl rfl, xW_tab (i := 476) rfl rfl, xW_tab (i := 477) rfl rfl, xW_tab (i := 478) rfl rfl, by decide +kernel⟩
set_option maxRecDepth 100000 in
theorem g_mN_promise_117 : xcv "ChannelNet$Channel" mN_promise mC_addPromise 117 4 := ⟨xW_tab (i := 479) rfl rfl, xW_tab (i := 480) rfl rfl, xW_tab (i := 481) rfl rfl, xW_tab (i := 482) rfl rfl, by decide +kernel⟩
set_option maxRecDepth 100000 in
theorem g_mN_channelAt_85 : xcv "java/util/ArrayList" mN_channelAt mA_size 85 0 := ⟨xW_tab (i := 149) rfl rfl, xW_tab (i := 150) rfl rfl, xW_tab (i := 151) rfl rfl, xW_tab (i := 152) rfl rfl, by decide +kernel⟩
set_option maxRecDepth 100000 in
theorem g_mN_channelAt_106 : xcs mN_channelAt mN_checkIndex 106 1 := ⟨xW_tab (i := 170) rfl rfl, xW_tab (i := 171) rfl rfl, xW_tab (i := 1) rfl rfl, xW_tab (i := 172) rfl rfl, by decide +kernel⟩
set_option maxRecDepth 100000 in
theorem g_mN_channelAt_298 : xcv "java/util/ArrayList" mN_channelAt mA_get 298 1 := ⟨xW_tab (i := 442) rfl rfl, xW_tab (i := 443) rfl rfl, xW_tab (i := 444) rfl rfl, xW_tab (i := 445) rfl rfl, by decide +kernel⟩
set_option maxRecDepth 100000 in
theorem k_mN_channelAt_89 : xW (.classLink mN_channelAt.1.cls 89 "ChannelNet$Channel") ∧ xW (.castable "ChannelNet$Channel" "ChannelNet$Channel") := ⟨xW_tab (i := 279) rfl rfl, xW_tab (i := 1252) rfl rfl⟩
set_option maxRecDepth 100000 in
theorem g_mA_get_118 : xcs mA_get mObjects_checkIndex 118 2 := ⟨xW_tab (i := 446) rfl rfl, xW_tab (i := 447) rfl rfl, xW_tab (i := 19) rfl rfl, xW_tab (i := 448) rfl rfl, by decide +kernel⟩
set_option maxRecDepth 100000 in
theorem g_mA_get_123 : xcv "java/util/ArrayList" mA_get mA_elementData 123 1 := ⟨xW_tab (i := 452) rfl rfl, xW_tab (i := 453) rfl rfl, xW_tab (i := 454) rfl rfl, xW_tab (i := 455) rfl rfl, by decide +kernel⟩
set_option maxRecDepth 100000 in
theorem g_mObjects_checkIndex_105 : xcs mObjects_checkIndex mPreconditions_checkIndex 105 3 := ⟨xW_tab (i := 449) rfl rfl, xW_tab (i := 450) rfl rfl, xW_tab (i := 20) rfl rfl, xW_tab (i := 451) rfl rfl, by decide +kernel⟩
-- no link mPreconditions_checkIndex 95
set_option maxRecDepth 100000 in
theorem g_mC_canCarry_71 : xcv "ChannelNet$Channel" mC_canCarry mC_promisesIn 71 1 := ⟨xW_tab (i := 464) rfl rfl, xW_tab (i := 465) rfl rfl, xW_tab (i := 466) rfl rfl, xW_tab (i := 467) rfl rfl, by decide +kernel⟩
set_option maxRecDepth 100000 in
theorem g_mC_promisesIn_54 : xcv "java/util/ArrayList" mC_promisesIn mA_size 54 0 := ⟨xW_tab (i := 468) rfl rfl, xW_tab (i := 150) rfl rfl, xW_tab (i := 151) rfl rfl, xW_tab (i := 152) rfl rfl, by decide +kernel⟩
set_option maxRecDepth 100000 in
theorem g_mC_promisesIn_58 : xcv "java/util/ArrayList" mC_promisesIn mA_get 58 1 := ⟨xW_tab (i := 469) rfl rfl, xW_tab (i := 443) rfl rfl, xW_tab (i := 444) rfl rfl, xW_tab (i := 445) rfl rfl, by decide +kernel⟩
set_option maxRecDepth 100000 in
theorem k_mC_promisesIn_62 : xW (.classLink mC_promisesIn.1.cls 62 "ChannelNet$Promise") ∧ xW (.castable "ChannelNet$Promise" "ChannelNet$Promise") := ⟨xW_tab (i := 470) rfl rfl, xW_tab (i := 1253) rfl rfl⟩
set_option maxRecDepth 100000 in
theorem g_mC_promisesIn_64 : xcv "ChannelNet$Promise" mC_promisesIn mP_isIn 64 1 := ⟨xW_tab (i := 471) rfl rfl, xW_tab (i := 472) rfl rfl, xW_tab (i := 473) rfl rfl, xW_tab (i := 474) rfl rfl, by decide +kernel⟩
set_option maxRecDepth 100000 in
theorem g_mC_addPromise_75 : xcv "ChannelNet$Channel" mC_addPromise mC_makeState 75 2 := ⟨xW_tab (i := 483) rfl rfl, xW_tab (i := 485) rfl rfl, xW_sel (i := 5) rfl rfl, xW_tab (i := 486) rfl rfl, by decide +kernel⟩
set_option maxRecDepth 100000 in
theorem n_mC_addPromise_62 : xW (.classLink mC_addPromise.1.cls 62 "ChannelNet$Promise") ∧ xW (.instantiable "ChannelNet$Promise" 8) ∧ xW (.initialized "ChannelNet$Promise") := ⟨xW_tab (i := 470) rfl rfl, xW_tab (i := 487) rfl rfl, xW_tab (i := 21) rfl rfl⟩
set_option maxRecDepth 100000 in
theorem g_mC_addPromise_79 : xcv "ChannelNet$Channel" mC_addPromise mC_partnerOf 79 1 := ⟨xW_tab (i := 488) rfl rfl, xW_tab (i := 489) rfl rfl, xW_tab (i := 490) rfl rfl, xW_tab (i := 491) rfl rfl, by decide +kernel⟩
set_option maxRecDepth 100000 in
theorem g_mC_addPromise_82 : xci mC_addPromise mP_init 82 6 := ⟨xW_tab (i := 492) rfl rfl, xW_tab (i := 493) rfl rfl, xW_tab (i := 494) rfl rfl, ⟨rfl, rfl, rfl⟩, by decide +kernel⟩
set_option maxRecDepth 100000 in
theorem g_mC_addPromise_85 : xcv "java/util/ArrayList" mC_addPromise mA_add 85 1 := ⟨xW_tab (i := 529) rfl rfl, xW_tab (i := 337) rfl rfl, xW_tab (i := 338) rfl rfl, xW_tab (i := 339) rfl rfl, by decide +kernel⟩
set_option maxRecDepth 100000 in
theorem g_mC_addPromise_54 : xcv "java/util/ArrayList" mC_addPromise mA_size 54 0 := ⟨xW_tab (i := 468) rfl rfl, xW_tab (i := 150) rfl rfl, xW_tab (i := 151) rfl rfl, xW_tab (i := 152) rfl rfl, by decide +kernel⟩
set_option maxRecDepth 100000 in
theorem g_mP_init_3 : xW (.methodLink mP_init.1.cls 3 Lib.objectInit) ∧ xW (.instanceMethod Lib.objectInit) ∧ xW (.code Lib.objectInit ⟨#[0xb1]⟩ 1 none) := ⟨xW_tab (i := 495) rfl rfl, xW_tab (i := 29) rfl rfl, xW_tab (i := 30) rfl rfl⟩
set_option maxRecDepth 100000 in
theorem g_mL_keep_35 : xcv "ChannelNet" mL_keep mN_keep 35 3 := ⟨xW_tab (i := 533) rfl rfl, xW_tab (i := 534) rfl rfl, xW_tab (i := 535) rfl rfl, xW_tab (i := 536) rfl rfl, by decide +kernel⟩
set_option maxRecDepth 100000 in
theorem g_mN_keep_98 : xcv "ChannelNet" mN_keep mN_channelAt 98 1 := ⟨xW_tab (i := 438) rfl rfl, xW_tab (i := 440) rfl rfl, xW_sel (i := 4) rfl rfl, xW_tab (i := 441) rfl rfl, by decide +kernel⟩
set_option maxRecDepth 100000 in
theorem g_mN_keep_121 : xcs mN_keep mN_latestPromise 121 2 := ⟨xW_tab (i := 537) rfl rfl, xW_tab (i := 538) rfl rfl, xW_tab (i := 1) rfl rfl, xW_tab (i := 539) rfl rfl, by decide +kernel⟩
set_option maxRecDepth 100000 in
theorem g_mN_keep_66 : xcs mN_keep mN_lockOf 66 1 := ⟨xW_tab (i := 140) rfl rfl, xW_tab (i := 141) rfl rfl, xW_tab (i := 1) rfl rfl, xW_tab (i := 142) rfl rfl, by decide +kernel⟩
set_option maxRecDepth 100000 in
theorem g_mN_keep_62 : xcs mN_keep mN_checkArgument 62 1 := ⟨xW_tab (i := 241) rfl rfl, xW_tab (i := 242) rfl rfl, xW_tab (i := 1) rfl rfl, xW_tab (i := 243) rfl rfl, by decide +kernel⟩
set_option maxRecDepth 100000 in
theorem g_mN_keep_74 : xcs mN_keep mN_checkState 74 1 := ⟨xW_tab (i := 260) rfl rfl, xW_tab (i := 261) rfl rfl, xW_tab (i := 1) rfl rfl, xW_tab (i := 262) rfl rfl, by decide +kernel⟩
set_option maxRecDepth 100000 in
theorem g_mN_keep_113 : xcv "ChannelNet$Channel" mN_keep mC_hasRoomForState 113 0 := ⟨xW_tab (i := 475) rfl rfl, xW_tab (i := 476) rfl rfl, xW_tab (i := 477) rfl rfl, xW_tab (i := 478) rfl rfl, by decide +kernel⟩
set_option maxRecDepth 100000 in
theorem g_mN_keep_70 : xcv "ChannelNet$Secrets" mN_keep mS_hasRoomFor 70 1 := ⟨xW_tab (i := 408) rfl rfl, xW_tab (i := 409) rfl rfl, xW_tab (i := 410) rfl rfl, xW_tab (i := 411) rfl rfl, by decide +kernel⟩
set_option maxRecDepth 100000 in
theorem g_mN_keep_140 : xcv "ChannelNet$Channel" mN_keep mC_endPromise 140 2 := ⟨xW_tab (i := 545) rfl rfl, xW_tab (i := 546) rfl rfl, xW_tab (i := 547) rfl rfl, xW_tab (i := 548) rfl rfl, by decide +kernel⟩
set_option maxRecDepth 100000 in
theorem g_mN_keep_77 : xcv "ChannelNet$Secrets" mN_keep mS_learn 77 2 := ⟨xW_tab (i := 416) rfl rfl, xW_tab (i := 417) rfl rfl, xW_tab (i := 418) rfl rfl, xW_tab (i := 419) rfl rfl, by decide +kernel⟩
set_option maxRecDepth 100000 in
theorem g_mN_latestPromise_189 : xcs mN_latestPromise mN_promiseOf 189 2 := ⟨xW_tab (i := 540) rfl rfl, xW_tab (i := 541) rfl rfl, xW_tab (i := 1) rfl rfl, xW_tab (i := 542) rfl rfl, by decide +kernel⟩
set_option maxRecDepth 100000 in
theorem g_mN_latestPromise_195 : xcv "ChannelNet$Promise" mN_latestPromise mP_isIn 195 1 := ⟨xW_tab (i := 544) rfl rfl, xW_tab (i := 472) rfl rfl, xW_tab (i := 473) rfl rfl, xW_tab (i := 474) rfl rfl, by decide +kernel⟩
set_option maxRecDepth 100000 in
theorem g_mN_latestPromise_106 : xcs mN_latestPromise mN_checkIndex 106 1 := ⟨xW_tab (i := 170) rfl rfl, xW_tab (i := 171) rfl rfl, xW_tab (i := 1) rfl rfl, xW_tab (i := 172) rfl rfl, by decide +kernel⟩
set_option maxRecDepth 100000 in
theorem g_mN_promiseOf_85 : xcv "java/util/ArrayList" mN_promiseOf mA_size 85 0 := ⟨xW_tab (i := 149) rfl rfl, xW_tab (i := 150) rfl rfl, xW_tab (i := 151) rfl rfl, xW_tab (i := 152) rfl rfl, by decide +kernel⟩
set_option maxRecDepth 100000 in
theorem g_mN_promiseOf_106 : xcs mN_promiseOf mN_checkIndex 106 1 := ⟨xW_tab (i := 170) rfl rfl, xW_tab (i := 171) rfl rfl, xW_tab (i := 1) rfl rfl, xW_tab (i := 172) rfl rfl, by decide +kernel⟩
set_option maxRecDepth 100000 in
theorem g_mN_promiseOf_298 : xcv "java/util/ArrayList" mN_promiseOf mA_get 298 1 := ⟨xW_tab (i := 442) rfl rfl, xW_tab (i := 443) rfl rfl, xW_tab (i := 444) rfl rfl, xW_tab (i := 445) rfl rfl, by decide +kernel⟩
set_option maxRecDepth 100000 in
theorem k_mN_promiseOf_126 : xW (.classLink mN_promiseOf.1.cls 126 "ChannelNet$Promise") ∧ xW (.castable "ChannelNet$Promise" "ChannelNet$Promise") := ⟨xW_tab (i := 543) rfl rfl, xW_tab (i := 1253) rfl rfl⟩
set_option maxRecDepth 100000 in
theorem g_mC_endPromise_75 : xcv "ChannelNet$Channel" mC_endPromise mC_makeState 75 2 := ⟨xW_tab (i := 483) rfl rfl, xW_tab (i := 485) rfl rfl, xW_sel (i := 5) rfl rfl, xW_tab (i := 486) rfl rfl, by decide +kernel⟩
set_option maxRecDepth 100000 in
theorem g_mL_drop_39 : xcv "ChannelNet" mL_drop mN_drop 39 2 := ⟨xW_tab (i := 552) rfl rfl, xW_tab (i := 553) rfl rfl, xW_tab (i := 554) rfl rfl, xW_tab (i := 555) rfl rfl, by decide +kernel⟩
set_option maxRecDepth 100000 in
theorem g_mN_drop_98 : xcv "ChannelNet" mN_drop mN_channelAt 98 1 := ⟨xW_tab (i := 438) rfl rfl, xW_tab (i := 440) rfl rfl, xW_sel (i := 4) rfl rfl, xW_tab (i := 441) rfl rfl, by decide +kernel⟩
set_option maxRecDepth 100000 in
theorem g_mN_drop_121 : xcs mN_drop mN_latestPromise 121 2 := ⟨xW_tab (i := 537) rfl rfl, xW_tab (i := 538) rfl rfl, xW_tab (i := 1) rfl rfl, xW_tab (i := 539) rfl rfl, by decide +kernel⟩
set_option maxRecDepth 100000 in
theorem g_mN_drop_74 : xcs mN_drop mN_checkState 74 1 := ⟨xW_tab (i := 260) rfl rfl, xW_tab (i := 261) rfl rfl, xW_tab (i := 1) rfl rfl, xW_tab (i := 262) rfl rfl, by decide +kernel⟩
set_option maxRecDepth 100000 in
theorem g_mN_drop_113 : xcv "ChannelNet$Channel" mN_drop mC_hasRoomForState 113 0 := ⟨xW_tab (i := 475) rfl rfl, xW_tab (i := 476) rfl rfl, xW_tab (i := 477) rfl rfl, xW_tab (i := 478) rfl rfl, by decide +kernel⟩
set_option maxRecDepth 100000 in
theorem g_mN_drop_140 : xcv "ChannelNet$Channel" mN_drop mC_endPromise 140 2 := ⟨xW_tab (i := 545) rfl rfl, xW_tab (i := 546) rfl rfl, xW_tab (i := 547) rfl rfl, xW_tab (i := 548) rfl rfl, by decide +kernel⟩
set_option maxRecDepth 100000 in
theorem g_mL_close_43 : xcv "ChannelNet" mL_close mN_close 43 1 := ⟨xW_tab (i := 559) rfl rfl, xW_tab (i := 560) rfl rfl, xW_tab (i := 561) rfl rfl, xW_tab (i := 562) rfl rfl, by decide +kernel⟩
set_option maxRecDepth 100000 in
theorem g_mN_close_98 : xcv "ChannelNet" mN_close mN_channelAt 98 1 := ⟨xW_tab (i := 438) rfl rfl, xW_tab (i := 440) rfl rfl, xW_sel (i := 4) rfl rfl, xW_tab (i := 441) rfl rfl, by decide +kernel⟩
set_option maxRecDepth 100000 in
theorem g_mN_close_150 : xcv "ChannelNet$Channel" mN_close mC_promisesIn 150 1 := ⟨xW_tab (i := 563) rfl rfl, xW_tab (i := 465) rfl rfl, xW_tab (i := 466) rfl rfl, xW_tab (i := 467) rfl rfl, by decide +kernel⟩
set_option maxRecDepth 100000 in
theorem g_mN_close_74 : xcs mN_close mN_checkState 74 1 := ⟨xW_tab (i := 260) rfl rfl, xW_tab (i := 261) rfl rfl, xW_tab (i := 1) rfl rfl, xW_tab (i := 262) rfl rfl, by decide +kernel⟩
set_option maxRecDepth 100000 in
theorem g_mN_close_154 : xcv "ChannelNet" mN_close mN_payBalances 154 2 := ⟨xW_tab (i := 564) rfl rfl, xW_tab (i := 566) rfl rfl, xW_sel (i := 6) rfl rfl, xW_tab (i := 567) rfl rfl, by decide +kernel⟩
set_option maxRecDepth 100000 in
theorem g_mL_route_47 : xcv "ChannelNet" mL_route mN_route 47 3 := ⟨xW_tab (i := 571) rfl rfl, xW_tab (i := 572) rfl rfl, xW_tab (i := 573) rfl rfl, xW_tab (i := 574) rfl rfl, by decide +kernel⟩
set_option maxRecDepth 100000 in
theorem g_mN_route_198 : xcs mN_route mN_checkEnds 198 3 := ⟨xW_tab (i := 575) rfl rfl, xW_tab (i := 576) rfl rfl, xW_tab (i := 1) rfl rfl, xW_tab (i := 577) rfl rfl, by decide +kernel⟩
set_option maxRecDepth 100000 in
theorem g_mN_route_202 : xcv "ChannelNet" mN_route mN_findRoute 202 3 := ⟨xW_tab (i := 579) rfl rfl, xW_tab (i := 581) rfl rfl, xW_sel (i := 7) rfl rfl, xW_tab (i := 582) rfl rfl, by decide +kernel⟩
set_option maxRecDepth 100000 in
theorem g_mN_route_208 : xcv "ChannelNet$Route" mN_route mR_firstAmount 208 0 := ⟨xW_tab (i := 618) rfl rfl, xW_tab (i := 606) rfl rfl, xW_tab (i := 607) rfl rfl, xW_tab (i := 608) rfl rfl, by decide +kernel⟩
set_option maxRecDepth 100000 in
theorem g_mN_checkEnds_58 : xcs mN_checkEnds mN_checkNode 58 1 := ⟨xW_tab (i := 167) rfl rfl, xW_tab (i := 168) rfl rfl, xW_tab (i := 1) rfl rfl, xW_tab (i := 169) rfl rfl, by decide +kernel⟩
set_option maxRecDepth 100000 in
theorem g_mN_checkEnds_62 : xcs mN_checkEnds mN_checkArgument 62 1 := ⟨xW_tab (i := 241) rfl rfl, xW_tab (i := 242) rfl rfl, xW_tab (i := 1) rfl rfl, xW_tab (i := 243) rfl rfl, by decide +kernel⟩
set_option maxRecDepth 100000 in
theorem g_mN_findRoute_309 : xcv "ChannelNet" mN_findRoute mN_searchBack 309 5 := ⟨xW_tab (i := 583) rfl rfl, xW_tab (i := 585) rfl rfl, xW_sel (i := 8) rfl rfl, xW_tab (i := 586) rfl rfl, by decide +kernel⟩
set_option maxRecDepth 100000 in
theorem g_mN_searchBack_85 : xcv "java/util/ArrayList" mN_searchBack mA_size 85 0 := ⟨xW_tab (i := 149) rfl rfl, xW_tab (i := 150) rfl rfl, xW_tab (i := 151) rfl rfl, xW_tab (i := 152) rfl rfl, by decide +kernel⟩
set_option maxRecDepth 100000 in
theorem g_mN_searchBack_298 : xcv "java/util/ArrayList" mN_searchBack mA_get 298 1 := ⟨xW_tab (i := 442) rfl rfl, xW_tab (i := 443) rfl rfl, xW_tab (i := 444) rfl rfl, xW_tab (i := 445) rfl rfl, by decide +kernel⟩
set_option maxRecDepth 100000 in
theorem k_mN_searchBack_89 : xW (.classLink mN_searchBack.1.cls 89 "ChannelNet$Channel") ∧ xW (.castable "ChannelNet$Channel" "ChannelNet$Channel") := ⟨xW_tab (i := 279) rfl rfl, xW_tab (i := 1252) rfl rfl⟩
set_option maxRecDepth 100000 in
theorem g_mN_searchBack_102 : xcv "ChannelNet$Channel" mN_searchBack mC_joins 102 1 := ⟨xW_tab (i := 456) rfl rfl, xW_tab (i := 457) rfl rfl, xW_tab (i := 458) rfl rfl, xW_tab (i := 459) rfl rfl, by decide +kernel⟩
set_option maxRecDepth 100000 in
theorem g_mN_searchBack_313 : xcv "ChannelNet$Channel" mN_searchBack mC_partnerOf 313 1 := ⟨xW_tab (i := 587) rfl rfl, xW_tab (i := 489) rfl rfl, xW_tab (i := 490) rfl rfl, xW_tab (i := 491) rfl rfl, by decide +kernel⟩
set_option maxRecDepth 100000 in
theorem g_mN_searchBack_109 : xcv "ChannelNet$Channel" mN_searchBack mC_canCarry 109 2 := ⟨xW_tab (i := 460) rfl rfl, xW_tab (i := 461) rfl rfl, xW_tab (i := 462) rfl rfl, xW_tab (i := 463) rfl rfl, by decide +kernel⟩
set_option maxRecDepth 100000 in
theorem g_mN_searchBack_316 : xcv "ChannelNet$Route" mN_searchBack mR_put 316 4 := ⟨xW_tab (i := 588) rfl rfl, xW_tab (i := 589) rfl rfl, xW_tab (i := 590) rfl rfl, xW_tab (i := 591) rfl rfl, by decide +kernel⟩
set_option maxRecDepth 100000 in
theorem g_mN_searchBack_319 : xcv "ChannelNet" mN_searchBack mN_goOnFrom 319 5 := ⟨xW_tab (i := 592) rfl rfl, xW_tab (i := 594) rfl rfl, xW_sel (i := 9) rfl rfl, xW_tab (i := 595) rfl rfl, by decide +kernel⟩
set_option maxRecDepth 100000 in
theorem g_mN_goOnFrom_322 : xcv "ChannelNet" mN_goOnFrom mN_feeOf 322 2 := ⟨xW_tab (i := 596) rfl rfl, xW_tab (i := 598) rfl rfl, xW_sel (i := 10) rfl rfl, xW_tab (i := 599) rfl rfl, by decide +kernel⟩
set_option maxRecDepth 100000 in
theorem g_mN_goOnFrom_309 : xcv "ChannelNet" mN_goOnFrom mN_searchBack 309 5 := ⟨xW_tab (i := 583) rfl rfl, xW_tab (i := 585) rfl rfl, xW_sel (i := 8) rfl rfl, xW_tab (i := 586) rfl rfl, by decide +kernel⟩
set_option maxRecDepth 100000 in
theorem g_mN_goOnFrom_326 : xcv "ChannelNet$Route" mN_goOnFrom mR_isBetterThan 326 1 := ⟨xW_tab (i := 601) rfl rfl, xW_tab (i := 602) rfl rfl, xW_tab (i := 603) rfl rfl, xW_tab (i := 604) rfl rfl, by decide +kernel⟩
set_option maxRecDepth 100000 in
theorem g_mN_goOnFrom_330 : xcv "ChannelNet$Route" mN_goOnFrom mR_copy 330 1 := ⟨xW_tab (i := 613) rfl rfl, xW_tab (i := 614) rfl rfl, xW_tab (i := 615) rfl rfl, xW_tab (i := 616) rfl rfl, by decide +kernel⟩
set_option maxRecDepth 100000 in
theorem g_mR_isBetterThan_35 : xcv "ChannelNet$Route" mR_isBetterThan mR_firstAmount 35 0 := ⟨xW_tab (i := 605) rfl rfl, xW_tab (i := 606) rfl rfl, xW_tab (i := 607) rfl rfl, xW_tab (i := 608) rfl rfl, by decide +kernel⟩
set_option maxRecDepth 100000 in
theorem g_mR_firstAmount_25 : xcv "ChannelNet$Route" mR_firstAmount mR_slot 25 1 := ⟨xW_tab (i := 609) rfl rfl, xW_tab (i := 610) rfl rfl, xW_tab (i := 611) rfl rfl, xW_tab (i := 612) rfl rfl, by decide +kernel⟩
-- no code mR_copy 29 ('java/lang/System', 'arraycopy', '(Ljava/lang/Object;ILjava/lang/Object;II)V')
set_option maxRecDepth 100000 in
theorem g_mL_hop_51 : xcv "ChannelNet" mL_hop mN_hop 51 1 := ⟨xW_tab (i := 622) rfl rfl, xW_tab (i := 623) rfl rfl, xW_tab (i := 624) rfl rfl, xW_tab (i := 625) rfl rfl, by decide +kernel⟩
set_option maxRecDepth 100000 in
theorem g_mN_hop_106 : xcs mN_hop mN_checkIndex 106 1 := ⟨xW_tab (i := 170) rfl rfl, xW_tab (i := 171) rfl rfl, xW_tab (i := 1) rfl rfl, xW_tab (i := 172) rfl rfl, by decide +kernel⟩
set_option maxRecDepth 100000 in
theorem g_mN_hop_213 : xcv "ChannelNet$Route" mN_hop mR_slot 213 1 := ⟨xW_tab (i := 626) rfl rfl, xW_tab (i := 610) rfl rfl, xW_tab (i := 611) rfl rfl, xW_tab (i := 612) rfl rfl, by decide +kernel⟩
set_option maxRecDepth 100000 in
theorem g_mL_pay_55 : xcv "ChannelNet" mL_pay mN_pay 55 5 := ⟨xW_tab (i := 630) rfl rfl, xW_tab (i := 631) rfl rfl, xW_tab (i := 632) rfl rfl, xW_tab (i := 633) rfl rfl, by decide +kernel⟩
set_option maxRecDepth 100000 in
theorem g_mN_pay_198 : xcs mN_pay mN_checkEnds 198 3 := ⟨xW_tab (i := 575) rfl rfl, xW_tab (i := 576) rfl rfl, xW_tab (i := 1) rfl rfl, xW_tab (i := 577) rfl rfl, by decide +kernel⟩
set_option maxRecDepth 100000 in
theorem g_mN_pay_62 : xcs mN_pay mN_checkArgument 62 1 := ⟨xW_tab (i := 241) rfl rfl, xW_tab (i := 242) rfl rfl, xW_tab (i := 1) rfl rfl, xW_tab (i := 243) rfl rfl, by decide +kernel⟩
set_option maxRecDepth 100000 in
theorem g_mN_pay_85 : xcv "java/util/ArrayList" mN_pay mA_size 85 0 := ⟨xW_tab (i := 149) rfl rfl, xW_tab (i := 150) rfl rfl, xW_tab (i := 151) rfl rfl, xW_tab (i := 152) rfl rfl, by decide +kernel⟩
set_option maxRecDepth 100000 in
theorem g_mN_pay_74 : xcs mN_pay mN_checkState 74 1 := ⟨xW_tab (i := 260) rfl rfl, xW_tab (i := 261) rfl rfl, xW_tab (i := 1) rfl rfl, xW_tab (i := 262) rfl rfl, by decide +kernel⟩
set_option maxRecDepth 100000 in
theorem g_mN_pay_202 : xcv "ChannelNet" mN_pay mN_findRoute 202 3 := ⟨xW_tab (i := 579) rfl rfl, xW_tab (i := 581) rfl rfl, xW_sel (i := 7) rfl rfl, xW_tab (i := 582) rfl rfl, by decide +kernel⟩
set_option maxRecDepth 100000 in
theorem n_mN_pay_217 : xW (.classLink mN_pay.1.cls 217 "ChannelNet$Payment") ∧ xW (.instantiable "ChannelNet$Payment" 13) ∧ xW (.initialized "ChannelNet$Payment") := ⟨xW_tab (i := 635) rfl rfl, xW_tab (i := 636) rfl rfl, xW_tab (i := 22) rfl rfl⟩
set_option maxRecDepth 100000 in
theorem g_mN_pay_219 : xci mN_pay mY_init 219 3 := ⟨xW_tab (i := 637) rfl rfl, xW_tab (i := 638) rfl rfl, xW_tab (i := 639) rfl rfl, ⟨rfl, rfl, rfl⟩, by decide +kernel⟩
set_option maxRecDepth 100000 in
theorem g_mN_pay_222 : xcv "ChannelNet" mN_pay mN_fixDeadlines 222 2 := ⟨xW_tab (i := 695) rfl rfl, xW_tab (i := 697) rfl rfl, xW_sel (i := 11) rfl rfl, xW_tab (i := 698) rfl rfl, by decide +kernel⟩
set_option maxRecDepth 100000 in
theorem g_mN_pay_94 : xcv "java/util/ArrayList" mN_pay mA_add 94 1 := ⟨xW_tab (i := 336) rfl rfl, xW_tab (i := 337) rfl rfl, xW_tab (i := 338) rfl rfl, xW_tab (i := 339) rfl rfl, by decide +kernel⟩
set_option maxRecDepth 100000 in
theorem g_mY_init_3 : xW (.methodLink mY_init.1.cls 3 Lib.objectInit) ∧ xW (.instanceMethod Lib.objectInit) ∧ xW (.code Lib.objectInit ⟨#[0xb1]⟩ 1 none) := ⟨xW_tab (i := 640) rfl rfl, xW_tab (i := 29) rfl rfl, xW_tab (i := 30) rfl rfl⟩
set_option maxRecDepth 100000 in
theorem g_mY_init_57 : xcv "ChannelNet$Route" mY_init mR_slot 57 1 := ⟨xW_tab (i := 641) rfl rfl, xW_tab (i := 610) rfl rfl, xW_tab (i := 611) rfl rfl, xW_tab (i := 612) rfl rfl, by decide +kernel⟩
set_option maxRecDepth 100000 in
theorem g_mL_step_58 : xcv "ChannelNet" mL_step mN_step 58 1 := ⟨xW_tab (i := 702) rfl rfl, xW_tab (i := 703) rfl rfl, xW_tab (i := 704) rfl rfl, xW_tab (i := 705) rfl rfl, by decide +kernel⟩
set_option maxRecDepth 100000 in
theorem g_mN_step_226 : xcv "ChannelNet" mN_step mN_paymentAt 226 1 := ⟨xW_tab (i := 706) rfl rfl, xW_tab (i := 708) rfl rfl, xW_sel (i := 12) rfl rfl, xW_tab (i := 709) rfl rfl, by decide +kernel⟩
set_option maxRecDepth 100000 in
theorem g_mN_step_74 : xcs mN_step mN_checkState 74 1 := ⟨xW_tab (i := 260) rfl rfl, xW_tab (i := 261) rfl rfl, xW_tab (i := 1) rfl rfl, xW_tab (i := 262) rfl rfl, by decide +kernel⟩
set_option maxRecDepth 100000 in
theorem g_mN_step_231 : xcv "ChannelNet" mN_step mN_stepBack 231 1 := ⟨xW_tab (i := 710) rfl rfl, xW_tab (i := 712) rfl rfl, xW_sel (i := 13) rfl rfl, xW_tab (i := 713) rfl rfl, by decide +kernel⟩
set_option maxRecDepth 100000 in
theorem g_mN_step_239 : xcv "ChannelNet" mN_step mN_stepForward 239 1 := ⟨xW_tab (i := 726) rfl rfl, xW_tab (i := 728) rfl rfl, xW_sel (i := 16) rfl rfl, xW_tab (i := 729) rfl rfl, by decide +kernel⟩
set_option maxRecDepth 100000 in
theorem g_mN_step_81 : xcv "ChannelNet$Secrets" mN_step mS_isKnown 81 2 := ⟨xW_tab (i := 427) rfl rfl, xW_tab (i := 428) rfl rfl, xW_tab (i := 429) rfl rfl, xW_tab (i := 430) rfl rfl, by decide +kernel⟩
set_option maxRecDepth 100000 in
theorem g_mN_step_246 : xcv "ChannelNet$Payment" mN_step mY_turnBack 246 1 := ⟨xW_tab (i := 730) rfl rfl, xW_tab (i := 731) rfl rfl, xW_tab (i := 732) rfl rfl, xW_tab (i := 733) rfl rfl, by decide +kernel⟩
set_option maxRecDepth 100000 in
theorem g_mN_paymentAt_85 : xcv "java/util/ArrayList" mN_paymentAt mA_size 85 0 := ⟨xW_tab (i := 149) rfl rfl, xW_tab (i := 150) rfl rfl, xW_tab (i := 151) rfl rfl, xW_tab (i := 152) rfl rfl, by decide +kernel⟩
set_option maxRecDepth 100000 in
theorem g_mN_paymentAt_106 : xcs mN_paymentAt mN_checkIndex 106 1 := ⟨xW_tab (i := 170) rfl rfl, xW_tab (i := 171) rfl rfl, xW_tab (i := 1) rfl rfl, xW_tab (i := 172) rfl rfl, by decide +kernel⟩
set_option maxRecDepth 100000 in
theorem g_mN_paymentAt_298 : xcv "java/util/ArrayList" mN_paymentAt mA_get 298 1 := ⟨xW_tab (i := 442) rfl rfl, xW_tab (i := 443) rfl rfl, xW_tab (i := 444) rfl rfl, xW_tab (i := 445) rfl rfl, by decide +kernel⟩
set_option maxRecDepth 100000 in
theorem k_mN_paymentAt_217 : xW (.classLink mN_paymentAt.1.cls 217 "ChannelNet$Payment") ∧ xW (.castable "ChannelNet$Payment" "ChannelNet$Payment") := ⟨xW_tab (i := 635) rfl rfl, xW_tab (i := 1254) rfl rfl⟩
set_option maxRecDepth 100000 in
theorem g_mN_stepBack_98 : xcv "ChannelNet" mN_stepBack mN_channelAt 98 1 := ⟨xW_tab (i := 438) rfl rfl, xW_tab (i := 440) rfl rfl, xW_sel (i := 4) rfl rfl, xW_tab (i := 441) rfl rfl, by decide +kernel⟩
set_option maxRecDepth 100000 in
theorem g_mN_stepBack_189 : xcs mN_stepBack mN_promiseOf 189 2 := ⟨xW_tab (i := 540) rfl rfl, xW_tab (i := 541) rfl rfl, xW_tab (i := 1) rfl rfl, xW_tab (i := 542) rfl rfl, by decide +kernel⟩
set_option maxRecDepth 100000 in
theorem g_mN_stepBack_351 : xcv "ChannelNet" mN_stepBack mN_canEnd 351 3 := ⟨xW_tab (i := 714) rfl rfl, xW_tab (i := 716) rfl rfl, xW_sel (i := 14) rfl rfl, xW_tab (i := 717) rfl rfl, by decide +kernel⟩
set_option maxRecDepth 100000 in
theorem g_mN_stepBack_113 : xcv "ChannelNet$Channel" mN_stepBack mC_hasRoomForState 113 0 := ⟨xW_tab (i := 475) rfl rfl, xW_tab (i := 476) rfl rfl, xW_tab (i := 477) rfl rfl, xW_tab (i := 478) rfl rfl, by decide +kernel⟩
set_option maxRecDepth 100000 in
theorem g_mN_stepBack_74 : xcs mN_stepBack mN_checkState 74 1 := ⟨xW_tab (i := 260) rfl rfl, xW_tab (i := 261) rfl rfl, xW_tab (i := 1) rfl rfl, xW_tab (i := 262) rfl rfl, by decide +kernel⟩
set_option maxRecDepth 100000 in
theorem g_mN_stepBack_355 : xcv "ChannelNet" mN_stepBack mN_endAs 355 3 := ⟨xW_tab (i := 718) rfl rfl, xW_tab (i := 720) rfl rfl, xW_sel (i := 15) rfl rfl, xW_tab (i := 721) rfl rfl, by decide +kernel⟩
set_option maxRecDepth 100000 in
theorem g_mN_stepBack_358 : xcv "ChannelNet$Payment" mN_stepBack mY_goneBack 358 0 := ⟨xW_tab (i := 722) rfl rfl, xW_tab (i := 723) rfl rfl, xW_tab (i := 724) rfl rfl, xW_tab (i := 725) rfl rfl, by decide +kernel⟩
set_option maxRecDepth 100000 in
theorem g_mN_canEnd_195 : xcv "ChannelNet$Promise" mN_canEnd mP_isIn 195 1 := ⟨xW_tab (i := 544) rfl rfl, xW_tab (i := 472) rfl rfl, xW_tab (i := 473) rfl rfl, xW_tab (i := 474) rfl rfl, by decide +kernel⟩
set_option maxRecDepth 100000 in
theorem g_mN_endAs_140 : xcv "ChannelNet$Channel" mN_endAs mC_endPromise 140 2 := ⟨xW_tab (i := 545) rfl rfl, xW_tab (i := 546) rfl rfl, xW_tab (i := 547) rfl rfl, xW_tab (i := 548) rfl rfl, by decide +kernel⟩
set_option maxRecDepth 100000 in
theorem g_mN_endAs_77 : xcv "ChannelNet$Secrets" mN_endAs mS_learn 77 2 := ⟨xW_tab (i := 416) rfl rfl, xW_tab (i := 417) rfl rfl, xW_tab (i := 418) rfl rfl, xW_tab (i := 419) rfl rfl, by decide +kernel⟩
set_option maxRecDepth 100000 in
theorem g_mN_stepForward_98 : xcv "ChannelNet" mN_stepForward mN_channelAt 98 1 := ⟨xW_tab (i := 438) rfl rfl, xW_tab (i := 440) rfl rfl, xW_sel (i := 4) rfl rfl, xW_tab (i := 441) rfl rfl, by decide +kernel⟩
set_option maxRecDepth 100000 in
theorem g_mN_stepForward_109 : xcv "ChannelNet$Channel" mN_stepForward mC_canCarry 109 2 := ⟨xW_tab (i := 460) rfl rfl, xW_tab (i := 461) rfl rfl, xW_tab (i := 462) rfl rfl, xW_tab (i := 463) rfl rfl, by decide +kernel⟩
set_option maxRecDepth 100000 in
theorem g_mN_stepForward_246 : xcv "ChannelNet$Payment" mN_stepForward mY_turnBack 246 1 := ⟨xW_tab (i := 730) rfl rfl, xW_tab (i := 731) rfl rfl, xW_tab (i := 732) rfl rfl, xW_tab (i := 733) rfl rfl, by decide +kernel⟩
set_option maxRecDepth 100000 in
theorem g_mN_stepForward_113 : xcv "ChannelNet$Channel" mN_stepForward mC_hasRoomForState 113 0 := ⟨xW_tab (i := 475) rfl rfl, xW_tab (i := 476) rfl rfl, xW_tab (i := 477) rfl rfl, xW_tab (i := 478) rfl rfl, by decide +kernel⟩
set_option maxRecDepth 100000 in
theorem g_mN_stepForward_74 : xcs mN_stepForward mN_checkState 74 1 := ⟨xW_tab (i := 260) rfl rfl, xW_tab (i := 261) rfl rfl, xW_tab (i := 1) rfl rfl, xW_tab (i := 262) rfl rfl, by decide +kernel⟩
set_option maxRecDepth 100000 in
theorem g_mN_stepForward_117 : xcv "ChannelNet$Channel" mN_stepForward mC_addPromise 117 4 := ⟨xW_tab (i := 479) rfl rfl, xW_tab (i := 480) rfl rfl, xW_tab (i := 481) rfl rfl, xW_tab (i := 482) rfl rfl, by decide +kernel⟩
set_option maxRecDepth 100000 in
theorem g_mL_payment_61 : xcv "ChannelNet" mL_payment mN_payment 61 2 := ⟨xW_tab (i := 737) rfl rfl, xW_tab (i := 738) rfl rfl, xW_tab (i := 739) rfl rfl, xW_tab (i := 740) rfl rfl, by decide +kernel⟩
set_option maxRecDepth 100000 in
theorem g_mN_payment_226 : xcv "ChannelNet" mN_payment mN_paymentAt 226 1 := ⟨xW_tab (i := 706) rfl rfl, xW_tab (i := 708) rfl rfl, xW_sel (i := 12) rfl rfl, xW_tab (i := 709) rfl rfl, by decide +kernel⟩
set_option maxRecDepth 100000 in
theorem n_mN_payment_170 : xW (.classLink mN_payment.1.cls 170 "java/lang/IllegalArgumentException") ∧ xW (.initialized "java/lang/IllegalArgumentException") := ⟨xW_tab (i := 244) rfl rfl, xW_tab (i := 12) rfl rfl⟩
-- no code mN_payment 174 ('java/lang/IllegalArgumentException', '<init>', '(Ljava/lang/String;)V')
set_option maxRecDepth 100000 in
theorem g_mL_publish_64 : xcv "ChannelNet" mL_publish mN_publish 64 3 := ⟨xW_tab (i := 745) rfl rfl, xW_tab (i := 746) rfl rfl, xW_tab (i := 747) rfl rfl, xW_tab (i := 748) rfl rfl, by decide +kernel⟩
set_option maxRecDepth 100000 in
theorem g_mN_publish_98 : xcv "ChannelNet" mN_publish mN_channelAt 98 1 := ⟨xW_tab (i := 438) rfl rfl, xW_tab (i := 440) rfl rfl, xW_sel (i := 4) rfl rfl, xW_tab (i := 441) rfl rfl, by decide +kernel⟩
set_option maxRecDepth 100000 in
theorem g_mN_publish_102 : xcv "ChannelNet$Channel" mN_publish mC_joins 102 1 := ⟨xW_tab (i := 456) rfl rfl, xW_tab (i := 457) rfl rfl, xW_tab (i := 458) rfl rfl, xW_tab (i := 459) rfl rfl, by decide +kernel⟩
set_option maxRecDepth 100000 in
theorem g_mN_publish_106 : xcs mN_publish mN_checkIndex 106 1 := ⟨xW_tab (i := 170) rfl rfl, xW_tab (i := 171) rfl rfl, xW_tab (i := 1) rfl rfl, xW_tab (i := 172) rfl rfl, by decide +kernel⟩
set_option maxRecDepth 100000 in
theorem g_mN_publish_177 : xcv "ChannelNet$Channel" mN_publish mC_hasState 177 1 := ⟨xW_tab (i := 749) rfl rfl, xW_tab (i := 750) rfl rfl, xW_tab (i := 751) rfl rfl, xW_tab (i := 752) rfl rfl, by decide +kernel⟩
set_option maxRecDepth 100000 in
theorem g_mN_publish_74 : xcs mN_publish mN_checkState 74 1 := ⟨xW_tab (i := 260) rfl rfl, xW_tab (i := 261) rfl rfl, xW_tab (i := 1) rfl rfl, xW_tab (i := 262) rfl rfl, by decide +kernel⟩
set_option maxRecDepth 100000 in
theorem g_mL_punish_68 : xcv "ChannelNet" mL_punish mN_punish 68 1 := ⟨xW_tab (i := 756) rfl rfl, xW_tab (i := 757) rfl rfl, xW_tab (i := 758) rfl rfl, xW_tab (i := 759) rfl rfl, by decide +kernel⟩
set_option maxRecDepth 100000 in
theorem g_mN_punish_98 : xcv "ChannelNet" mN_punish mN_channelAt 98 1 := ⟨xW_tab (i := 438) rfl rfl, xW_tab (i := 440) rfl rfl, xW_sel (i := 4) rfl rfl, xW_tab (i := 441) rfl rfl, by decide +kernel⟩
set_option maxRecDepth 100000 in
theorem g_mN_punish_258 : xcv "ChannelNet$Channel" mN_punish mC_isPunishable 258 1 := ⟨xW_tab (i := 760) rfl rfl, xW_tab (i := 761) rfl rfl, xW_tab (i := 762) rfl rfl, xW_tab (i := 763) rfl rfl, by decide +kernel⟩
set_option maxRecDepth 100000 in
theorem g_mN_punish_74 : xcs mN_punish mN_checkState 74 1 := ⟨xW_tab (i := 260) rfl rfl, xW_tab (i := 261) rfl rfl, xW_tab (i := 1) rfl rfl, xW_tab (i := 262) rfl rfl, by decide +kernel⟩
set_option maxRecDepth 100000 in
theorem g_mN_punish_261 : xcv "ChannelNet" mN_punish mN_payPunisher 261 1 := ⟨xW_tab (i := 764) rfl rfl, xW_tab (i := 766) rfl rfl, xW_sel (i := 17) rfl rfl, xW_tab (i := 767) rfl rfl, by decide +kernel⟩
set_option maxRecDepth 100000 in
theorem g_mN_punish_265 : xcv "ChannelNet$Channel" mN_punish mC_punisher 265 0 := ⟨xW_tab (i := 768) rfl rfl, xW_tab (i := 769) rfl rfl, xW_tab (i := 770) rfl rfl, xW_tab (i := 771) rfl rfl, by decide +kernel⟩
set_option maxRecDepth 100000 in
theorem g_mN_payPunisher_265 : xcv "ChannelNet$Channel" mN_payPunisher mC_punisher 265 0 := ⟨xW_tab (i := 768) rfl rfl, xW_tab (i := 769) rfl rfl, xW_tab (i := 770) rfl rfl, xW_tab (i := 771) rfl rfl, by decide +kernel⟩
set_option maxRecDepth 100000 in
theorem g_mC_punisher_79 : xcv "ChannelNet$Channel" mC_punisher mC_partnerOf 79 1 := ⟨xW_tab (i := 488) rfl rfl, xW_tab (i := 489) rfl rfl, xW_tab (i := 490) rfl rfl, xW_tab (i := 491) rfl rfl, by decide +kernel⟩
set_option maxRecDepth 100000 in
theorem g_mL_claim_71 : xcv "ChannelNet" mL_claim mN_claim 71 3 := ⟨xW_tab (i := 775) rfl rfl, xW_tab (i := 776) rfl rfl, xW_tab (i := 777) rfl rfl, xW_tab (i := 778) rfl rfl, by decide +kernel⟩
set_option maxRecDepth 100000 in
theorem g_mN_claim_98 : xcv "ChannelNet" mN_claim mN_channelAt 98 1 := ⟨xW_tab (i := 438) rfl rfl, xW_tab (i := 440) rfl rfl, xW_sel (i := 4) rfl rfl, xW_tab (i := 441) rfl rfl, by decide +kernel⟩
set_option maxRecDepth 100000 in
theorem g_mN_claim_268 : xcs mN_claim mN_ledgerPromise 268 2 := ⟨xW_tab (i := 779) rfl rfl, xW_tab (i := 780) rfl rfl, xW_tab (i := 1) rfl rfl, xW_tab (i := 781) rfl rfl, by decide +kernel⟩
set_option maxRecDepth 100000 in
theorem g_mN_claim_66 : xcs mN_claim mN_lockOf 66 1 := ⟨xW_tab (i := 140) rfl rfl, xW_tab (i := 141) rfl rfl, xW_tab (i := 1) rfl rfl, xW_tab (i := 142) rfl rfl, by decide +kernel⟩
set_option maxRecDepth 100000 in
theorem g_mN_claim_62 : xcs mN_claim mN_checkArgument 62 1 := ⟨xW_tab (i := 241) rfl rfl, xW_tab (i := 242) rfl rfl, xW_tab (i := 1) rfl rfl, xW_tab (i := 243) rfl rfl, by decide +kernel⟩
set_option maxRecDepth 100000 in
theorem g_mN_claim_258 : xcv "ChannelNet$Channel" mN_claim mC_isPunishable 258 1 := ⟨xW_tab (i := 760) rfl rfl, xW_tab (i := 761) rfl rfl, xW_tab (i := 762) rfl rfl, xW_tab (i := 763) rfl rfl, by decide +kernel⟩
set_option maxRecDepth 100000 in
theorem g_mN_claim_74 : xcs mN_claim mN_checkState 74 1 := ⟨xW_tab (i := 260) rfl rfl, xW_tab (i := 261) rfl rfl, xW_tab (i := 1) rfl rfl, xW_tab (i := 262) rfl rfl, by decide +kernel⟩
set_option maxRecDepth 100000 in
theorem g_mN_claim_70 : xcv "ChannelNet$Secrets" mN_claim mS_hasRoomFor 70 1 := ⟨xW_tab (i := 408) rfl rfl, xW_tab (i := 409) rfl rfl, xW_tab (i := 410) rfl rfl, xW_tab (i := 411) rfl rfl, by decide +kernel⟩
set_option maxRecDepth 100000 in
theorem g_mN_claim_77 : xcv "ChannelNet$Secrets" mN_claim mS_learn 77 2 := ⟨xW_tab (i := 416) rfl rfl, xW_tab (i := 417) rfl rfl, xW_tab (i := 418) rfl rfl, xW_tab (i := 419) rfl rfl, by decide +kernel⟩
set_option maxRecDepth 100000 in
theorem g_mN_claim_271 : xcv "ChannelNet" mN_claim mN_payPromise 271 3 := ⟨xW_tab (i := 782) rfl rfl, xW_tab (i := 784) rfl rfl, xW_sel (i := 18) rfl rfl, xW_tab (i := 785) rfl rfl, by decide +kernel⟩
set_option maxRecDepth 100000 in
theorem g_mN_ledgerPromise_189 : xcs mN_ledgerPromise mN_promiseOf 189 2 := ⟨xW_tab (i := 540) rfl rfl, xW_tab (i := 541) rfl rfl, xW_tab (i := 1) rfl rfl, xW_tab (i := 542) rfl rfl, by decide +kernel⟩
set_option maxRecDepth 100000 in
theorem g_mN_ledgerPromise_195 : xcv "ChannelNet$Promise" mN_ledgerPromise mP_isIn 195 1 := ⟨xW_tab (i := 544) rfl rfl, xW_tab (i := 472) rfl rfl, xW_tab (i := 473) rfl rfl, xW_tab (i := 474) rfl rfl, by decide +kernel⟩
set_option maxRecDepth 100000 in
theorem g_mN_ledgerPromise_106 : xcs mN_ledgerPromise mN_checkIndex 106 1 := ⟨xW_tab (i := 170) rfl rfl, xW_tab (i := 171) rfl rfl, xW_tab (i := 1) rfl rfl, xW_tab (i := 172) rfl rfl, by decide +kernel⟩
set_option maxRecDepth 100000 in
theorem g_mN_payPromise_279 : xcv "ChannelNet$Channel" mN_payPromise mC_closeIfSpent 279 0 := ⟨xW_tab (i := 786) rfl rfl, xW_tab (i := 787) rfl rfl, xW_tab (i := 788) rfl rfl, xW_tab (i := 789) rfl rfl, by decide +kernel⟩
set_option maxRecDepth 100000 in
theorem g_mL_takeBack_74 : xcv "ChannelNet" mL_takeBack mN_takeBack 74 2 := ⟨xW_tab (i := 793) rfl rfl, xW_tab (i := 794) rfl rfl, xW_tab (i := 795) rfl rfl, xW_tab (i := 796) rfl rfl, by decide +kernel⟩
set_option maxRecDepth 100000 in
theorem g_mN_takeBack_98 : xcv "ChannelNet" mN_takeBack mN_channelAt 98 1 := ⟨xW_tab (i := 438) rfl rfl, xW_tab (i := 440) rfl rfl, xW_sel (i := 4) rfl rfl, xW_tab (i := 441) rfl rfl, by decide +kernel⟩
set_option maxRecDepth 100000 in
theorem g_mN_takeBack_268 : xcs mN_takeBack mN_ledgerPromise 268 2 := ⟨xW_tab (i := 779) rfl rfl, xW_tab (i := 780) rfl rfl, xW_tab (i := 1) rfl rfl, xW_tab (i := 781) rfl rfl, by decide +kernel⟩
set_option maxRecDepth 100000 in
theorem g_mN_takeBack_258 : xcv "ChannelNet$Channel" mN_takeBack mC_isPunishable 258 1 := ⟨xW_tab (i := 760) rfl rfl, xW_tab (i := 761) rfl rfl, xW_tab (i := 762) rfl rfl, xW_tab (i := 763) rfl rfl, by decide +kernel⟩
set_option maxRecDepth 100000 in
theorem g_mN_takeBack_74 : xcs mN_takeBack mN_checkState 74 1 := ⟨xW_tab (i := 260) rfl rfl, xW_tab (i := 261) rfl rfl, xW_tab (i := 1) rfl rfl, xW_tab (i := 262) rfl rfl, by decide +kernel⟩
set_option maxRecDepth 100000 in
theorem g_mN_takeBack_271 : xcv "ChannelNet" mN_takeBack mN_payPromise 271 3 := ⟨xW_tab (i := 782) rfl rfl, xW_tab (i := 784) rfl rfl, xW_sel (i := 18) rfl rfl, xW_tab (i := 785) rfl rfl, by decide +kernel⟩
set_option maxRecDepth 100000 in
theorem g_mL_settle_77 : xcv "ChannelNet" mL_settle mN_settle 77 1 := ⟨xW_tab (i := 800) rfl rfl, xW_tab (i := 801) rfl rfl, xW_tab (i := 802) rfl rfl, xW_tab (i := 803) rfl rfl, by decide +kernel⟩
set_option maxRecDepth 100000 in
theorem g_mN_settle_98 : xcv "ChannelNet" mN_settle mN_channelAt 98 1 := ⟨xW_tab (i := 438) rfl rfl, xW_tab (i := 440) rfl rfl, xW_sel (i := 4) rfl rfl, xW_tab (i := 441) rfl rfl, by decide +kernel⟩
set_option maxRecDepth 100000 in
theorem g_mN_settle_74 : xcs mN_settle mN_checkState 74 1 := ⟨xW_tab (i := 260) rfl rfl, xW_tab (i := 261) rfl rfl, xW_tab (i := 1) rfl rfl, xW_tab (i := 262) rfl rfl, by decide +kernel⟩
set_option maxRecDepth 100000 in
theorem g_mN_settle_154 : xcv "ChannelNet" mN_settle mN_payBalances 154 2 := ⟨xW_tab (i := 564) rfl rfl, xW_tab (i := 566) rfl rfl, xW_sel (i := 6) rfl rfl, xW_tab (i := 567) rfl rfl, by decide +kernel⟩
set_option maxRecDepth 100000 in
theorem g_mN_settle_279 : xcv "ChannelNet$Channel" mN_settle mC_closeIfSpent 279 0 := ⟨xW_tab (i := 786) rfl rfl, xW_tab (i := 787) rfl rfl, xW_tab (i := 788) rfl rfl, xW_tab (i := 789) rfl rfl, by decide +kernel⟩
set_option maxRecDepth 100000 in
theorem g_mL_watch_80 : xcv "ChannelNet" mL_watch mN_watch 80 2 := ⟨xW_tab (i := 807) rfl rfl, xW_tab (i := 808) rfl rfl, xW_tab (i := 809) rfl rfl, xW_tab (i := 810) rfl rfl, by decide +kernel⟩
set_option maxRecDepth 100000 in
theorem g_mN_watch_58 : xcs mN_watch mN_checkNode 58 1 := ⟨xW_tab (i := 167) rfl rfl, xW_tab (i := 168) rfl rfl, xW_tab (i := 1) rfl rfl, xW_tab (i := 169) rfl rfl, by decide +kernel⟩
set_option maxRecDepth 100000 in
theorem g_mL_grow_84 : xcv "ChannelNet" mL_grow mN_grow 84 1 := ⟨xW_tab (i := 814) rfl rfl, xW_tab (i := 815) rfl rfl, xW_tab (i := 816) rfl rfl, xW_tab (i := 817) rfl rfl, by decide +kernel⟩
set_option maxRecDepth 100000 in
theorem g_mN_grow_62 : xcs mN_grow mN_checkArgument 62 1 := ⟨xW_tab (i := 241) rfl rfl, xW_tab (i := 242) rfl rfl, xW_tab (i := 1) rfl rfl, xW_tab (i := 243) rfl rfl, by decide +kernel⟩
set_option maxRecDepth 100000 in
theorem g_mN_grow_282 : xcv "ChannelNet" mN_grow mN_punishAsWatched 282 0 := ⟨xW_tab (i := 818) rfl rfl, xW_tab (i := 820) rfl rfl, xW_sel (i := 19) rfl rfl, xW_tab (i := 821) rfl rfl, by decide +kernel⟩
set_option maxRecDepth 100000 in
theorem g_mN_punishAsWatched_85 : xcv "java/util/ArrayList" mN_punishAsWatched mA_size 85 0 := ⟨xW_tab (i := 149) rfl rfl, xW_tab (i := 150) rfl rfl, xW_tab (i := 151) rfl rfl, xW_tab (i := 152) rfl rfl, by decide +kernel⟩
set_option maxRecDepth 100000 in
theorem g_mN_punishAsWatched_298 : xcv "java/util/ArrayList" mN_punishAsWatched mA_get 298 1 := ⟨xW_tab (i := 442) rfl rfl, xW_tab (i := 443) rfl rfl, xW_tab (i := 444) rfl rfl, xW_tab (i := 445) rfl rfl, by decide +kernel⟩
set_option maxRecDepth 100000 in
theorem k_mN_punishAsWatched_89 : xW (.classLink mN_punishAsWatched.1.cls 89 "ChannelNet$Channel") ∧ xW (.castable "ChannelNet$Channel" "ChannelNet$Channel") := ⟨xW_tab (i := 279) rfl rfl, xW_tab (i := 1252) rfl rfl⟩
set_option maxRecDepth 100000 in
theorem g_mN_punishAsWatched_258 : xcv "ChannelNet$Channel" mN_punishAsWatched mC_isPunishable 258 1 := ⟨xW_tab (i := 760) rfl rfl, xW_tab (i := 761) rfl rfl, xW_tab (i := 762) rfl rfl, xW_tab (i := 763) rfl rfl, by decide +kernel⟩
set_option maxRecDepth 100000 in
theorem g_mN_punishAsWatched_265 : xcv "ChannelNet$Channel" mN_punishAsWatched mC_punisher 265 0 := ⟨xW_tab (i := 768) rfl rfl, xW_tab (i := 769) rfl rfl, xW_tab (i := 770) rfl rfl, xW_tab (i := 771) rfl rfl, by decide +kernel⟩
set_option maxRecDepth 100000 in
theorem g_mN_punishAsWatched_261 : xcv "ChannelNet" mN_punishAsWatched mN_payPunisher 261 1 := ⟨xW_tab (i := 764) rfl rfl, xW_tab (i := 766) rfl rfl, xW_sel (i := 17) rfl rfl, xW_tab (i := 767) rfl rfl, by decide +kernel⟩
set_option maxRecDepth 100000 in
theorem g_mL_coins_87 : xcv "ChannelNet" mL_coins mN_coins 87 1 := ⟨xW_tab (i := 825) rfl rfl, xW_tab (i := 826) rfl rfl, xW_tab (i := 827) rfl rfl, xW_tab (i := 828) rfl rfl, by decide +kernel⟩
set_option maxRecDepth 100000 in
theorem g_mN_coins_58 : xcs mN_coins mN_checkNode 58 1 := ⟨xW_tab (i := 167) rfl rfl, xW_tab (i := 168) rfl rfl, xW_tab (i := 1) rfl rfl, xW_tab (i := 169) rfl rfl, by decide +kernel⟩
set_option maxRecDepth 100000 in
theorem g_mL_channel_90 : xcv "ChannelNet" mL_channel mN_channel 90 2 := ⟨xW_tab (i := 832) rfl rfl, xW_tab (i := 833) rfl rfl, xW_tab (i := 834) rfl rfl, xW_tab (i := 835) rfl rfl, by decide +kernel⟩
set_option maxRecDepth 100000 in
theorem g_mN_channel_98 : xcv "ChannelNet" mN_channel mN_channelAt 98 1 := ⟨xW_tab (i := 438) rfl rfl, xW_tab (i := 440) rfl rfl, xW_sel (i := 4) rfl rfl, xW_tab (i := 441) rfl rfl, by decide +kernel⟩
set_option maxRecDepth 100000 in
theorem g_mN_channel_85 : xcv "java/util/ArrayList" mN_channel mA_size 85 0 := ⟨xW_tab (i := 149) rfl rfl, xW_tab (i := 150) rfl rfl, xW_tab (i := 151) rfl rfl, xW_tab (i := 152) rfl rfl, by decide +kernel⟩
set_option maxRecDepth 100000 in
theorem n_mN_channel_170 : xW (.classLink mN_channel.1.cls 170 "java/lang/IllegalArgumentException") ∧ xW (.initialized "java/lang/IllegalArgumentException") := ⟨xW_tab (i := 244) rfl rfl, xW_tab (i := 12) rfl rfl⟩
-- no code mN_channel 174 ('java/lang/IllegalArgumentException', '<init>', '(Ljava/lang/String;)V')
set_option maxRecDepth 100000 in
theorem g_mL_state_93 : xcv "ChannelNet" mL_state mN_state 93 3 := ⟨xW_tab (i := 839) rfl rfl, xW_tab (i := 840) rfl rfl, xW_tab (i := 841) rfl rfl, xW_tab (i := 842) rfl rfl, by decide +kernel⟩
set_option maxRecDepth 100000 in
theorem g_mN_state_98 : xcv "ChannelNet" mN_state mN_channelAt 98 1 := ⟨xW_tab (i := 438) rfl rfl, xW_tab (i := 440) rfl rfl, xW_sel (i := 4) rfl rfl, xW_tab (i := 441) rfl rfl, by decide +kernel⟩
set_option maxRecDepth 100000 in
theorem g_mN_state_177 : xcv "ChannelNet$Channel" mN_state mC_hasState 177 1 := ⟨xW_tab (i := 749) rfl rfl, xW_tab (i := 750) rfl rfl, xW_tab (i := 751) rfl rfl, xW_tab (i := 752) rfl rfl, by decide +kernel⟩
set_option maxRecDepth 100000 in
theorem g_mN_state_106 : xcs mN_state mN_checkIndex 106 1 := ⟨xW_tab (i := 170) rfl rfl, xW_tab (i := 171) rfl rfl, xW_tab (i := 1) rfl rfl, xW_tab (i := 172) rfl rfl, by decide +kernel⟩
set_option maxRecDepth 100000 in
theorem g_mN_state_150 : xcv "ChannelNet$Channel" mN_state mC_promisesIn 150 1 := ⟨xW_tab (i := 563) rfl rfl, xW_tab (i := 465) rfl rfl, xW_tab (i := 466) rfl rfl, xW_tab (i := 467) rfl rfl, by decide +kernel⟩
set_option maxRecDepth 100000 in
theorem g_mN_state_186 : xcv "ChannelNet$Channel" mN_state mC_promisedIn 186 1 := ⟨xW_tab (i := 843) rfl rfl, xW_tab (i := 844) rfl rfl, xW_tab (i := 845) rfl rfl, xW_tab (i := 846) rfl rfl, by decide +kernel⟩
set_option maxRecDepth 100000 in
theorem n_mN_state_170 : xW (.classLink mN_state.1.cls 170 "java/lang/IllegalArgumentException") ∧ xW (.initialized "java/lang/IllegalArgumentException") := ⟨xW_tab (i := 244) rfl rfl, xW_tab (i := 12) rfl rfl⟩
-- no code mN_state 174 ('java/lang/IllegalArgumentException', '<init>', '(Ljava/lang/String;)V')
set_option maxRecDepth 100000 in
theorem g_mC_promisedIn_54 : xcv "java/util/ArrayList" mC_promisedIn mA_size 54 0 := ⟨xW_tab (i := 468) rfl rfl, xW_tab (i := 150) rfl rfl, xW_tab (i := 151) rfl rfl, xW_tab (i := 152) rfl rfl, by decide +kernel⟩
set_option maxRecDepth 100000 in
theorem g_mC_promisedIn_58 : xcv "java/util/ArrayList" mC_promisedIn mA_get 58 1 := ⟨xW_tab (i := 469) rfl rfl, xW_tab (i := 443) rfl rfl, xW_tab (i := 444) rfl rfl, xW_tab (i := 445) rfl rfl, by decide +kernel⟩
set_option maxRecDepth 100000 in
theorem k_mC_promisedIn_62 : xW (.classLink mC_promisedIn.1.cls 62 "ChannelNet$Promise") ∧ xW (.castable "ChannelNet$Promise" "ChannelNet$Promise") := ⟨xW_tab (i := 470) rfl rfl, xW_tab (i := 1253) rfl rfl⟩
set_option maxRecDepth 100000 in
theorem g_mC_promisedIn_64 : xcv "ChannelNet$Promise" mC_promisedIn mP_isIn 64 1 := ⟨xW_tab (i := 471) rfl rfl, xW_tab (i := 472) rfl rfl, xW_tab (i := 473) rfl rfl, xW_tab (i := 474) rfl rfl, by decide +kernel⟩
set_option maxRecDepth 100000 in
theorem g_mL_made_96 : xcv "ChannelNet" mL_made mN_made 96 3 := ⟨xW_tab (i := 850) rfl rfl, xW_tab (i := 851) rfl rfl, xW_tab (i := 852) rfl rfl, xW_tab (i := 853) rfl rfl, by decide +kernel⟩
set_option maxRecDepth 100000 in
theorem g_mN_made_98 : xcv "ChannelNet" mN_made mN_channelAt 98 1 := ⟨xW_tab (i := 438) rfl rfl, xW_tab (i := 440) rfl rfl, xW_sel (i := 4) rfl rfl, xW_tab (i := 441) rfl rfl, by decide +kernel⟩
set_option maxRecDepth 100000 in
theorem g_mN_made_189 : xcs mN_made mN_promiseOf 189 2 := ⟨xW_tab (i := 540) rfl rfl, xW_tab (i := 541) rfl rfl, xW_tab (i := 1) rfl rfl, xW_tab (i := 542) rfl rfl, by decide +kernel⟩
set_option maxRecDepth 100000 in
theorem g_mN_made_195 : xcv "ChannelNet$Promise" mN_made mP_isIn 195 1 := ⟨xW_tab (i := 544) rfl rfl, xW_tab (i := 472) rfl rfl, xW_tab (i := 473) rfl rfl, xW_tab (i := 474) rfl rfl, by decide +kernel⟩
set_option maxRecDepth 100000 in
theorem n_mN_made_170 : xW (.classLink mN_made.1.cls 170 "java/lang/IllegalArgumentException") ∧ xW (.initialized "java/lang/IllegalArgumentException") := ⟨xW_tab (i := 244) rfl rfl, xW_tab (i := 12) rfl rfl⟩
-- no code mN_made 174 ('java/lang/IllegalArgumentException', '<init>', '(Ljava/lang/String;)V')
set_option maxRecDepth 100000 in
theorem g_mM_init_1 : xW (.methodLink mM_init.1.cls 1 Lib.objectInit) ∧ xW (.instanceMethod Lib.objectInit) ∧ xW (.code Lib.objectInit ⟨#[0xb1]⟩ 1 none) := ⟨xW_tab (i := 859) rfl rfl, xW_tab (i := 29) rfl rfl, xW_tab (i := 30) rfl rfl⟩
set_option maxRecDepth 100000 in
theorem g_mM_tell_158 : xcs mM_tell mM_lockOf 158 1 := ⟨xW_tab (i := 1014) rfl rfl, xW_tab (i := 1015) rfl rfl, xW_tab (i := 7) rfl rfl, xW_tab (i := 1016) rfl rfl, by decide +kernel⟩
set_option maxRecDepth 100000 in
theorem g_mM_tell_162 : xcs mM_tell mM_isNode 162 1 := ⟨xW_tab (i := 1019) rfl rfl, xW_tab (i := 1020) rfl rfl, xW_tab (i := 7) rfl rfl, xW_tab (i := 1021) rfl rfl, by decide +kernel⟩
set_option maxRecDepth 100000 in
theorem g_mM_tell_166 : xcv "ChannelNetModel" mM_tell mM_hasRoom 166 1 := ⟨xW_tab (i := 1025) rfl rfl, xW_tab (i := 1027) rfl rfl, xW_sel (i := 20) rfl rfl, xW_tab (i := 1028) rfl rfl, by decide +kernel⟩
set_option maxRecDepth 100000 in
theorem g_mM_tell_170 : xcv "ChannelNetModel" mM_tell mM_learn 170 2 := ⟨xW_tab (i := 1033) rfl rfl, xW_tab (i := 1035) rfl rfl, xW_sel (i := 22) rfl rfl, xW_tab (i := 1036) rfl rfl, by decide +kernel⟩
set_option maxRecDepth 100000 in
theorem g_mM_isNode_140 : xcs mM_isNode mM_isIn 140 3 := ⟨xW_tab (i := 1022) rfl rfl, xW_tab (i := 1023) rfl rfl, xW_tab (i := 7) rfl rfl, xW_tab (i := 1024) rfl rfl, by decide +kernel⟩
set_option maxRecDepth 100000 in
theorem g_mM_hasRoom_154 : xcv "ChannelNetModel" mM_hasRoom mM_find 154 1 := ⟨xW_tab (i := 1029) rfl rfl, xW_tab (i := 1031) rfl rfl, xW_sel (i := 21) rfl rfl, xW_tab (i := 1032) rfl rfl, by decide +kernel⟩
set_option maxRecDepth 100000 in
theorem g_mM_learn_154 : xcv "ChannelNetModel" mM_learn mM_find 154 1 := ⟨xW_tab (i := 1029) rfl rfl, xW_tab (i := 1031) rfl rfl, xW_sel (i := 21) rfl rfl, xW_tab (i := 1032) rfl rfl, by decide +kernel⟩
set_option maxRecDepth 100000 in
theorem g_mM_lock_158 : xcs mM_lock mM_lockOf 158 1 := ⟨xW_tab (i := 1014) rfl rfl, xW_tab (i := 1015) rfl rfl, xW_tab (i := 7) rfl rfl, xW_tab (i := 1016) rfl rfl, by decide +kernel⟩
set_option maxRecDepth 100000 in
theorem g_mM_knows_162 : xcs mM_knows mM_isNode 162 1 := ⟨xW_tab (i := 1019) rfl rfl, xW_tab (i := 1020) rfl rfl, xW_tab (i := 7) rfl rfl, xW_tab (i := 1021) rfl rfl, by decide +kernel⟩
set_option maxRecDepth 100000 in
theorem g_mM_knows_174 : xcv "ChannelNetModel" mM_knows mM_isKnown 174 2 := ⟨xW_tab (i := 1045) rfl rfl, xW_tab (i := 1047) rfl rfl, xW_sel (i := 23) rfl rfl, xW_tab (i := 1048) rfl rfl, by decide +kernel⟩
set_option maxRecDepth 100000 in
theorem g_mM_isKnown_154 : xcv "ChannelNetModel" mM_isKnown mM_find 154 1 := ⟨xW_tab (i := 1029) rfl rfl, xW_tab (i := 1031) rfl rfl, xW_sel (i := 21) rfl rfl, xW_tab (i := 1032) rfl rfl, by decide +kernel⟩
set_option maxRecDepth 100000 in
theorem g_mM_fees_162 : xcs mM_fees mM_isNode 162 1 := ⟨xW_tab (i := 1019) rfl rfl, xW_tab (i := 1020) rfl rfl, xW_tab (i := 7) rfl rfl, xW_tab (i := 1021) rfl rfl, by decide +kernel⟩
set_option maxRecDepth 100000 in
theorem g_mM_fees_140 : xcs mM_fees mM_isIn 140 3 := ⟨xW_tab (i := 1022) rfl rfl, xW_tab (i := 1023) rfl rfl, xW_tab (i := 7) rfl rfl, xW_tab (i := 1024) rfl rfl, by decide +kernel⟩
set_option maxRecDepth 100000 in
theorem g_mM_open_162 : xcs mM_open mM_isNode 162 1 := ⟨xW_tab (i := 1019) rfl rfl, xW_tab (i := 1020) rfl rfl, xW_tab (i := 7) rfl rfl, xW_tab (i := 1021) rfl rfl, by decide +kernel⟩
set_option maxRecDepth 100000 in
theorem g_mM_open_178 : xcs mM_open mM_cell 178 3 := ⟨xW_tab (i := 1057) rfl rfl, xW_tab (i := 1058) rfl rfl, xW_tab (i := 7) rfl rfl, xW_tab (i := 1059) rfl rfl, by decide +kernel⟩
set_option maxRecDepth 100000 in
theorem g_mM_promise_196 : xcv "ChannelNetModel" mM_promise mM_isChannel 196 1 := ⟨xW_tab (i := 1064) rfl rfl, xW_tab (i := 1066) rfl rfl, xW_sel (i := 24) rfl rfl, xW_tab (i := 1067) rfl rfl, by decide +kernel⟩
set_option maxRecDepth 100000 in
theorem g_mM_promise_199 : xcv "ChannelNetModel" mM_promise mM_sideOf 199 2 := ⟨xW_tab (i := 1068) rfl rfl, xW_tab (i := 1070) rfl rfl, xW_sel (i := 25) rfl rfl, xW_tab (i := 1071) rfl rfl, by decide +kernel⟩
set_option maxRecDepth 100000 in
theorem g_mM_promise_182 : xcv "ChannelNetModel" mM_promise mM_now 182 1 := ⟨xW_tab (i := 1072) rfl rfl, xW_tab (i := 1074) rfl rfl, xW_sel (i := 26) rfl rfl, xW_tab (i := 1075) rfl rfl, by decide +kernel⟩
set_option maxRecDepth 100000 in
theorem g_mM_promise_202 : xcs mM_promise mM_bits 202 1 := ⟨xW_tab (i := 1076) rfl rfl, xW_tab (i := 1077) rfl rfl, xW_tab (i := 7) rfl rfl, xW_tab (i := 1078) rfl rfl, by decide +kernel⟩
set_option maxRecDepth 100000 in
theorem g_mM_promise_205 : xcv "ChannelNetModel" mM_promise mM_hasState 205 1 := ⟨xW_tab (i := 1079) rfl rfl, xW_tab (i := 1081) rfl rfl, xW_sel (i := 27) rfl rfl, xW_tab (i := 1082) rfl rfl, by decide +kernel⟩
set_option maxRecDepth 100000 in
theorem g_mM_promise_208 : xcv "ChannelNetModel" mM_promise mM_balance 208 2 := ⟨xW_tab (i := 1083) rfl rfl, xW_tab (i := 1085) rfl rfl, xW_sel (i := 28) rfl rfl, xW_tab (i := 1086) rfl rfl, by decide +kernel⟩
set_option maxRecDepth 100000 in
theorem g_mM_promise_214 : xcv "ChannelNetModel" mM_promise mM_addPromise 214 5 := ⟨xW_tab (i := 1087) rfl rfl, xW_tab (i := 1089) rfl rfl, xW_sel (i := 29) rfl rfl, xW_tab (i := 1090) rfl rfl, by decide +kernel⟩
set_option maxRecDepth 100000 in
theorem g_mM_isChannel_140 : xcs mM_isChannel mM_isIn 140 3 := ⟨xW_tab (i := 1022) rfl rfl, xW_tab (i := 1023) rfl rfl, xW_tab (i := 7) rfl rfl, xW_tab (i := 1024) rfl rfl, by decide +kernel⟩
set_option maxRecDepth 100000 in
theorem g_mM_balance_178 : xcs mM_balance mM_cell 178 3 := ⟨xW_tab (i := 1057) rfl rfl, xW_tab (i := 1058) rfl rfl, xW_tab (i := 7) rfl rfl, xW_tab (i := 1059) rfl rfl, by decide +kernel⟩
set_option maxRecDepth 100000 in
theorem g_mM_addPromise_182 : xcv "ChannelNetModel" mM_addPromise mM_now 182 1 := ⟨xW_tab (i := 1072) rfl rfl, xW_tab (i := 1074) rfl rfl, xW_sel (i := 26) rfl rfl, xW_tab (i := 1075) rfl rfl, by decide +kernel⟩
set_option maxRecDepth 100000 in
theorem g_mM_addPromise_186 : xcv "ChannelNetModel" mM_addPromise mM_next 186 4 := ⟨xW_tab (i := 1091) rfl rfl, xW_tab (i := 1093) rfl rfl, xW_sel (i := 30) rfl rfl, xW_tab (i := 1094) rfl rfl, by decide +kernel⟩
set_option maxRecDepth 100000 in
theorem g_mM_next_178 : xcs mM_next mM_cell 178 3 := ⟨xW_tab (i := 1057) rfl rfl, xW_tab (i := 1058) rfl rfl, xW_tab (i := 7) rfl rfl, xW_tab (i := 1059) rfl rfl, by decide +kernel⟩
set_option maxRecDepth 100000 in
theorem g_mM_keep_158 : xcs mM_keep mM_lockOf 158 1 := ⟨xW_tab (i := 1014) rfl rfl, xW_tab (i := 1015) rfl rfl, xW_tab (i := 7) rfl rfl, xW_tab (i := 1016) rfl rfl, by decide +kernel⟩
set_option maxRecDepth 100000 in
theorem g_mM_keep_196 : xcv "ChannelNetModel" mM_keep mM_isChannel 196 1 := ⟨xW_tab (i := 1064) rfl rfl, xW_tab (i := 1066) rfl rfl, xW_sel (i := 24) rfl rfl, xW_tab (i := 1067) rfl rfl, by decide +kernel⟩
set_option maxRecDepth 100000 in
theorem g_mM_keep_182 : xcv "ChannelNetModel" mM_keep mM_now 182 1 := ⟨xW_tab (i := 1072) rfl rfl, xW_tab (i := 1074) rfl rfl, xW_sel (i := 26) rfl rfl, xW_tab (i := 1075) rfl rfl, by decide +kernel⟩
set_option maxRecDepth 100000 in
theorem g_mM_keep_218 : xcs mM_keep mM_hasBit 218 2 := ⟨xW_tab (i := 1099) rfl rfl, xW_tab (i := 1100) rfl rfl, xW_tab (i := 7) rfl rfl, xW_tab (i := 1101) rfl rfl, by decide +kernel⟩
set_option maxRecDepth 100000 in
theorem g_mM_keep_205 : xcv "ChannelNetModel" mM_keep mM_hasState 205 1 := ⟨xW_tab (i := 1079) rfl rfl, xW_tab (i := 1081) rfl rfl, xW_sel (i := 27) rfl rfl, xW_tab (i := 1082) rfl rfl, by decide +kernel⟩
set_option maxRecDepth 100000 in
theorem g_mM_keep_166 : xcv "ChannelNetModel" mM_keep mM_hasRoom 166 1 := ⟨xW_tab (i := 1025) rfl rfl, xW_tab (i := 1027) rfl rfl, xW_sel (i := 20) rfl rfl, xW_tab (i := 1028) rfl rfl, by decide +kernel⟩
set_option maxRecDepth 100000 in
theorem g_mM_keep_222 : xcv "ChannelNetModel" mM_keep mM_keepPromise 222 2 := ⟨xW_tab (i := 1102) rfl rfl, xW_tab (i := 1104) rfl rfl, xW_sel (i := 31) rfl rfl, xW_tab (i := 1105) rfl rfl, by decide +kernel⟩
set_option maxRecDepth 100000 in
theorem g_mM_keep_192 : xcv "ChannelNetModel" mM_keep mM_nodeOf 192 2 := ⟨xW_tab (i := 1107) rfl rfl, xW_tab (i := 1109) rfl rfl, xW_sel (i := 32) rfl rfl, xW_tab (i := 1110) rfl rfl, by decide +kernel⟩
set_option maxRecDepth 100000 in
theorem g_mM_keep_170 : xcv "ChannelNetModel" mM_keep mM_learn 170 2 := ⟨xW_tab (i := 1033) rfl rfl, xW_tab (i := 1035) rfl rfl, xW_sel (i := 22) rfl rfl, xW_tab (i := 1036) rfl rfl, by decide +kernel⟩
set_option maxRecDepth 100000 in
theorem g_mM_keepPromise_182 : xcv "ChannelNetModel" mM_keepPromise mM_now 182 1 := ⟨xW_tab (i := 1072) rfl rfl, xW_tab (i := 1074) rfl rfl, xW_sel (i := 26) rfl rfl, xW_tab (i := 1075) rfl rfl, by decide +kernel⟩
set_option maxRecDepth 100000 in
theorem g_mM_keepPromise_186 : xcv "ChannelNetModel" mM_keepPromise mM_next 186 4 := ⟨xW_tab (i := 1091) rfl rfl, xW_tab (i := 1093) rfl rfl, xW_sel (i := 30) rfl rfl, xW_tab (i := 1094) rfl rfl, by decide +kernel⟩
set_option maxRecDepth 100000 in
theorem g_mM_keepPromise_192 : xcv "ChannelNetModel" mM_keepPromise mM_nodeOf 192 2 := ⟨xW_tab (i := 1107) rfl rfl, xW_tab (i := 1109) rfl rfl, xW_sel (i := 32) rfl rfl, xW_tab (i := 1110) rfl rfl, by decide +kernel⟩
set_option maxRecDepth 100000 in
theorem g_mM_keepPromise_170 : xcv "ChannelNetModel" mM_keepPromise mM_learn 170 2 := ⟨xW_tab (i := 1033) rfl rfl, xW_tab (i := 1035) rfl rfl, xW_sel (i := 22) rfl rfl, xW_tab (i := 1036) rfl rfl, by decide +kernel⟩
set_option maxRecDepth 100000 in
theorem g_mM_drop_196 : xcv "ChannelNetModel" mM_drop mM_isChannel 196 1 := ⟨xW_tab (i := 1064) rfl rfl, xW_tab (i := 1066) rfl rfl, xW_sel (i := 24) rfl rfl, xW_tab (i := 1067) rfl rfl, by decide +kernel⟩
set_option maxRecDepth 100000 in
theorem g_mM_drop_182 : xcv "ChannelNetModel" mM_drop mM_now 182 1 := ⟨xW_tab (i := 1072) rfl rfl, xW_tab (i := 1074) rfl rfl, xW_sel (i := 26) rfl rfl, xW_tab (i := 1075) rfl rfl, by decide +kernel⟩
set_option maxRecDepth 100000 in
theorem g_mM_drop_218 : xcs mM_drop mM_hasBit 218 2 := ⟨xW_tab (i := 1099) rfl rfl, xW_tab (i := 1100) rfl rfl, xW_tab (i := 7) rfl rfl, xW_tab (i := 1101) rfl rfl, by decide +kernel⟩
set_option maxRecDepth 100000 in
theorem g_mM_drop_205 : xcv "ChannelNetModel" mM_drop mM_hasState 205 1 := ⟨xW_tab (i := 1079) rfl rfl, xW_tab (i := 1081) rfl rfl, xW_sel (i := 27) rfl rfl, xW_tab (i := 1082) rfl rfl, by decide +kernel⟩
set_option maxRecDepth 100000 in
theorem g_mM_drop_226 : xcv "ChannelNetModel" mM_drop mM_dropPromise 226 2 := ⟨xW_tab (i := 1115) rfl rfl, xW_tab (i := 1117) rfl rfl, xW_sel (i := 33) rfl rfl, xW_tab (i := 1118) rfl rfl, by decide +kernel⟩
set_option maxRecDepth 100000 in
theorem g_mM_dropPromise_182 : xcv "ChannelNetModel" mM_dropPromise mM_now 182 1 := ⟨xW_tab (i := 1072) rfl rfl, xW_tab (i := 1074) rfl rfl, xW_sel (i := 26) rfl rfl, xW_tab (i := 1075) rfl rfl, by decide +kernel⟩
set_option maxRecDepth 100000 in
theorem g_mM_dropPromise_186 : xcv "ChannelNetModel" mM_dropPromise mM_next 186 4 := ⟨xW_tab (i := 1091) rfl rfl, xW_tab (i := 1093) rfl rfl, xW_sel (i := 30) rfl rfl, xW_tab (i := 1094) rfl rfl, by decide +kernel⟩
set_option maxRecDepth 100000 in
theorem g_mM_close_196 : xcv "ChannelNetModel" mM_close mM_isChannel 196 1 := ⟨xW_tab (i := 1064) rfl rfl, xW_tab (i := 1066) rfl rfl, xW_sel (i := 24) rfl rfl, xW_tab (i := 1067) rfl rfl, by decide +kernel⟩
set_option maxRecDepth 100000 in
theorem g_mM_close_182 : xcv "ChannelNetModel" mM_close mM_now 182 1 := ⟨xW_tab (i := 1072) rfl rfl, xW_tab (i := 1074) rfl rfl, xW_sel (i := 26) rfl rfl, xW_tab (i := 1075) rfl rfl, by decide +kernel⟩
set_option maxRecDepth 100000 in
theorem g_mM_close_208 : xcv "ChannelNetModel" mM_close mM_balance 208 2 := ⟨xW_tab (i := 1083) rfl rfl, xW_tab (i := 1085) rfl rfl, xW_sel (i := 28) rfl rfl, xW_tab (i := 1086) rfl rfl, by decide +kernel⟩
set_option maxRecDepth 100000 in
theorem g_mM_close_229 : xcv "ChannelNetModel" mM_close mM_shut 229 1 := ⟨xW_tab (i := 1123) rfl rfl, xW_tab (i := 1125) rfl rfl, xW_sel (i := 34) rfl rfl, xW_tab (i := 1126) rfl rfl, by decide +kernel⟩
set_option maxRecDepth 100000 in
theorem g_mM_route_162 : xcs mM_route mM_isNode 162 1 := ⟨xW_tab (i := 1019) rfl rfl, xW_tab (i := 1020) rfl rfl, xW_tab (i := 7) rfl rfl, xW_tab (i := 1021) rfl rfl, by decide +kernel⟩
set_option maxRecDepth 100000 in
theorem g_mM_route_249 : xcv "ChannelNetModel" mM_route mM_isProper 249 3 := ⟨xW_tab (i := 1131) rfl rfl, xW_tab (i := 1133) rfl rfl, xW_sel (i := 35) rfl rfl, xW_tab (i := 1134) rfl rfl, by decide +kernel⟩
set_option maxRecDepth 100000 in
theorem g_mM_route_252 : xcv "ChannelNetModel" mM_route mM_search 252 3 := ⟨xW_tab (i := 1136) rfl rfl, xW_tab (i := 1138) rfl rfl, xW_sel (i := 36) rfl rfl, xW_tab (i := 1139) rfl rfl, by decide +kernel⟩
set_option maxRecDepth 100000 in
theorem g_mM_isProper_140 : xcs mM_isProper mM_isIn 140 3 := ⟨xW_tab (i := 1022) rfl rfl, xW_tab (i := 1023) rfl rfl, xW_tab (i := 7) rfl rfl, xW_tab (i := 1024) rfl rfl, by decide +kernel⟩
set_option maxRecDepth 100000 in
theorem g_mM_search_199 : xcv "ChannelNetModel" mM_search mM_sideOf 199 2 := ⟨xW_tab (i := 1068) rfl rfl, xW_tab (i := 1070) rfl rfl, xW_sel (i := 25) rfl rfl, xW_tab (i := 1071) rfl rfl, by decide +kernel⟩
set_option maxRecDepth 100000 in
theorem g_mM_search_192 : xcv "ChannelNetModel" mM_search mM_nodeOf 192 2 := ⟨xW_tab (i := 1107) rfl rfl, xW_tab (i := 1109) rfl rfl, xW_sel (i := 32) rfl rfl, xW_tab (i := 1110) rfl rfl, by decide +kernel⟩
set_option maxRecDepth 100000 in
theorem g_mM_search_239 : xcv "ChannelNetModel" mM_search mM_carries 239 3 := ⟨xW_tab (i := 1140) rfl rfl, xW_tab (i := 1142) rfl rfl, xW_sel (i := 37) rfl rfl, xW_tab (i := 1143) rfl rfl, by decide +kernel⟩
set_option maxRecDepth 100000 in
theorem g_mM_search_243 : xcv "ChannelNetModel" mM_search mM_isBetter 243 1 := ⟨xW_tab (i := 1144) rfl rfl, xW_tab (i := 1146) rfl rfl, xW_sel (i := 38) rfl rfl, xW_tab (i := 1147) rfl rfl, by decide +kernel⟩
set_option maxRecDepth 100000 in
theorem g_mM_carries_182 : xcv "ChannelNetModel" mM_carries mM_now 182 1 := ⟨xW_tab (i := 1072) rfl rfl, xW_tab (i := 1074) rfl rfl, xW_sel (i := 26) rfl rfl, xW_tab (i := 1075) rfl rfl, by decide +kernel⟩
set_option maxRecDepth 100000 in
theorem g_mM_carries_202 : xcs mM_carries mM_bits 202 1 := ⟨xW_tab (i := 1076) rfl rfl, xW_tab (i := 1077) rfl rfl, xW_tab (i := 7) rfl rfl, xW_tab (i := 1078) rfl rfl, by decide +kernel⟩
set_option maxRecDepth 100000 in
theorem g_mM_carries_208 : xcv "ChannelNetModel" mM_carries mM_balance 208 2 := ⟨xW_tab (i := 1083) rfl rfl, xW_tab (i := 1085) rfl rfl, xW_sel (i := 28) rfl rfl, xW_tab (i := 1086) rfl rfl, by decide +kernel⟩
set_option maxRecDepth 100000 in
theorem g_mM_hop_140 : xcs mM_hop mM_isIn 140 3 := ⟨xW_tab (i := 1022) rfl rfl, xW_tab (i := 1023) rfl rfl, xW_tab (i := 7) rfl rfl, xW_tab (i := 1024) rfl rfl, by decide +kernel⟩
set_option maxRecDepth 100000 in
theorem g_mM_pay_162 : xcs mM_pay mM_isNode 162 1 := ⟨xW_tab (i := 1019) rfl rfl, xW_tab (i := 1020) rfl rfl, xW_tab (i := 7) rfl rfl, xW_tab (i := 1021) rfl rfl, by decide +kernel⟩
set_option maxRecDepth 100000 in
theorem g_mM_pay_249 : xcv "ChannelNetModel" mM_pay mM_isProper 249 3 := ⟨xW_tab (i := 1131) rfl rfl, xW_tab (i := 1133) rfl rfl, xW_sel (i := 35) rfl rfl, xW_tab (i := 1134) rfl rfl, by decide +kernel⟩
set_option maxRecDepth 100000 in
theorem g_mM_pay_140 : xcs mM_pay mM_isIn 140 3 := ⟨xW_tab (i := 1022) rfl rfl, xW_tab (i := 1023) rfl rfl, xW_tab (i := 7) rfl rfl, xW_tab (i := 1024) rfl rfl, by decide +kernel⟩
set_option maxRecDepth 100000 in
theorem g_mM_pay_252 : xcv "ChannelNetModel" mM_pay mM_search 252 3 := ⟨xW_tab (i := 1136) rfl rfl, xW_tab (i := 1138) rfl rfl, xW_sel (i := 36) rfl rfl, xW_tab (i := 1139) rfl rfl, by decide +kernel⟩
set_option maxRecDepth 100000 in
theorem g_mM_pay_199 : xcv "ChannelNetModel" mM_pay mM_sideOf 199 2 := ⟨xW_tab (i := 1068) rfl rfl, xW_tab (i := 1070) rfl rfl, xW_sel (i := 25) rfl rfl, xW_tab (i := 1071) rfl rfl, by decide +kernel⟩
set_option maxRecDepth 100000 in
theorem g_mM_pay_192 : xcv "ChannelNetModel" mM_pay mM_nodeOf 192 2 := ⟨xW_tab (i := 1107) rfl rfl, xW_tab (i := 1109) rfl rfl, xW_sel (i := 32) rfl rfl, xW_tab (i := 1110) rfl rfl, by decide +kernel⟩
set_option maxRecDepth 100000 in
theorem g_mM_step_140 : xcs mM_step mM_isIn 140 3 := ⟨xW_tab (i := 1022) rfl rfl, xW_tab (i := 1023) rfl rfl, xW_tab (i := 7) rfl rfl, xW_tab (i := 1024) rfl rfl, by decide +kernel⟩
set_option maxRecDepth 100000 in
theorem g_mM_step_263 : xcv "ChannelNetModel" mM_step mM_forward 263 1 := ⟨xW_tab (i := 1162) rfl rfl, xW_tab (i := 1164) rfl rfl, xW_sel (i := 39) rfl rfl, xW_tab (i := 1165) rfl rfl, by decide +kernel⟩
set_option maxRecDepth 100000 in
theorem g_mM_step_267 : xcv "ChannelNetModel" mM_step mM_backward 267 1 := ⟨xW_tab (i := 1170) rfl rfl, xW_tab (i := 1172) rfl rfl, xW_sel (i := 41) rfl rfl, xW_tab (i := 1173) rfl rfl, by decide +kernel⟩
set_option maxRecDepth 100000 in
theorem g_mM_forward_174 : xcv "ChannelNetModel" mM_forward mM_isKnown 174 2 := ⟨xW_tab (i := 1045) rfl rfl, xW_tab (i := 1047) rfl rfl, xW_sel (i := 23) rfl rfl, xW_tab (i := 1048) rfl rfl, by decide +kernel⟩
set_option maxRecDepth 100000 in
theorem g_mM_forward_260 : xcv "ChannelNetModel" mM_forward mM_turn 260 2 := ⟨xW_tab (i := 1166) rfl rfl, xW_tab (i := 1168) rfl rfl, xW_sel (i := 40) rfl rfl, xW_tab (i := 1169) rfl rfl, by decide +kernel⟩
set_option maxRecDepth 100000 in
theorem g_mM_forward_199 : xcv "ChannelNetModel" mM_forward mM_sideOf 199 2 := ⟨xW_tab (i := 1068) rfl rfl, xW_tab (i := 1070) rfl rfl, xW_sel (i := 25) rfl rfl, xW_tab (i := 1071) rfl rfl, by decide +kernel⟩
set_option maxRecDepth 100000 in
theorem g_mM_forward_239 : xcv "ChannelNetModel" mM_forward mM_carries 239 3 := ⟨xW_tab (i := 1140) rfl rfl, xW_tab (i := 1142) rfl rfl, xW_sel (i := 37) rfl rfl, xW_tab (i := 1143) rfl rfl, by decide +kernel⟩
set_option maxRecDepth 100000 in
theorem g_mM_forward_205 : xcv "ChannelNetModel" mM_forward mM_hasState 205 1 := ⟨xW_tab (i := 1079) rfl rfl, xW_tab (i := 1081) rfl rfl, xW_sel (i := 27) rfl rfl, xW_tab (i := 1082) rfl rfl, by decide +kernel⟩
set_option maxRecDepth 100000 in
theorem g_mM_forward_214 : xcv "ChannelNetModel" mM_forward mM_addPromise 214 5 := ⟨xW_tab (i := 1087) rfl rfl, xW_tab (i := 1089) rfl rfl, xW_sel (i := 29) rfl rfl, xW_tab (i := 1090) rfl rfl, by decide +kernel⟩
set_option maxRecDepth 100000 in
theorem g_mM_backward_182 : xcv "ChannelNetModel" mM_backward mM_now 182 1 := ⟨xW_tab (i := 1072) rfl rfl, xW_tab (i := 1074) rfl rfl, xW_sel (i := 26) rfl rfl, xW_tab (i := 1075) rfl rfl, by decide +kernel⟩
set_option maxRecDepth 100000 in
theorem g_mM_backward_218 : xcs mM_backward mM_hasBit 218 2 := ⟨xW_tab (i := 1099) rfl rfl, xW_tab (i := 1100) rfl rfl, xW_tab (i := 7) rfl rfl, xW_tab (i := 1101) rfl rfl, by decide +kernel⟩
set_option maxRecDepth 100000 in
theorem g_mM_backward_205 : xcv "ChannelNetModel" mM_backward mM_hasState 205 1 := ⟨xW_tab (i := 1079) rfl rfl, xW_tab (i := 1081) rfl rfl, xW_sel (i := 27) rfl rfl, xW_tab (i := 1082) rfl rfl, by decide +kernel⟩
set_option maxRecDepth 100000 in
theorem g_mM_backward_222 : xcv "ChannelNetModel" mM_backward mM_keepPromise 222 2 := ⟨xW_tab (i := 1102) rfl rfl, xW_tab (i := 1104) rfl rfl, xW_sel (i := 31) rfl rfl, xW_tab (i := 1105) rfl rfl, by decide +kernel⟩
set_option maxRecDepth 100000 in
theorem g_mM_backward_226 : xcv "ChannelNetModel" mM_backward mM_dropPromise 226 2 := ⟨xW_tab (i := 1115) rfl rfl, xW_tab (i := 1117) rfl rfl, xW_sel (i := 33) rfl rfl, xW_tab (i := 1118) rfl rfl, by decide +kernel⟩
set_option maxRecDepth 100000 in
theorem g_mM_payment_140 : xcs mM_payment mM_isIn 140 3 := ⟨xW_tab (i := 1022) rfl rfl, xW_tab (i := 1023) rfl rfl, xW_tab (i := 7) rfl rfl, xW_tab (i := 1024) rfl rfl, by decide +kernel⟩
set_option maxRecDepth 100000 in
theorem g_mM_publish_196 : xcv "ChannelNetModel" mM_publish mM_isChannel 196 1 := ⟨xW_tab (i := 1064) rfl rfl, xW_tab (i := 1066) rfl rfl, xW_sel (i := 24) rfl rfl, xW_tab (i := 1067) rfl rfl, by decide +kernel⟩
set_option maxRecDepth 100000 in
theorem g_mM_publish_199 : xcv "ChannelNetModel" mM_publish mM_sideOf 199 2 := ⟨xW_tab (i := 1068) rfl rfl, xW_tab (i := 1070) rfl rfl, xW_sel (i := 25) rfl rfl, xW_tab (i := 1071) rfl rfl, by decide +kernel⟩
set_option maxRecDepth 100000 in
theorem g_mM_publish_140 : xcs mM_publish mM_isIn 140 3 := ⟨xW_tab (i := 1022) rfl rfl, xW_tab (i := 1023) rfl rfl, xW_tab (i := 7) rfl rfl, xW_tab (i := 1024) rfl rfl, by decide +kernel⟩
set_option maxRecDepth 100000 in
theorem g_mM_punish_196 : xcv "ChannelNetModel" mM_punish mM_isChannel 196 1 := ⟨xW_tab (i := 1064) rfl rfl, xW_tab (i := 1066) rfl rfl, xW_sel (i := 24) rfl rfl, xW_tab (i := 1067) rfl rfl, by decide +kernel⟩
set_option maxRecDepth 100000 in
theorem g_mM_punish_273 : xcv "ChannelNetModel" mM_punish mM_mayPunish 273 1 := ⟨xW_tab (i := 1186) rfl rfl, xW_tab (i := 1188) rfl rfl, xW_sel (i := 42) rfl rfl, xW_tab (i := 1189) rfl rfl, by decide +kernel⟩
set_option maxRecDepth 100000 in
theorem g_mM_punish_276 : xcv "ChannelNetModel" mM_punish mM_punished 276 1 := ⟨xW_tab (i := 1190) rfl rfl, xW_tab (i := 1192) rfl rfl, xW_sel (i := 43) rfl rfl, xW_tab (i := 1193) rfl rfl, by decide +kernel⟩
set_option maxRecDepth 100000 in
theorem g_mM_punish_270 : xcv "ChannelNetModel" mM_punish mM_other 270 1 := ⟨xW_tab (i := 1194) rfl rfl, xW_tab (i := 1196) rfl rfl, xW_sel (i := 44) rfl rfl, xW_tab (i := 1197) rfl rfl, by decide +kernel⟩
set_option maxRecDepth 100000 in
theorem g_mM_punished_270 : xcv "ChannelNetModel" mM_punished mM_other 270 1 := ⟨xW_tab (i := 1194) rfl rfl, xW_tab (i := 1196) rfl rfl, xW_sel (i := 44) rfl rfl, xW_tab (i := 1197) rfl rfl, by decide +kernel⟩
set_option maxRecDepth 100000 in
theorem g_mM_punished_229 : xcv "ChannelNetModel" mM_punished mM_shut 229 1 := ⟨xW_tab (i := 1123) rfl rfl, xW_tab (i := 1125) rfl rfl, xW_sel (i := 34) rfl rfl, xW_tab (i := 1126) rfl rfl, by decide +kernel⟩
set_option maxRecDepth 100000 in
theorem g_mM_other_199 : xcv "ChannelNetModel" mM_other mM_sideOf 199 2 := ⟨xW_tab (i := 1068) rfl rfl, xW_tab (i := 1070) rfl rfl, xW_sel (i := 25) rfl rfl, xW_tab (i := 1071) rfl rfl, by decide +kernel⟩
set_option maxRecDepth 100000 in
theorem g_mM_other_192 : xcv "ChannelNetModel" mM_other mM_nodeOf 192 2 := ⟨xW_tab (i := 1107) rfl rfl, xW_tab (i := 1109) rfl rfl, xW_sel (i := 32) rfl rfl, xW_tab (i := 1110) rfl rfl, by decide +kernel⟩
set_option maxRecDepth 100000 in
theorem g_mM_claim_158 : xcs mM_claim mM_lockOf 158 1 := ⟨xW_tab (i := 1014) rfl rfl, xW_tab (i := 1015) rfl rfl, xW_tab (i := 7) rfl rfl, xW_tab (i := 1016) rfl rfl, by decide +kernel⟩
set_option maxRecDepth 100000 in
theorem g_mM_claim_279 : xcv "ChannelNetModel" mM_claim mM_isLeft 279 2 := ⟨xW_tab (i := 1202) rfl rfl, xW_tab (i := 1204) rfl rfl, xW_sel (i := 45) rfl rfl, xW_tab (i := 1205) rfl rfl, by decide +kernel⟩
set_option maxRecDepth 100000 in
theorem g_mM_claim_273 : xcv "ChannelNetModel" mM_claim mM_mayPunish 273 1 := ⟨xW_tab (i := 1186) rfl rfl, xW_tab (i := 1188) rfl rfl, xW_sel (i := 42) rfl rfl, xW_tab (i := 1189) rfl rfl, by decide +kernel⟩
set_option maxRecDepth 100000 in
theorem g_mM_claim_166 : xcv "ChannelNetModel" mM_claim mM_hasRoom 166 1 := ⟨xW_tab (i := 1025) rfl rfl, xW_tab (i := 1027) rfl rfl, xW_sel (i := 20) rfl rfl, xW_tab (i := 1028) rfl rfl, by decide +kernel⟩
set_option maxRecDepth 100000 in
theorem g_mM_claim_170 : xcv "ChannelNetModel" mM_claim mM_learn 170 2 := ⟨xW_tab (i := 1033) rfl rfl, xW_tab (i := 1035) rfl rfl, xW_sel (i := 22) rfl rfl, xW_tab (i := 1036) rfl rfl, by decide +kernel⟩
set_option maxRecDepth 100000 in
theorem g_mM_claim_283 : xcv "ChannelNetModel" mM_claim mM_goes 283 3 := ⟨xW_tab (i := 1206) rfl rfl, xW_tab (i := 1208) rfl rfl, xW_sel (i := 46) rfl rfl, xW_tab (i := 1209) rfl rfl, by decide +kernel⟩
set_option maxRecDepth 100000 in
theorem g_mM_isLeft_196 : xcv "ChannelNetModel" mM_isLeft mM_isChannel 196 1 := ⟨xW_tab (i := 1064) rfl rfl, xW_tab (i := 1066) rfl rfl, xW_sel (i := 24) rfl rfl, xW_tab (i := 1067) rfl rfl, by decide +kernel⟩
set_option maxRecDepth 100000 in
theorem g_mM_isLeft_140 : xcs mM_isLeft mM_isIn 140 3 := ⟨xW_tab (i := 1022) rfl rfl, xW_tab (i := 1023) rfl rfl, xW_tab (i := 7) rfl rfl, xW_tab (i := 1024) rfl rfl, by decide +kernel⟩
set_option maxRecDepth 100000 in
theorem g_mM_isLeft_218 : xcs mM_isLeft mM_hasBit 218 2 := ⟨xW_tab (i := 1099) rfl rfl, xW_tab (i := 1100) rfl rfl, xW_tab (i := 7) rfl rfl, xW_tab (i := 1101) rfl rfl, by decide +kernel⟩
set_option maxRecDepth 100000 in
theorem g_mM_goes_192 : xcv "ChannelNetModel" mM_goes mM_nodeOf 192 2 := ⟨xW_tab (i := 1107) rfl rfl, xW_tab (i := 1109) rfl rfl, xW_sel (i := 32) rfl rfl, xW_tab (i := 1110) rfl rfl, by decide +kernel⟩
set_option maxRecDepth 100000 in
theorem g_mM_goes_229 : xcv "ChannelNetModel" mM_goes mM_shut 229 1 := ⟨xW_tab (i := 1123) rfl rfl, xW_tab (i := 1125) rfl rfl, xW_sel (i := 34) rfl rfl, xW_tab (i := 1126) rfl rfl, by decide +kernel⟩
set_option maxRecDepth 100000 in
theorem g_mM_takeBack_279 : xcv "ChannelNetModel" mM_takeBack mM_isLeft 279 2 := ⟨xW_tab (i := 1202) rfl rfl, xW_tab (i := 1204) rfl rfl, xW_sel (i := 45) rfl rfl, xW_tab (i := 1205) rfl rfl, by decide +kernel⟩
set_option maxRecDepth 100000 in
theorem g_mM_takeBack_273 : xcv "ChannelNetModel" mM_takeBack mM_mayPunish 273 1 := ⟨xW_tab (i := 1186) rfl rfl, xW_tab (i := 1188) rfl rfl, xW_sel (i := 42) rfl rfl, xW_tab (i := 1189) rfl rfl, by decide +kernel⟩
set_option maxRecDepth 100000 in
theorem g_mM_takeBack_283 : xcv "ChannelNetModel" mM_takeBack mM_goes 283 3 := ⟨xW_tab (i := 1206) rfl rfl, xW_tab (i := 1208) rfl rfl, xW_sel (i := 46) rfl rfl, xW_tab (i := 1209) rfl rfl, by decide +kernel⟩
set_option maxRecDepth 100000 in
theorem g_mM_settle_196 : xcv "ChannelNetModel" mM_settle mM_isChannel 196 1 := ⟨xW_tab (i := 1064) rfl rfl, xW_tab (i := 1066) rfl rfl, xW_sel (i := 24) rfl rfl, xW_tab (i := 1067) rfl rfl, by decide +kernel⟩
set_option maxRecDepth 100000 in
theorem g_mM_settle_178 : xcs mM_settle mM_cell 178 3 := ⟨xW_tab (i := 1057) rfl rfl, xW_tab (i := 1058) rfl rfl, xW_tab (i := 7) rfl rfl, xW_tab (i := 1059) rfl rfl, by decide +kernel⟩
set_option maxRecDepth 100000 in
theorem g_mM_settle_192 : xcv "ChannelNetModel" mM_settle mM_nodeOf 192 2 := ⟨xW_tab (i := 1107) rfl rfl, xW_tab (i := 1109) rfl rfl, xW_sel (i := 32) rfl rfl, xW_tab (i := 1110) rfl rfl, by decide +kernel⟩
set_option maxRecDepth 100000 in
theorem g_mM_settle_229 : xcv "ChannelNetModel" mM_settle mM_shut 229 1 := ⟨xW_tab (i := 1123) rfl rfl, xW_tab (i := 1125) rfl rfl, xW_sel (i := 34) rfl rfl, xW_tab (i := 1126) rfl rfl, by decide +kernel⟩
set_option maxRecDepth 100000 in
theorem g_mM_watch_162 : xcs mM_watch mM_isNode 162 1 := ⟨xW_tab (i := 1019) rfl rfl, xW_tab (i := 1020) rfl rfl, xW_tab (i := 7) rfl rfl, xW_tab (i := 1021) rfl rfl, by decide +kernel⟩
set_option maxRecDepth 100000 in
theorem g_mM_grow_140 : xcs mM_grow mM_isIn 140 3 := ⟨xW_tab (i := 1022) rfl rfl, xW_tab (i := 1023) rfl rfl, xW_tab (i := 7) rfl rfl, xW_tab (i := 1024) rfl rfl, by decide +kernel⟩
set_option maxRecDepth 100000 in
theorem g_mM_grow_273 : xcv "ChannelNetModel" mM_grow mM_mayPunish 273 1 := ⟨xW_tab (i := 1186) rfl rfl, xW_tab (i := 1188) rfl rfl, xW_sel (i := 42) rfl rfl, xW_tab (i := 1189) rfl rfl, by decide +kernel⟩
set_option maxRecDepth 100000 in
theorem g_mM_grow_270 : xcv "ChannelNetModel" mM_grow mM_other 270 1 := ⟨xW_tab (i := 1194) rfl rfl, xW_tab (i := 1196) rfl rfl, xW_sel (i := 44) rfl rfl, xW_tab (i := 1197) rfl rfl, by decide +kernel⟩
set_option maxRecDepth 100000 in
theorem g_mM_grow_276 : xcv "ChannelNetModel" mM_grow mM_punished 276 1 := ⟨xW_tab (i := 1190) rfl rfl, xW_tab (i := 1192) rfl rfl, xW_sel (i := 43) rfl rfl, xW_tab (i := 1193) rfl rfl, by decide +kernel⟩
set_option maxRecDepth 100000 in
theorem g_mM_coins_162 : xcs mM_coins mM_isNode 162 1 := ⟨xW_tab (i := 1019) rfl rfl, xW_tab (i := 1020) rfl rfl, xW_tab (i := 7) rfl rfl, xW_tab (i := 1021) rfl rfl, by decide +kernel⟩
set_option maxRecDepth 100000 in
theorem g_mM_channel_196 : xcv "ChannelNetModel" mM_channel mM_isChannel 196 1 := ⟨xW_tab (i := 1064) rfl rfl, xW_tab (i := 1066) rfl rfl, xW_sel (i := 24) rfl rfl, xW_tab (i := 1067) rfl rfl, by decide +kernel⟩
set_option maxRecDepth 100000 in
theorem g_mM_channel_140 : xcs mM_channel mM_isIn 140 3 := ⟨xW_tab (i := 1022) rfl rfl, xW_tab (i := 1023) rfl rfl, xW_tab (i := 7) rfl rfl, xW_tab (i := 1024) rfl rfl, by decide +kernel⟩
set_option maxRecDepth 100000 in
theorem g_mM_state_196 : xcv "ChannelNetModel" mM_state mM_isChannel 196 1 := ⟨xW_tab (i := 1064) rfl rfl, xW_tab (i := 1066) rfl rfl, xW_sel (i := 24) rfl rfl, xW_tab (i := 1067) rfl rfl, by decide +kernel⟩
set_option maxRecDepth 100000 in
theorem g_mM_state_140 : xcs mM_state mM_isIn 140 3 := ⟨xW_tab (i := 1022) rfl rfl, xW_tab (i := 1023) rfl rfl, xW_tab (i := 7) rfl rfl, xW_tab (i := 1024) rfl rfl, by decide +kernel⟩
set_option maxRecDepth 100000 in
theorem g_mM_state_178 : xcs mM_state mM_cell 178 3 := ⟨xW_tab (i := 1057) rfl rfl, xW_tab (i := 1058) rfl rfl, xW_tab (i := 7) rfl rfl, xW_tab (i := 1059) rfl rfl, by decide +kernel⟩
set_option maxRecDepth 100000 in
theorem g_mM_state_218 : xcs mM_state mM_hasBit 218 2 := ⟨xW_tab (i := 1099) rfl rfl, xW_tab (i := 1100) rfl rfl, xW_tab (i := 7) rfl rfl, xW_tab (i := 1101) rfl rfl, by decide +kernel⟩
set_option maxRecDepth 100000 in
theorem g_mM_made_196 : xcv "ChannelNetModel" mM_made mM_isChannel 196 1 := ⟨xW_tab (i := 1064) rfl rfl, xW_tab (i := 1066) rfl rfl, xW_sel (i := 24) rfl rfl, xW_tab (i := 1067) rfl rfl, by decide +kernel⟩
set_option maxRecDepth 100000 in
theorem g_mM_made_140 : xcs mM_made mM_isIn 140 3 := ⟨xW_tab (i := 1022) rfl rfl, xW_tab (i := 1023) rfl rfl, xW_tab (i := 7) rfl rfl, xW_tab (i := 1024) rfl rfl, by decide +kernel⟩
set_option maxRecDepth 100000 in
theorem g_mM_made_192 : xcv "ChannelNetModel" mM_made mM_nodeOf 192 2 := ⟨xW_tab (i := 1107) rfl rfl, xW_tab (i := 1109) rfl rfl, xW_sel (i := 32) rfl rfl, xW_tab (i := 1110) rfl rfl, by decide +kernel⟩
set_option maxRecDepth 100000 in
theorem g_mM_made_182 : xcv "ChannelNetModel" mM_made mM_now 182 1 := ⟨xW_tab (i := 1072) rfl rfl, xW_tab (i := 1074) rfl rfl, xW_sel (i := 26) rfl rfl, xW_tab (i := 1075) rfl rfl, by decide +kernel⟩
set_option maxRecDepth 100000 in
theorem g_mM_made_218 : xcs mM_made mM_hasBit 218 2 := ⟨xW_tab (i := 1099) rfl rfl, xW_tab (i := 1100) rfl rfl, xW_tab (i := 7) rfl rfl, xW_tab (i := 1101) rfl rfl, by decide +kernel⟩
end
section
/- Part 14m: the model's state and its heap. -/
/-- int fields by their places; int and boolean arrays by their offsets; long arrays -/
abbrev MS : Type := (Nat → Int32) × (Nat → Nat → Int32) × (Nat → Nat → Int64)
def mkind (k : Nat) : Nat := match k with
  | 5 => 1
  | 11 => 2
  | 16 => 2
  | 21 => 2
  | 22 => 1
  | 23 => 2
  | 27 => 2
  | 36 => 2
  | _ => 0
def mlen (k : Nat) : Nat := match k with
  | 1 => 6
  | 2 => 6
  | 3 => 6
  | 4 => 6
  | 5 => 6
  | 6 => 8
  | 7 => 8
  | 8 => 8
  | 9 => 8
  | 10 => 1024
  | 11 => 512
  | 12 => 8
  | 13 => 8
  | 14 => 512
  | 15 => 512
  | 16 => 512
  | 17 => 512
  | 18 => 8
  | 19 => 8
  | 20 => 8
  | 21 => 8
  | 22 => 8
  | 23 => 24
  | 24 => 24
  | 25 => 5
  | 26 => 5
  | 27 => 6
  | 28 => 6
  | 29 => 16
  | 30 => 16
  | 31 => 16
  | 32 => 16
  | 33 => 16
  | 34 => 16
  | 35 => 16
  | 36 => 16
  | 37 => 80
  | 38 => 80
  | 39 => 80
  | 40 => 80
  | 41 => 80
  | _ => 0
def mfs (m : Nat) (F : Nat → Int32) : List Value := [.int (F 0), .ref (m + 1), .ref (m + 2), .ref (m + 3), .ref (m + 4), .ref (m + 5), .int (F 6), .int (F 7), .ref (m + 6), .ref (m + 7), .ref (m + 8), .ref (m + 9), .ref (m + 10), .ref (m + 11), .ref (m + 12), .ref (m + 13), .ref (m + 14), .ref (m + 15), .ref (m + 16), .ref (m + 17), .ref (m + 18), .ref (m + 19), .ref (m + 20), .ref (m + 21), .ref (m + 22), .int (F 25), .ref (m + 23), .ref (m + 24), .int (F 28), .ref (m + 25), .int (F 30), .ref (m + 26), .ref (m + 27), .ref (m + 28), .int (F 34), .ref (m + 29), .ref (m + 30), .ref (m + 31), .ref (m + 32), .ref (m + 33), .ref (m + 34), .ref (m + 35), .ref (m + 36), .ref (m + 37), .ref (m + 38), .ref (m + 39), .ref (m + 40), .ref (m + 41)]
def mcell (m : Nat) (A : MS) (k : Nat) : XC := match k with
  | 0 => .inr (7, mfs m A.1)
  | k + 1 => match mkind (k + 1) with
    | 0 => .inl (false, .int, mlen (k + 1), .inl (A.2.1 (k + 1)))
    | 1 => .inl (false, .boolean, mlen (k + 1), .inl (A.2.1 (k + 1)))
    | _ => .inl (false, .long, mlen (k + 1), .inr (.inl (A.2.2 (k + 1))))
/-- the heap h with the model's cells laid over it -/
def hm (m : Nat) (A : MS) (h : XH) : XH := (h.1, h.2.1, h.2.2.1, fun q => if m ≤ q ∧ q ≤ m + 41 then some (mcell m A (q - m)) else h.2.2.2 q)
def mF (A : MS) (j : Nat) (x : Int32) : MS := (upd A.1 j x, A.2)
def mI (A : MS) (k i : Nat) (x : Int32) : MS := (A.1, fun a => if a = k then upd (A.2.1 k) i x else A.2.1 a, A.2.2)
def mJ (A : MS) (k i : Nat) (x : Int64) : MS := (A.1, A.2.1, fun a => if a = k then vp_updL (A.2.2 k) i x else A.2.2 a)
theorem hm_get (m : Nat) (A : MS) (h : XH) {k : Nat} (hk : k ≤ 41) : xget (hm m A h) (m + k) = some (mcell m A k) := by
  unfold xget hm
  simp only
  rw [if_pos ⟨Nat.le_add_right m k, by omega⟩]
  congr 2
  omega
theorem hm_get0 (m : Nat) (A : MS) (h : XH) : xget (hm m A h) m = some (.inr (7, mfs m A.1)) := hm_get m A h (k := 0) (by omega)
theorem hm_put (m : Nat) (A A' : MS) (h : XH) {k : Nat} {c : XC} (hk : k ≤ 41) (h1 : mcell m A' k = c) (h2 : ∀ j, j ≠ k → mcell m A' j = mcell m A j) : xput (hm m A h) (m + k) c = hm m A' h := by
  unfold xput hm
  refine Prod.ext rfl (Prod.ext rfl (Prod.ext rfl ?_))
  funext q
  simp only
  by_cases hq : q = m + k
  · subst hq
    rw [if_pos rfl, if_pos ⟨Nat.le_add_right m k, by omega⟩, show m + k - m = k by omega, h1]
  · rw [if_neg hq]
    by_cases hr : m ≤ q ∧ q ≤ m + 41
    · rw [if_pos hr, if_pos hr, h2 (q - m) (by omega)]
    · rw [if_neg hr, if_neg hr]
theorem mcell_mI (m : Nat) (A : MS) (k i : Nat) (x : Int32) : ∀ j, j ≠ k → mcell m (mI A k i x) j = mcell m A j := by
  intro j hj
  unfold mcell mI
  cases j with
  | zero => rfl
  | succ j => simp only [if_neg hj]
theorem mcell_mJ (m : Nat) (A : MS) (k i : Nat) (x : Int64) : ∀ j, j ≠ k → mcell m (mJ A k i x) j = mcell m A j := by
  intro j hj
  unfold mcell mJ
  cases j with
  | zero => rfl
  | succ j => simp only [if_neg hj]
theorem mcell_mF (m : Nat) (A : MS) (i : Nat) (x : Int32) : ∀ j, j ≠ 0 → mcell m (mF A i x) j = mcell m A j := by
  intro j hj
  unfold mcell mF
  cases j with
  | zero => exact absurd rfl hj
  | succ j => rfl
section X14
variable {D : va_G} {N0 : Nat} {M : XM} {d pc m : Nat} {lv : XL} {st : List Value} {h : XH} {A : MS} {Q : Outcome → XH → Prop}
/-- a field of the model -/
theorem xV.mget {idx nx kf : Nat} {r : List Value} {v : Value} (hq : xfl M pc = some (.getfield idx, nx, 7, kf)) (hv : (mfs m A.1)[kf]? = some v) (k : xV D N0 M d nx lv (v :: r) (hm m A h) Q) : xV D N0 M d pc lv (.ref m :: r) (hm m A h) Q :=
  xV.get xcl_ok hq (hm_get0 m A h) hv k
theorem xV.mput {idx nx kf : Nat} {r : List Value} {x : Int32} (hq : xfl M pc = some (.putfield idx, nx, 7, kf)) (hty : (xct 7)[kf]? = some .int) (hf : (mfs m A.1).set kf (.int x) = mfs m (upd A.1 kf x)) (hl : kf < 48) (k : xV D N0 M d nx lv r (hm m (mF A kf x) h) Q) : xV D N0 M d pc lv (.int x :: .ref m :: r) (hm m A h) Q := by
  refine xV.put xcl_ok hq (hm_get0 m A h) hty rfl rfl hl ?_
  have e : xput (hm m A h) m (.inr (7, (mfs m A.1).set kf (.int x))) = hm m (mF A kf x) h := hm_put m A (mF A kf x) h (k := 0) (by omega) (by rw [hf]; rfl) (mcell_mF m A kf x)
  rw [e]
  exact k
theorem xV.mild {k nx n : Nat} {i : Int32} {r : List Value} (hq : xon M pc = some (.iaload, nx)) (hc : mcell m A k = .inl (false, .int, n, .inl (A.2.1 k))) (hk : k ≤ 41) (hin : vp_in i n) (kk : xV D N0 M d nx lv (.int (A.2.1 k i.toNatClampNeg) :: r) (hm m A h) Q) : xV D N0 M d pc lv (.int i :: .ref (m + k) :: r) (hm m A h) Q :=
  xV.iald hq (by rw [hm_get m A h hk, hc]) hin kk
theorem xV.mzld {k nx n : Nat} {i : Int32} {r : List Value} (hq : xon M pc = some (.baload, nx)) (hc : mcell m A k = .inl (false, .boolean, n, .inl (A.2.1 k))) (hk : k ≤ 41) (hin : vp_in i n) (kk : xV D N0 M d nx lv (.int (A.2.1 k i.toNatClampNeg) :: r) (hm m A h) Q) : xV D N0 M d pc lv (.int i :: .ref (m + k) :: r) (hm m A h) Q :=
  xV.zald hq (by rw [hm_get m A h hk, hc]) hin kk
theorem xV.mjld {k nx n : Nat} {i : Int32} {r : List Value} (hq : xon M pc = some (.laload, nx)) (hc : mcell m A k = .inl (false, .long, n, .inr (.inl (A.2.2 k)))) (hk : k ≤ 41) (hin : vp_in i n) (kk : xV D N0 M d nx lv (.long (A.2.2 k i.toNatClampNeg) :: r) (hm m A h) Q) : xV D N0 M d pc lv (.int i :: .ref (m + k) :: r) (hm m A h) Q :=
  xV.lald hq (by rw [hm_get m A h hk, hc]) hin kk
theorem xV.mist {k nx n : Nat} {i x : Int32} {r : List Value} (hq : xon M pc = some (.iastore, nx)) (hc : mcell m A k = .inl (false, .int, n, .inl (A.2.1 k))) (hc' : mcell m (mI A k i.toNatClampNeg x) k = .inl (false, .int, n, .inl (upd (A.2.1 k) i.toNatClampNeg x))) (hk : k ≤ 41) (hin : vp_in i n) (kk : xV D N0 M d nx lv r (hm m (mI A k i.toNatClampNeg x) h) Q) : xV D N0 M d pc lv (.int x :: .int i :: .ref (m + k) :: r) (hm m A h) Q := by
  refine xV.iast hq (by rw [hm_get m A h hk, hc]) hin ?_
  rw [hm_put m A (mI A k i.toNatClampNeg x) h hk hc' (mcell_mI m A k _ x)]
  exact kk
theorem xV.mzst {k nx n : Nat} {i x : Int32} {r : List Value} (hq : xon M pc = some (.bastore, nx)) (hc : mcell m A k = .inl (false, .boolean, n, .inl (A.2.1 k))) (hc' : mcell m (mI A k i.toNatClampNeg x) k = .inl (false, .boolean, n, .inl (upd (A.2.1 k) i.toNatClampNeg x))) (hk : k ≤ 41) (hin : vp_in i n) (hx : narrow .boolean (.int x) = .int x) (kk : xV D N0 M d nx lv r (hm m (mI A k i.toNatClampNeg x) h) Q) : xV D N0 M d pc lv (.int x :: .int i :: .ref (m + k) :: r) (hm m A h) Q := by
  refine xV.zast hq (by rw [hm_get m A h hk, hc]) hin hx ?_
  rw [hm_put m A (mI A k i.toNatClampNeg x) h hk hc' (mcell_mI m A k _ x)]
  exact kk
theorem xV.mjst {k nx n : Nat} {i : Int32} {x : Int64} {r : List Value} (hq : xon M pc = some (.lastore, nx)) (hc : mcell m A k = .inl (false, .long, n, .inr (.inl (A.2.2 k)))) (hc' : mcell m (mJ A k i.toNatClampNeg x) k = .inl (false, .long, n, .inr (.inl (vp_updL (A.2.2 k) i.toNatClampNeg x)))) (hk : k ≤ 41) (hin : vp_in i n) (kk : xV D N0 M d nx lv r (hm m (mJ A k i.toNatClampNeg x) h) Q) : xV D N0 M d pc lv (.long x :: .int i :: .ref (m + k) :: r) (hm m A h) Q := by
  refine xV.last hq (by rw [hm_get m A h hk, hc]) hin ?_
  rw [hm_put m A (mJ A k i.toNatClampNeg x) h hk hc' (mcell_mJ m A k _ x)]
  exact kk
end X14
end
section
/- Part 16: calls of methods whose end is known exactly. -/
/-- the end o0 with the heap h' -/
def xEq (o0 : Outcome) (h' : XH) : Outcome → XH → Prop := fun o u => o = o0 ∧ u = h'
section X16
variable {D : va_G} {N0 : Nat} {M : XM} {d pc : Nat} {lv : XL} {st : List Value} {h h' : XH} {Q : Outcome → XH → Prop}
theorem xV.cS {M2 : XM} {idx nx n : Nat} {as rest : List Value} {v : Option Value} (hq : xon M pc = some (.invokestatic idx, nx)) (hst : xsp n st [] = some (as, rest)) (hw : xcs M M2 idx n) (hok2 : xOK M2 = true) (hsz : (lg_sl as).length ≤ M2.2.2.1) (hcat : (rest.map fun v => v.category).sum + (M2.2.2.1 + 11) ≤ 64)
    (hcon : xV D N0 M2 d 0 (xargs M2.2.2.1 as) [] h (xEq (.returned v) h')) (k : xV D N0 M (d + 1) nx lv (v.toList ++ rest) h' Q) : xV D N0 M (d + 1) pc lv st h Q :=
  xV.callS hq hst hw hok2 hsz hcat hcon (fun w u hz => by obtain ⟨e1, rfl⟩ := hz; cases e1; exact k) (fun a u hz => by cases hz.1)
theorem xV.cV {M2 : XM} {idx nx n b ci : Nat} {q : vw_C} {fs as rest : List Value} {v : Option Value} (hq : xon M pc = some (.invokevirtual idx, nx)) (hst : xsp (n + 1) st [] = some (.ref b :: as, rest)) (hb : xget h b = some (.inr (ci, fs))) (hc : xcl[ci]? = some q) (hw : xcv q.1 M M2 idx n) (hok2 : xOK M2 = true) (hsz : (lg_sl (.ref b :: as)).length ≤ M2.2.2.1) (hcat : (rest.map fun v => v.category).sum + (M2.2.2.1 + 11) ≤ 64)
    (hcon : xV D N0 M2 d 0 (xargs M2.2.2.1 (.ref b :: as)) [] h (xEq (.returned v) h')) (k : xV D N0 M (d + 1) nx lv (v.toList ++ rest) h' Q) : xV D N0 M (d + 1) pc lv st h Q :=
  xV.callV hq hst hb hc hw hok2 hsz hcat hcon (fun w u hz => by obtain ⟨e1, rfl⟩ := hz; cases e1; exact k) (fun a u hz => by cases hz.1)
theorem xV.cI {M2 : XM} {idx nx n b : Nat} {as rest : List Value} (hq : xon M pc = some (.invokespecial idx, nx)) (hst : xsp (n + 1) st [] = some (.ref b :: as, rest)) (hw : xci M M2 idx n) (hok2 : xOK M2 = true) (hsz : (lg_sl (.ref b :: as)).length ≤ M2.2.2.1) (hcat : (rest.map fun v => v.category).sum + (M2.2.2.1 + 11) ≤ 64)
    (hcon : xV D N0 M2 d 0 (xargs M2.2.2.1 (.ref b :: as)) [] h (xEq (.returned none) h')) (k : xV D N0 M (d + 1) nx lv rest h' Q) : xV D N0 M (d + 1) pc lv st h Q :=
  xV.callI hq hst hw hok2 hsz hcat hcon (fun w u hz => by obtain ⟨e1, rfl⟩ := hz; cases e1; exact k) (fun a u hz => by cases hz.1)
/-- the static call threw -/
theorem xV.tS {M2 : XM} {idx nx n a : Nat} {as rest : List Value} (hq : xon M pc = some (.invokestatic idx, nx)) (hst : xsp n st [] = some (as, rest)) (hw : xcs M M2 idx n) (hok2 : xOK M2 = true) (hsz : (lg_sl as).length ≤ M2.2.2.1) (hcat : (rest.map fun v => v.category).sum + (M2.2.2.1 + 11) ≤ 64)
    (hcon : xV D N0 M2 d 0 (xargs M2.2.2.1 as) [] h (xEq (.threw a) h')) (k : xT D N0 M (d + 1) pc lv a h' Q) : xV D N0 M (d + 1) pc lv st h Q :=
  xV.callS hq hst hw hok2 hsz hcat hcon (fun w u hz => by cases hz.1) (fun b u hz => by obtain ⟨e1, rfl⟩ := hz; cases e1; exact k)
theorem xV.tV {M2 : XM} {idx nx n b ci a : Nat} {q : vw_C} {fs as rest : List Value} (hq : xon M pc = some (.invokevirtual idx, nx)) (hst : xsp (n + 1) st [] = some (.ref b :: as, rest)) (hb : xget h b = some (.inr (ci, fs))) (hc : xcl[ci]? = some q) (hw : xcv q.1 M M2 idx n) (hok2 : xOK M2 = true) (hsz : (lg_sl (.ref b :: as)).length ≤ M2.2.2.1) (hcat : (rest.map fun v => v.category).sum + (M2.2.2.1 + 11) ≤ 64)
    (hcon : xV D N0 M2 d 0 (xargs M2.2.2.1 (.ref b :: as)) [] h (xEq (.threw a) h')) (k : xT D N0 M (d + 1) pc lv a h' Q) : xV D N0 M (d + 1) pc lv st h Q :=
  xV.callV hq hst hb hc hw hok2 hsz hcat hcon (fun w u hz => by cases hz.1) (fun b u hz => by obtain ⟨e1, rfl⟩ := hz; cases e1; exact k)
/-- a private or public method of the model, on the model -/
theorem xV.cM {M2 : XM} {idx nx n m : Nat} {A : MS} {as rest : List Value} {v : Option Value} {h0 : XH} (hq : xon M pc = some (.invokevirtual idx, nx)) (hst : xsp (n + 1) st [] = some (.ref m :: as, rest)) (hw : xcv "ChannelNetModel" M M2 idx n) (hok2 : xOK M2 = true) (hsz : (lg_sl (.ref m :: as)).length ≤ M2.2.2.1) (hcat : (rest.map fun v => v.category).sum + (M2.2.2.1 + 11) ≤ 64)
    (hcon : xV D N0 M2 d 0 (xargs M2.2.2.1 (.ref m :: as)) [] (hm m A h0) (xEq (.returned v) h')) (k : xV D N0 M (d + 1) nx lv (v.toList ++ rest) h' Q) : xV D N0 M (d + 1) pc lv st (hm m A h0) Q :=
  xV.cV (q := ("ChannelNetModel", xTM, 48)) hq hst (hm_get0 m A h0) rfl hw hok2 hsz hcat hcon k
/-- the truth of a bytecode's branch as the answer -/
def xB (b : Bool) : Int32 := bif b then 1 else 0
theorem xB_true {b : Bool} (h : b = true) : xB b = 1 := by rw [h]; rfl
theorem xB_false {b : Bool} (h : b = false) : xB b = 0 := by rw [h]; rfl
theorem xB_ne {b : Bool} : xB b = 0 ↔ b = false := by cases b <;> decide
theorem xB1 {P : Prop} {i : Decidable P} (h : P) : Outcome.returned (some (.int 1)) = .returned (some (.int (xB (decide P)))) := by rw [decide_eq_true h]; rfl
theorem xB0 {P : Prop} {i : Decidable P} (h : ¬ P) : Outcome.returned (some (.int 0)) = .returned (some (.int (xB (decide P)))) := by rw [decide_eq_false h]; rfl
theorem xB_nar (b : Bool) : narrow .boolean (.int (xB b)) = .int (xB b) := by cases b <;> rfl
end X16
end
section
/- Part 16a: numbers. -/
theorem xn_toInt {j : Nat} (hj : j < 2 ^ 31) : (nI j).toInt = (j : Int) := toInt_of rfl hj
theorem xn_lt {j n : Nat} (hj : j < 2 ^ 31) (hn : n < 2 ^ 31) : nI j < nI n ↔ j < n := by
  rw [Int32.lt_iff_toInt_lt, xn_toInt hj, xn_toInt hn]; omega
theorem xn_le {j n : Nat} (hj : j < 2 ^ 31) (hn : n < 2 ^ 31) : nI j ≤ nI n ↔ j ≤ n := by
  rw [Int32.le_iff_toInt_le, xn_toInt hj, xn_toInt hn]; omega
theorem xn_inj {j n : Nat} (hj : j < 2 ^ 31) (hn : n < 2 ^ 31) : nI j = nI n ↔ j = n := by
  rw [← Int32.toInt_inj, xn_toInt hj, xn_toInt hn]; omega
theorem xn_succ (j : Nat) : nI j + 1 = nI (j + 1) := (inc_ofNat j).symm
theorem xn_clamp {j : Nat} (hj : j < 2 ^ 31) : (nI j).toNatClampNeg = j := clamp_of rfl hj
theorem xn_in {j n : Nat} (hj : j < n) (hn : n < 2 ^ 31) : vp_in (nI j) n := within rfl hj hn
theorem xn_nonneg {j : Nat} (hj : j < 2 ^ 31) : ¬ nI j < 0 := by
  rw [Int32.lt_iff_toInt_lt, xn_toInt hj]
  simp only [Int32.toInt_zero]
  omega
/-- a number between 0 and n - 1, as the machine has it, is that of a natural number -/
theorem xn_of {v : Int32} {n : Nat} (h0 : 0 ≤ v.toInt) (hn : v.toInt < (n : Int)) (hn2 : n < 2 ^ 31) : ∃ j, j < n ∧ v = nI j := by
  refine ⟨v.toInt.toNat, by omega, ?_⟩
  rw [← Int32.toInt_inj, xn_toInt (by omega)]
  omega
theorem lg_cmp_eq0 (x y : Int64) : lg_cmp x y = 0 ↔ x = y := by
  unfold lg_cmp
  by_cases h1 : x > y
  · rw [if_pos h1]
    refine ⟨fun h => absurd h (by decide), fun h => ?_⟩
    subst h
    exact absurd h1 (by rw [gt_iff_lt, Int64.lt_iff_toInt_lt]; omega)
  · rw [if_neg h1]
    by_cases h2 : x = y
    · rw [if_pos h2]; exact ⟨fun _ => h2, fun _ => rfl⟩
    · rw [if_neg h2]
      exact ⟨fun h => absurd h (by decide), fun h => absurd h h2⟩
/-- an index or -1 -/
def oi (o : Option Nat) : Int32 := match o with
  | none => -1
  | some n => nI n
theorem oi_none {o : Option Nat} (ho : ∀ n, o = some n → n < 2 ^ 31) : oi o = -1 ↔ o = none := by
  cases o with
  | none => exact ⟨fun _ => rfl, fun _ => rfl⟩
  | some n =>
    refine ⟨fun h => ?_, fun h => by cases h⟩
    have h1 := congrArg Int32.toInt h
    rw [show oi (some n) = nI n from rfl, xn_toInt (ho n rfl)] at h1
    have h2 : (-1 : Int32).toInt = -1 := by decide
    omega
def mfind (f : Nat → Int64) (k : Int64) : Nat → Option Nat
  | 0 => none
  | n + 1 => if f n = k then some n else mfind f k n
theorem mfind_lt {f : Nat → Int64} {k : Int64} {n j : Nat} (h : mfind f k n = some j) : j < n ∧ f j = k := by
  induction n with
  | zero => cases h
  | succ n ih =>
    unfold mfind at h
    by_cases hk : f n = k
    · rw [if_pos hk] at h
      cases h
      exact ⟨Nat.lt_succ_self _, hk⟩
    · rw [if_neg hk] at h
      obtain ⟨h1, h2⟩ := ih h
      exact ⟨Nat.lt_succ_of_lt h1, h2⟩
/-- a secret's lock -/
def lk (s : Int64) : Int64 :=
  let x := s * 7046029254386353131
  let x := x ^^^ (x.toUInt64 >>> ((29 : Int32).toInt64.toUInt64 &&& Int64.toUInt64 63)).toInt64
  let x := x * 4768777513237032717
  x ^^^ (x.toUInt64 >>> ((32 : Int32).toInt64.toUInt64 &&& Int64.toUInt64 63)).toInt64
end
section
/- Part 17: the model's small methods. -/
section X17
variable {D : va_G} {N0 : Nat} {d m : Nat} {h : XH} {A : MS}
theorem c_M_isIn {v a b : Int32} : xV D N0 mM_isIn d 0 (xargs 3 [.int v, .int a, .int b]) [] h (xEq (.returned (some (.int (xB (decide (a ≤ v ∧ v ≤ b)))))) h) := by
  repeat' first
    | refine xV.step rfl ?_
    | refine xV.br rfl (fun _ => ?_) (fun _ => ?_)
  all_goals refine xV.iret rfl rfl rfl ⟨?_, rfl⟩
  all_goals first
    | exact xB1 (by simp only [Int32.lt_iff_toInt_lt, Int32.le_iff_toInt_le] at *; omega)
    | exact xB0 (by simp only [Int32.lt_iff_toInt_lt, Int32.le_iff_toInt_le] at *; omega)
theorem c_M_isNode {v : Int32} : xV D N0 mM_isNode (d + 1) 0 (xargs 1 [.int v]) [] h (xEq (.returned (some (.int (xB (decide (0 ≤ v ∧ v ≤ 5)))))) h) := by
  repeat' refine xV.step rfl ?_
  refine xV.cS rfl rfl g_mM_isNode_140 mM_isIn_ok (Nat.le_of_ble_eq_true rfl) (Nat.le_of_ble_eq_true rfl) c_M_isIn ?_
  exact xV.iret rfl rfl (xB_nar _) ⟨rfl, rfl⟩
theorem c_M_isChannel {v : Int32} : xV D N0 mM_isChannel (d + 1) 0 (xargs 2 [.ref m, .int v]) [] (hm m A h) (xEq (.returned (some (.int (xB (decide (0 ≤ v ∧ v ≤ A.1 7 - 1)))))) (hm m A h)) := by
  repeat' refine xV.step rfl ?_
  refine xV.mget rfl rfl ?_
  repeat' refine xV.step rfl ?_
  refine xV.cS rfl rfl g_mM_isChannel_140 mM_isIn_ok (Nat.le_of_ble_eq_true rfl) (Nat.le_of_ble_eq_true rfl) c_M_isIn ?_
  exact xV.iret rfl rfl (xB_nar _) ⟨rfl, rfl⟩
theorem c_M_lockOf {s : Int64} : xV D N0 mM_lockOf d 0 (xargs 4 [.long s]) [] h (xEq (.returned (some (.long (lk s)))) h) := by
  repeat' refine xV.step rfl ?_
  exact xV.lret rfl rfl ⟨rfl, rfl⟩
theorem c_M_find_loop {K : Nat} (hK : A.1 25 = nI K) (hK2 : K ≤ 24) {k : Int64} : ∀ n j, j + n = K →
    xV D N0 mM_find d 5 [some (.ref m), some (.long k), none, some (.int (oi (mfind (A.2.2 23) k j))), some (.int (nI j))] [] (hm m A h) (xEq (.returned (some (.int (oi (mfind (A.2.2 23) k K))))) (hm m A h)) := by
  intro n
  induction n with
  | zero =>
    intro j hj
    obtain rfl : j = K := by omega
    repeat' refine xV.step rfl ?_
    refine xV.mget rfl rfl ?_
    refine xV.br rfl (fun h1 => ?_) (fun h1 => ?_)
    · repeat' refine xV.step rfl ?_
      exact xV.iret rfl rfl rfl ⟨rfl, rfl⟩
    · rw [hK, xn_le (by omega) (by omega)] at h1
      omega
  | succ n ih =>
    intro j hj
    repeat' refine xV.step rfl ?_
    refine xV.mget rfl rfl ?_
    refine xV.br rfl (fun h1 => ?_) (fun h1 => ?_)
    · rw [hK, xn_le (by omega) (by omega)] at h1
      omega
    · repeat' refine xV.step rfl ?_
      refine xV.mget rfl rfl ?_
      repeat' refine xV.step rfl ?_
      refine xV.mjld (k := 23) (n := 24) rfl rfl (by omega) (xn_in (by omega) (by omega)) ?_
      rw [xn_clamp (by omega)]
      repeat' refine xV.step rfl ?_
      have hst : oi (mfind (A.2.2 23) k (j + 1)) = if A.2.2 23 j = k then nI j else oi (mfind (A.2.2 23) k j) := by
        show oi (if A.2.2 23 j = k then some j else mfind (A.2.2 23) k j) = _
        split <;> rfl
      have ih := ih (j + 1) (by omega)
      rw [hst, ← xn_succ] at ih
      refine xV.br rfl (fun h2 => ?_) (fun h2 => ?_)
      · rw [lg_cmp_eq0] at h2
        rw [if_pos h2] at ih
        repeat' first
          | exact ih
          | refine xV.step rfl ?_
      · rw [lg_cmp_eq0] at h2
        rw [if_neg h2] at ih
        repeat' first
          | exact ih
          | refine xV.step rfl ?_
theorem c_M_find {K : Nat} (hK : A.1 25 = nI K) (hK2 : K ≤ 24) {k : Int64} : xV D N0 mM_find d 0 (xargs 5 [.ref m, .long k]) [] (hm m A h) (xEq (.returned (some (.int (oi (mfind (A.2.2 23) k K))))) (hm m A h)) := by
  refine xV.step rfl ?_
  refine xV.step rfl ?_
  refine xV.step rfl ?_
  refine xV.step rfl ?_
  exact c_M_find_loop hK hK2 K 0 (by omega)
end X17
end
section
/- Part 18: the model's arrays by natural indices; its helpers. -/
theorem xn_add (a b : Nat) : nI a + nI b = nI (a + b) := (Int32.ofNat_add a b).symm
theorem xn_mul (a b : Nat) : nI a * nI b = nI (a * b) := (Int32.ofNat_mul a b).symm
theorem xn_ix (j l : Nat) : (64 : Int32) * nI j + nI l = nI (64 * j + l) := by
  rw [show (64 : Int32) = nI 64 from rfl, xn_mul, xn_add]
theorem xn_cell (j l s : Nat) : (2 : Int32) * ((64 : Int32) * nI j + nI l) + nI s = nI (2 * (64 * j + l) + s) := by
  rw [xn_ix, show (2 : Int32) = nI 2 from rfl, xn_mul, xn_add]
section X18
variable {D : va_G} {N0 : Nat} {M : XM} {d pc m : Nat} {lv : XL} {st : List Value} {h : XH} {A : MS} {Q : Outcome → XH → Prop}
theorem xbnd {k n : Nat} (hb : (Nat.ble k 41 && Nat.ble n 1024) = true) : k ≤ 41 ∧ n < 2 ^ 31 := by
  rw [Bool.and_eq_true] at hb
  have h1 := Nat.le_of_ble_eq_true hb.1
  have h2 := Nat.le_of_ble_eq_true hb.2
  omega
theorem xV.mi {k nx n j : Nat} {r : List Value} (hq : xon M pc = some (.iaload, nx)) (hc : mcell m A k = .inl (false, .int, n, .inl (A.2.1 k))) (hb : (Nat.ble k 41 && Nat.ble n 1024) = true) (hj : j < n) (kk : xV D N0 M d nx lv (.int (A.2.1 k j) :: r) (hm m A h) Q) : xV D N0 M d pc lv (.int (nI j) :: .ref (m + k) :: r) (hm m A h) Q := by
  obtain ⟨h1, h2⟩ := xbnd hb
  refine xV.mild hq hc h1 (xn_in hj h2) ?_
  rw [xn_clamp (by omega)]
  exact kk
theorem xV.mz {k nx n j : Nat} {r : List Value} (hq : xon M pc = some (.baload, nx)) (hc : mcell m A k = .inl (false, .boolean, n, .inl (A.2.1 k))) (hb : (Nat.ble k 41 && Nat.ble n 1024) = true) (hj : j < n) (kk : xV D N0 M d nx lv (.int (A.2.1 k j) :: r) (hm m A h) Q) : xV D N0 M d pc lv (.int (nI j) :: .ref (m + k) :: r) (hm m A h) Q := by
  obtain ⟨h1, h2⟩ := xbnd hb
  refine xV.mzld hq hc h1 (xn_in hj h2) ?_
  rw [xn_clamp (by omega)]
  exact kk
theorem xV.mj {k nx n j : Nat} {r : List Value} (hq : xon M pc = some (.laload, nx)) (hc : mcell m A k = .inl (false, .long, n, .inr (.inl (A.2.2 k)))) (hb : (Nat.ble k 41 && Nat.ble n 1024) = true) (hj : j < n) (kk : xV D N0 M d nx lv (.long (A.2.2 k j) :: r) (hm m A h) Q) : xV D N0 M d pc lv (.int (nI j) :: .ref (m + k) :: r) (hm m A h) Q := by
  obtain ⟨h1, h2⟩ := xbnd hb
  refine xV.mjld hq hc h1 (xn_in hj h2) ?_
  rw [xn_clamp (by omega)]
  exact kk
theorem xV.si {k nx n j : Nat} {x : Int32} {r : List Value} (hq : xon M pc = some (.iastore, nx)) (hc : mcell m A k = .inl (false, .int, n, .inl (A.2.1 k))) (hc' : mcell m (mI A k j x) k = .inl (false, .int, n, .inl (upd (A.2.1 k) j x))) (hb : (Nat.ble k 41 && Nat.ble n 1024) = true) (hj : j < n) (kk : xV D N0 M d nx lv r (hm m (mI A k j x) h) Q) : xV D N0 M d pc lv (.int x :: .int (nI j) :: .ref (m + k) :: r) (hm m A h) Q := by
  obtain ⟨h1, h2⟩ := xbnd hb
  have e : (nI j).toNatClampNeg = j := xn_clamp (by omega)
  exact xV.mist hq hc (by rw [e]; exact hc') h1 (xn_in hj h2) (by rw [e]; exact kk)
theorem xV.sz {k nx n j : Nat} {x : Int32} {r : List Value} (hq : xon M pc = some (.bastore, nx)) (hc : mcell m A k = .inl (false, .boolean, n, .inl (A.2.1 k))) (hc' : mcell m (mI A k j x) k = .inl (false, .boolean, n, .inl (upd (A.2.1 k) j x))) (hb : (Nat.ble k 41 && Nat.ble n 1024) = true) (hj : j < n) (hx : narrow .boolean (.int x) = .int x) (kk : xV D N0 M d nx lv r (hm m (mI A k j x) h) Q) : xV D N0 M d pc lv (.int x :: .int (nI j) :: .ref (m + k) :: r) (hm m A h) Q := by
  obtain ⟨h1, h2⟩ := xbnd hb
  have e : (nI j).toNatClampNeg = j := xn_clamp (by omega)
  exact xV.mzst hq hc (by rw [e]; exact hc') h1 (xn_in hj h2) hx (by rw [e]; exact kk)
theorem xV.sj {k nx n j : Nat} {x : Int64} {r : List Value} (hq : xon M pc = some (.lastore, nx)) (hc : mcell m A k = .inl (false, .long, n, .inr (.inl (A.2.2 k)))) (hc' : mcell m (mJ A k j x) k = .inl (false, .long, n, .inr (.inl (vp_updL (A.2.2 k) j x)))) (hb : (Nat.ble k 41 && Nat.ble n 1024) = true) (hj : j < n) (kk : xV D N0 M d nx lv r (hm m (mJ A k j x) h) Q) : xV D N0 M d pc lv (.long x :: .int (nI j) :: .ref (m + k) :: r) (hm m A h) Q := by
  obtain ⟨h1, h2⟩ := xbnd hb
  have e : (nI j).toNatClampNeg = j := xn_clamp (by omega)
  exact xV.mjst hq hc (by rw [e]; exact hc') h1 (xn_in hj h2) (by rw [e]; exact kk)
end X18
section Y18
variable {D : va_G} {N0 : Nat} {d m : Nat} {h : XH} {A : MS}
def mside (A : MS) (j : Nat) (n : Int32) : Int32 := if n = A.2.1 6 j then 0 else if n = A.2.1 7 j then 1 else -1
def mnode (A : MS) (j : Nat) (s : Int32) : Int32 := if s = 0 then A.2.1 6 j else A.2.1 7 j
theorem c_M_sideOf {j : Nat} (hj : j < 8) {n : Int32} : xV D N0 mM_sideOf d 0 (xargs 3 [.ref m, .int (nI j), .int n]) [] (hm m A h) (xEq (.returned (some (.int (mside A j n)))) (hm m A h)) := by
  unfold mside
  repeat' first
    | refine xV.step rfl ?_
    | refine xV.mget rfl rfl ?_
    | refine xV.mi rfl rfl rfl hj ?_
    | refine xV.br rfl (fun _ => ?_) (fun _ => ?_)
  all_goals refine xV.iret rfl rfl rfl ⟨?_, rfl⟩
  all_goals simp_all
theorem c_M_nodeOf {j : Nat} (hj : j < 8) {s : Int32} : xV D N0 mM_nodeOf d 0 (xargs 3 [.ref m, .int (nI j), .int s]) [] (hm m A h) (xEq (.returned (some (.int (mnode A j s)))) (hm m A h)) := by
  unfold mnode
  repeat' first
    | refine xV.step rfl ?_
    | refine xV.mget rfl rfl ?_
    | refine xV.mi rfl rfl rfl hj ?_
    | refine xV.br rfl (fun _ => ?_) (fun _ => ?_)
  all_goals refine xV.iret rfl rfl rfl ⟨?_, rfl⟩
  all_goals simp_all
theorem c_M_hasState {j : Nat} (hj : j < 8) : xV D N0 mM_hasState d 0 (xargs 2 [.ref m, .int (nI j)]) [] (hm m A h) (xEq (.returned (some (.int (xB (decide (A.2.1 9 j + 1 < 64)))))) (hm m A h)) := by
  repeat' first
    | refine xV.step rfl ?_
    | refine xV.mget rfl rfl ?_
    | refine xV.mi rfl rfl rfl hj ?_
    | refine xV.br rfl (fun _ => ?_) (fun _ => ?_)
  all_goals refine xV.iret rfl rfl rfl ⟨?_, rfl⟩
  all_goals first
    | exact xB1 (by simp only [Int32.lt_iff_toInt_lt, Int32.le_iff_toInt_le] at *; omega)
    | exact xB0 (by simp only [Int32.lt_iff_toInt_lt, Int32.le_iff_toInt_le] at *; omega)
theorem c_M_cell {a b c : Int32} : xV D N0 mM_cell d 0 (xargs 3 [.int a, .int b, .int c]) [] h (xEq (.returned (some (.int (2 * (64 * a + b) + c)))) h) := by
  repeat' refine xV.step rfl ?_
  exact xV.iret rfl rfl rfl ⟨rfl, rfl⟩
theorem c_M_balance {j l s : Nat} (hj : j < 8) (hl : A.2.1 9 j = nI l) (hl2 : l < 64) (hs : s < 2) : xV D N0 mM_balance (d + 1) 0 (xargs 3 [.ref m, .int (nI j), .int (nI s)]) [] (hm m A h) (xEq (.returned (some (.int (A.2.1 10 (2 * (64 * j + l) + s))))) (hm m A h)) := by
  repeat' first
    | refine xV.step rfl ?_
    | refine xV.mget rfl rfl ?_
    | refine xV.mi rfl rfl rfl hj ?_
  rw [hl]
  repeat' refine xV.step rfl ?_
  refine xV.cS rfl rfl g_mM_balance_178 mM_cell_ok (Nat.le_of_ble_eq_true rfl) (Nat.le_of_ble_eq_true rfl) c_M_cell ?_
  rw [xn_cell]
  refine xV.mi (n := 1024) rfl rfl rfl (by omega) ?_
  exact xV.iret rfl rfl rfl ⟨rfl, rfl⟩
theorem c_M_now {j l : Nat} (hj : j < 8) (hl : A.2.1 9 j = nI l) (hl2 : l < 64) : xV D N0 mM_now d 0 (xargs 2 [.ref m, .int (nI j)]) [] (hm m A h) (xEq (.returned (some (.long (A.2.2 11 (64 * j + l))))) (hm m A h)) := by
  repeat' first
    | refine xV.step rfl ?_
    | refine xV.mget rfl rfl ?_
    | refine xV.mi rfl rfl rfl hj ?_
  rw [hl, xn_ix]
  refine xV.mj (n := 512) rfl rfl rfl (by omega) ?_
  exact xV.lret rfl rfl ⟨rfl, rfl⟩
def mmay (A : MS) (j : Nat) : Bool := decide (A.2.1 8 j = 1 ∧ A.2.1 18 j < A.2.1 9 j ∧ A.1 6 < A.2.1 20 j + 10)
theorem c_M_mayPunish {j : Nat} (hj : j < 8) : xV D N0 mM_mayPunish d 0 (xargs 2 [.ref m, .int (nI j)]) [] (hm m A h) (xEq (.returned (some (.int (xB (mmay A j))))) (hm m A h)) := by
  unfold mmay
  repeat' first
    | refine xV.step rfl ?_
    | refine xV.mget rfl rfl ?_
    | refine xV.mi rfl rfl rfl hj ?_
    | refine xV.br rfl (fun _ => ?_) (fun _ => ?_)
  all_goals refine xV.iret rfl rfl rfl ⟨?_, rfl⟩
  all_goals first
    | exact xB1 (by simp only [Int32.lt_iff_toInt_lt, Int32.le_iff_toInt_le, ← Int32.toInt_inj] at *; omega)
    | exact xB0 (by simp only [Int32.lt_iff_toInt_lt, Int32.le_iff_toInt_le, ← Int32.toInt_inj] at *; omega)
theorem c_M_shut {j : Nat} (hj : j < 8) : xV D N0 mM_shut d 0 (xargs 2 [.ref m, .int (nI j)]) [] (hm m A h) (xEq (.returned none) (hm m (mI (mI A 8 j 2) 12 j 0) h)) := by
  repeat' first
    | refine xV.step rfl ?_
    | refine xV.mget rfl rfl ?_
    | refine xV.si rfl rfl rfl rfl hj ?_
  exact xV.vret rfl rfl ⟨rfl, rfl⟩
end Y18
end
section
/- Part 19: secrets, promises and states of the model. -/
theorem lg_cmp_lt0 (x y : Int64) : lg_cmp x y < 0 ↔ x < y := by
  have h := lg_cmp_ge x y
  rw [Int32.le_iff_toInt_le, Int64.le_iff_toInt_le] at h
  rw [Int32.lt_iff_toInt_lt, Int64.lt_iff_toInt_lt]
  omega
def mhas (A : MS) (K : Nat) (k : Int64) : Bool := (mfind (A.2.2 23) k K).isSome || decide (K < 24)
def mlearn (A : MS) (K : Nat) (k : Int64) (w : Int32) : MS := match mfind (A.2.2 23) k K with
  | some j => mI A 24 j (A.2.1 24 j ||| w)
  | none => mI (mF (mI (mJ A 23 K k) 24 K 0) 25 (nI K + 1)) 24 K (0 ||| w)
def mknows (A : MS) (K : Nat) (n : Int32) (k : Int64) : Bool := match mfind (A.2.2 23) k K with
  | some j => decide (A.2.1 24 j >>> (n &&& 31) &&& 1 = 1)
  | none => false
def mbit (s : Int64) (k : Int32) : Bool := decide (0 ≤ k ∧ k < 64 ∧ (s >>> (k.toInt64 &&& 63)) &&& 1 = 1)
def bitsN (s : Int64) : Nat → Int32
  | 0 => 0
  | k + 1 => bitsN s k + ((s >>> ((nI k).toInt64 &&& 63)) &&& 1).toInt32
def mcarr (A : MS) (j l s : Nat) (a : Int64) : Bool := decide (A.2.1 8 j = 0 ∧ bitsN (A.2.2 11 (64 * j + l)) 64 < 6 ∧ ¬ (A.2.1 10 (2 * (64 * j + l) + s)).toInt64 < a)
def moth (A : MS) (j : Nat) : Int32 := mnode A j (1 - mside A j (A.2.1 19 j))
def mnext (A : MS) (j l : Nat) (side by0 : Int32) (set : Int64) : MS :=
  let A1 := mI A 9 j (nI (l + 1))
  let A2 := mI A1 10 (2 * (64 * j + (l + 1)) + 0) (A1.2.1 10 (2 * (64 * j + l) + 0) + if side = 0 then by0 else 0)
  let A3 := mI A2 10 (2 * (64 * j + (l + 1)) + 1) (A2.2.1 10 (2 * (64 * j + l) + 1) + if side = 1 then by0 else 0)
  mJ A3 11 (64 * j + l + 1) set
section X19
variable {D : va_G} {N0 : Nat} {d m : Nat} {h : XH} {A : MS}
theorem mfind_small {f : Nat → Int64} {k : Int64} {K : Nat} (hK : K ≤ 24) : ∀ n, mfind f k K = some n → n < 2 ^ 31 := fun n hn => by
  have := (mfind_lt hn).1
  omega
theorem c_M_hasRoom {K : Nat} (hK : A.1 25 = nI K) (hK2 : K ≤ 24) {k : Int64} : xV D N0 mM_hasRoom (d + 1) 0 (xargs 3 [.ref m, .long k]) [] (hm m A h) (xEq (.returned (some (.int (xB (mhas A K k))))) (hm m A h)) := by
  repeat' refine xV.step rfl ?_
  refine xV.cM rfl rfl g_mM_hasRoom_154 mM_find_ok (Nat.le_of_ble_eq_true rfl) (Nat.le_of_ble_eq_true rfl) (c_M_find hK hK2) ?_
  refine xV.step rfl ?_
  refine xV.br rfl (fun h1 => ?_) (fun h1 => ?_)
  · rw [oi_none (mfind_small hK2)] at h1
    repeat' refine xV.step rfl ?_
    refine xV.mget rfl rfl ?_
    repeat' refine xV.step rfl ?_
    rw [hK]
    refine xV.br rfl (fun h2 => ?_) (fun h2 => ?_)
    · repeat' refine xV.step rfl ?_
      refine xV.iret rfl rfl rfl ⟨?_, rfl⟩
      rw [show (24 : Int32) = nI 24 from rfl, xn_le (by omega) (by omega)] at h2
      have : ¬ K < 24 := by omega
      simp [mhas, h1, this, xB]
    · repeat' refine xV.step rfl ?_
      refine xV.iret rfl rfl rfl ⟨?_, rfl⟩
      rw [show (24 : Int32) = nI 24 from rfl, xn_le (by omega) (by omega)] at h2
      have : K < 24 := by omega
      simp [mhas, this, xB]
  · rw [oi_none (mfind_small hK2)] at h1
    repeat' refine xV.step rfl ?_
    refine xV.iret rfl rfl rfl ⟨?_, rfl⟩
    cases hf : mfind (A.2.2 23) k K with
    | none => exact absurd hf h1
    | some j => simp [mhas, hf, xB]
theorem c_M_learn {K : Nat} (hK : A.1 25 = nI K) (hK2 : K ≤ 24) {k : Int64} {w : Int32} (hr : mhas A K k = true) : xV D N0 mM_learn (d + 1) 0 (xargs 5 [.ref m, .long k, .int w]) [] (hm m A h) (xEq (.returned none) (hm m (mlearn A K k w) h)) := by
  repeat' refine xV.step rfl ?_
  refine xV.cM rfl rfl g_mM_learn_154 mM_find_ok (Nat.le_of_ble_eq_true rfl) (Nat.le_of_ble_eq_true rfl) (c_M_find hK hK2) ?_
  unfold mlearn
  cases hf : mfind (A.2.2 23) k K with
  | none =>
    have hK3 : K < 24 := by
      unfold mhas at hr
      rw [hf] at hr
      simpa using hr
    repeat' refine xV.step rfl ?_
    refine xV.br rfl (fun h1 => ?_) (fun h1 => absurd rfl h1)
    repeat' refine xV.step rfl ?_
    refine xV.mget rfl rfl ?_
    rw [hK]
    repeat' first
      | refine xV.step rfl ?_
      | refine xV.mget rfl rfl ?_
      | refine xV.sj rfl rfl rfl rfl hK3 ?_
      | refine xV.si rfl rfl rfl rfl hK3 ?_
      | refine xV.mput rfl rfl rfl (Nat.le_of_ble_eq_true rfl) ?_
      | refine xV.mi rfl rfl rfl hK3 ?_
    refine xV.vret rfl rfl ⟨rfl, ?_⟩
    show hm m (mI (mF (mI (mJ A 23 K k) 24 K 0) 25 (A.1 25 + 1)) 24 K ((if K = K then 0 else A.2.1 24 K) ||| w)) h = _
    rw [if_pos rfl, hK]
  | some j =>
    have hj : j < 24 := by have := (mfind_lt hf).1; omega
    repeat' refine xV.step rfl ?_
    refine xV.br rfl (fun h1 => ?_) (fun h1 => ?_)
    · have h2 := (oi_none (o := some j) (fun n hn => by cases hn; omega)).mp h1
      cases h2
    · rw [show oi (some j) = nI j from rfl]
      repeat' first
        | refine xV.step rfl ?_
        | refine xV.mget rfl rfl ?_
        | refine xV.si rfl rfl rfl rfl hj ?_
        | refine xV.mi rfl rfl rfl hj ?_
      exact xV.vret rfl rfl ⟨rfl, rfl⟩
theorem c_M_isKnown {K : Nat} (hK : A.1 25 = nI K) (hK2 : K ≤ 24) {n : Int32} {k : Int64} : xV D N0 mM_isKnown (d + 1) 0 (xargs 5 [.ref m, .int n, .long k]) [] (hm m A h) (xEq (.returned (some (.int (xB (mknows A K n k))))) (hm m A h)) := by
  repeat' refine xV.step rfl ?_
  refine xV.cM rfl rfl g_mM_isKnown_154 mM_find_ok (Nat.le_of_ble_eq_true rfl) (Nat.le_of_ble_eq_true rfl) (c_M_find hK hK2) ?_
  unfold mknows
  cases hf : mfind (A.2.2 23) k K with
  | none =>
    repeat' refine xV.step rfl ?_
    refine xV.br rfl (fun h1 => ?_) (fun h1 => absurd rfl h1)
    repeat' refine xV.step rfl ?_
    exact xV.iret rfl rfl rfl ⟨rfl, rfl⟩
  | some j =>
    have hj : j < 24 := by have := (mfind_lt hf).1; omega
    repeat' refine xV.step rfl ?_
    refine xV.br rfl (fun h1 => ?_) (fun h1 => ?_)
    · have h2 := (oi_none (o := some j) (fun n hn => by cases hn; omega)).mp h1
      cases h2
    · rw [show oi (some j) = nI j from rfl]
      repeat' first
        | refine xV.step rfl ?_
        | refine xV.mget rfl rfl ?_
        | refine xV.mi rfl rfl rfl hj ?_
        | refine xV.br rfl (fun _ => ?_) (fun _ => ?_)
      all_goals refine xV.iret rfl rfl rfl ⟨?_, rfl⟩
      all_goals first
        | exact xB1 (by assumption)
        | exact xB0 (by assumption)
theorem c_M_hasBit {s : Int64} {k : Int32} : xV D N0 mM_hasBit d 0 (xargs 3 [.long s, .int k]) [] h (xEq (.returned (some (.int (xB (mbit s k))))) h) := by
  unfold mbit
  repeat' first
    | refine xV.step rfl ?_
    | refine xV.br rfl (fun _ => ?_) (fun _ => ?_)
  all_goals refine xV.iret rfl rfl rfl ⟨?_, rfl⟩
  all_goals try simp only [lg_cmp_eq0] at *
  all_goals first
    | exact xB1 (by refine ⟨?_, ?_, by assumption⟩ <;> (simp only [Int32.lt_iff_toInt_lt, Int32.le_iff_toInt_le] at *; omega))
    | exact xB0 (by rintro ⟨h1, h2, h3⟩; first | contradiction | (simp only [Int32.lt_iff_toInt_lt, Int32.le_iff_toInt_le] at *; omega))
theorem c_M_bits_loop {s : Int64} : ∀ n j, j + n = 64 → xV D N0 mM_bits d 4 [some (.long s), none, some (.int (bitsN s j)), some (.int (nI j))] [] h (xEq (.returned (some (.int (bitsN s 64)))) h) := by
  intro n
  induction n with
  | zero =>
    intro j hj
    obtain rfl : j = 64 := by omega
    repeat' refine xV.step rfl ?_
    refine xV.br rfl (fun h1 => ?_) (fun h1 => absurd (by decide) h1)
    repeat' refine xV.step rfl ?_
    exact xV.iret rfl rfl rfl ⟨rfl, rfl⟩
  | succ n ih =>
    intro j hj
    repeat' refine xV.step rfl ?_
    have ih := ih (j + 1) (by omega)
    rw [← xn_succ] at ih
    refine xV.br rfl (fun h1 => ?_) (fun h1 => ?_)
    · rw [show (64 : Int32) = nI 64 from rfl, xn_le (by omega) (by omega)] at h1
      omega
    · repeat' first
        | exact ih
        | refine xV.step rfl ?_
theorem c_M_bits {s : Int64} : xV D N0 mM_bits d 0 (xargs 4 [.long s]) [] h (xEq (.returned (some (.int (bitsN s 64)))) h) := by
  refine xV.step rfl ?_
  refine xV.step rfl ?_
  refine xV.step rfl ?_
  refine xV.step rfl ?_
  exact c_M_bits_loop 64 0 (by omega)
theorem c_M_carries {j l s : Nat} (hj : j < 8) (hl : A.2.1 9 j = nI l) (hl2 : l < 64) (hs : s < 2) {a : Int64} : xV D N0 mM_carries (d + 2) 0 (xargs 5 [.ref m, .int (nI j), .int (nI s), .long a]) [] (hm m A h) (xEq (.returned (some (.int (xB (mcarr A j l s a))))) (hm m A h)) := by
  unfold mcarr
  repeat' first
    | refine xV.step rfl ?_
    | refine xV.mget rfl rfl ?_
    | refine xV.mi rfl rfl rfl hj ?_
  refine xV.br rfl (fun h1 => ?_) (fun h1 => ?_)
  · repeat' refine xV.step rfl ?_
    refine xV.cM rfl rfl g_mM_carries_182 mM_now_ok (Nat.le_of_ble_eq_true rfl) (Nat.le_of_ble_eq_true rfl) (c_M_now hj hl hl2) ?_
    refine xV.cS rfl rfl g_mM_carries_202 mM_bits_ok (Nat.le_of_ble_eq_true rfl) (Nat.le_of_ble_eq_true rfl) c_M_bits ?_
    refine xV.step rfl ?_
    refine xV.br rfl (fun h2 => ?_) (fun h2 => ?_)
    · repeat' refine xV.step rfl ?_
      refine xV.iret rfl rfl rfl ⟨?_, rfl⟩
      exact xB0 (fun h3 => by have := h3.2.1; simp only [Int32.lt_iff_toInt_lt, Int32.le_iff_toInt_le] at *; omega)
    · repeat' refine xV.step rfl ?_
      refine xV.cM rfl rfl g_mM_carries_208 mM_balance_ok (Nat.le_of_ble_eq_true rfl) (Nat.le_of_ble_eq_true rfl) (c_M_balance hj hl hl2 hs) ?_
      repeat' refine xV.step rfl ?_
      refine xV.br rfl (fun h3 => ?_) (fun h3 => ?_)
      · rw [lg_cmp_lt0] at h3
        repeat' refine xV.step rfl ?_
        refine xV.iret rfl rfl rfl ⟨?_, rfl⟩
        exact xB0 (fun h4 => h4.2.2 h3)
      · rw [lg_cmp_lt0] at h3
        repeat' refine xV.step rfl ?_
        refine xV.iret rfl rfl rfl ⟨?_, rfl⟩
        exact xB1 ⟨h1, by simp only [Int32.lt_iff_toInt_lt, Int32.le_iff_toInt_le] at *; omega, h3⟩
  · repeat' refine xV.step rfl ?_
    refine xV.iret rfl rfl rfl ⟨?_, rfl⟩
    exact xB0 (fun h3 => h1 h3.1)
theorem c_M_other {j : Nat} (hj : j < 8) : xV D N0 mM_other (d + 1) 0 (xargs 2 [.ref m, .int (nI j)]) [] (hm m A h) (xEq (.returned (some (.int (moth A j)))) (hm m A h)) := by
  repeat' first
    | refine xV.step rfl ?_
    | refine xV.mget rfl rfl ?_
    | refine xV.mi rfl rfl rfl hj ?_
  refine xV.cM rfl rfl g_mM_other_199 mM_sideOf_ok (Nat.le_of_ble_eq_true rfl) (Nat.le_of_ble_eq_true rfl) (c_M_sideOf hj) ?_
  repeat' refine xV.step rfl ?_
  refine xV.cM rfl rfl g_mM_other_192 mM_nodeOf_ok (Nat.le_of_ble_eq_true rfl) (Nat.le_of_ble_eq_true rfl) (c_M_nodeOf hj) ?_
  exact xV.iret rfl rfl rfl ⟨rfl, rfl⟩
def mpun (A : MS) (j o : Nat) : MS := mI (mI (mI A 1 o (A.2.1 1 o + A.2.1 12 j)) 8 j 2) 12 j 0
theorem c_M_punished {j o : Nat} (hj : j < 8) (ho : moth A j = nI o) (ho2 : o < 6) : xV D N0 mM_punished (d + 2) 0 (xargs 2 [.ref m, .int (nI j)]) [] (hm m A h) (xEq (.returned none) (hm m (mpun A j o) h)) := by
  repeat' first
    | refine xV.step rfl ?_
    | refine xV.mget rfl rfl ?_
  refine xV.cM rfl rfl g_mM_punished_270 mM_other_ok (Nat.le_of_ble_eq_true rfl) (Nat.le_of_ble_eq_true rfl) (c_M_other hj) ?_
  rw [ho]
  repeat' first
    | refine xV.step rfl ?_
    | refine xV.mget rfl rfl ?_
    | refine xV.mi rfl rfl rfl ho2 ?_
    | refine xV.mi rfl rfl rfl hj ?_
    | refine xV.si rfl rfl rfl rfl ho2 ?_
  refine xV.cM rfl rfl g_mM_punished_229 mM_shut_ok (Nat.le_of_ble_eq_true rfl) (Nat.le_of_ble_eq_true rfl) (c_M_shut hj) ?_
  exact xV.vret rfl rfl ⟨rfl, rfl⟩
end X19
end
section
/- Part 20: states and promises of the model. -/
section X20
variable {D : va_G} {N0 : Nat} {M : XM} {d pc m : Nat} {lv : XL} {st : List Value} {h : XH} {A : MS} {Q : Outcome → XH → Prop}
theorem xV.mi' {k nx n j : Nat} {i : Int32} {r : List Value} (hq : xon M pc = some (.iaload, nx)) (hc : mcell m A k = .inl (false, .int, n, .inl (A.2.1 k))) (hb : (Nat.ble k 41 && Nat.ble n 1024) = true) (hi : i = nI j) (hj : j < n) (kk : xV D N0 M d nx lv (.int (A.2.1 k j) :: r) (hm m A h) Q) : xV D N0 M d pc lv (.int i :: .ref (m + k) :: r) (hm m A h) Q := by
  subst hi; exact xV.mi hq hc hb hj kk
theorem xV.mj' {k nx n j : Nat} {i : Int32} {r : List Value} (hq : xon M pc = some (.laload, nx)) (hc : mcell m A k = .inl (false, .long, n, .inr (.inl (A.2.2 k)))) (hb : (Nat.ble k 41 && Nat.ble n 1024) = true) (hi : i = nI j) (hj : j < n) (kk : xV D N0 M d nx lv (.long (A.2.2 k j) :: r) (hm m A h) Q) : xV D N0 M d pc lv (.int i :: .ref (m + k) :: r) (hm m A h) Q := by
  subst hi; exact xV.mj hq hc hb hj kk
theorem xV.si' {k nx n j : Nat} {i x : Int32} {r : List Value} (hq : xon M pc = some (.iastore, nx)) (hc : mcell m A k = .inl (false, .int, n, .inl (A.2.1 k))) (hc' : mcell m (mI A k j x) k = .inl (false, .int, n, .inl (upd (A.2.1 k) j x))) (hb : (Nat.ble k 41 && Nat.ble n 1024) = true) (hi : i = nI j) (hj : j < n) (kk : xV D N0 M d nx lv r (hm m (mI A k j x) h) Q) : xV D N0 M d pc lv (.int x :: .int i :: .ref (m + k) :: r) (hm m A h) Q := by
  subst hi; exact xV.si hq hc hc' hb hj kk
theorem xV.sj' {k nx n j : Nat} {i : Int32} {x : Int64} {r : List Value} (hq : xon M pc = some (.lastore, nx)) (hc : mcell m A k = .inl (false, .long, n, .inr (.inl (A.2.2 k)))) (hc' : mcell m (mJ A k j x) k = .inl (false, .long, n, .inr (.inl (vp_updL (A.2.2 k) j x)))) (hb : (Nat.ble k 41 && Nat.ble n 1024) = true) (hi : i = nI j) (hj : j < n) (kk : xV D N0 M d nx lv r (hm m (mJ A k j x) h) Q) : xV D N0 M d pc lv (.long x :: .int i :: .ref (m + k) :: r) (hm m A h) Q := by
  subst hi; exact xV.sj hq hc hc' hb hj kk
theorem xn_cell0 (j l : Nat) : (2 : Int32) * ((64 : Int32) * nI j + nI l) + 0 = nI (2 * (64 * j + l) + 0) := xn_cell j l 0
theorem xn_cell1 (j l : Nat) : (2 : Int32) * ((64 : Int32) * nI j + nI l) + 1 = nI (2 * (64 * j + l) + 1) := xn_cell j l 1
end X20
section Y20
variable {D : va_G} {N0 : Nat} {d m : Nat} {h : XH} {A : MS}
theorem c_M_next_b {j l : Nat} (hj : j < 8) (hl2 : l < 63) {side by0 : Int32} {set : Int64} : xV D N0 mM_next (d + 1) 54 [some (.ref m), some (.int (nI j)), some (.int side), some (.int by0), some (.long set), none, some (.int (nI l))] [] (hm m A h)
    (xEq (.returned none) (hm m (mJ (mI A 10 (2 * (64 * j + (l + 1)) + 1) (A.2.1 10 (2 * (64 * j + l) + 1) + if side = 1 then by0 else 0)) 11 (64 * j + l + 1) set) h)) := by
  repeat' first
    | refine xV.step rfl ?_
    | refine xV.mget rfl rfl ?_
  refine xV.cS rfl rfl g_mM_next_178 mM_cell_ok (Nat.le_of_ble_eq_true rfl) (Nat.le_of_ble_eq_true rfl) c_M_cell ?_
  repeat' first
    | refine xV.step rfl ?_
    | refine xV.mget rfl rfl ?_
  refine xV.cS rfl rfl g_mM_next_178 mM_cell_ok (Nat.le_of_ble_eq_true rfl) (Nat.le_of_ble_eq_true rfl) c_M_cell ?_
  refine xV.mi' (n := 1024) rfl rfl rfl (xn_cell1 j l) (by omega) ?_
  repeat' refine xV.step rfl ?_
  refine xV.br rfl (fun h1 => ?_) (fun h1 => ?_)
  · rw [if_pos h1]
    repeat' refine xV.step rfl ?_
    refine xV.si' (n := 1024) rfl rfl rfl rfl (by rw [xn_succ]; exact xn_cell1 j (l + 1)) (by omega) ?_
    repeat' first
      | refine xV.step rfl ?_
      | refine xV.mget rfl rfl ?_
    refine xV.sj' (n := 512) rfl rfl rfl rfl (by rw [xn_ix, xn_succ]) (by omega) ?_
    exact xV.vret rfl rfl ⟨rfl, rfl⟩
  · rw [if_neg h1]
    repeat' refine xV.step rfl ?_
    refine xV.si' (n := 1024) rfl rfl rfl rfl (by rw [xn_succ]; exact xn_cell1 j (l + 1)) (by omega) ?_
    repeat' first
      | refine xV.step rfl ?_
      | refine xV.mget rfl rfl ?_
    refine xV.sj' (n := 512) rfl rfl rfl rfl (by rw [xn_ix, xn_succ]) (by omega) ?_
    exact xV.vret rfl rfl ⟨rfl, rfl⟩
theorem c_M_next {j l : Nat} (hj : j < 8) (hl : A.2.1 9 j = nI l) (hl2 : l < 63) {side by0 : Int32} {set : Int64} : xV D N0 mM_next (d + 1) 0 (xargs 7 [.ref m, .int (nI j), .int side, .int by0, .long set]) [] (hm m A h) (xEq (.returned none) (hm m (mnext A j l side by0 set) h)) := by
  repeat' first
    | refine xV.step rfl ?_
    | refine xV.mget rfl rfl ?_
    | refine xV.mi rfl rfl rfl hj ?_
    | refine xV.si rfl rfl rfl rfl hj ?_
  rw [hl]
  repeat' first
    | refine xV.step rfl ?_
    | refine xV.mget rfl rfl ?_
    | refine xV.si rfl rfl rfl rfl hj ?_
  refine xV.cS rfl rfl g_mM_next_178 mM_cell_ok (Nat.le_of_ble_eq_true rfl) (Nat.le_of_ble_eq_true rfl) c_M_cell ?_
  repeat' first
    | refine xV.step rfl ?_
    | refine xV.mget rfl rfl ?_
  refine xV.cS rfl rfl g_mM_next_178 mM_cell_ok (Nat.le_of_ble_eq_true rfl) (Nat.le_of_ble_eq_true rfl) c_M_cell ?_
  refine xV.mi' (n := 1024) rfl rfl rfl (xn_cell0 j l) (by omega) ?_
  repeat' refine xV.step rfl ?_
  unfold mnext
  simp only
  rw [← xn_succ]
  refine xV.br rfl (fun h1 => ?_) (fun h1 => ?_)
  · rw [if_pos h1]
    repeat' refine xV.step rfl ?_
    refine xV.si' (n := 1024) rfl rfl rfl rfl (by rw [xn_succ]; exact xn_cell0 j (l + 1)) (by omega) ?_
    exact c_M_next_b hj hl2
  · rw [if_neg h1]
    repeat' refine xV.step rfl ?_
    refine xV.si' (n := 1024) rfl rfl rfl rfl (by rw [xn_succ]; exact xn_cell0 j (l + 1)) (by omega) ?_
    exact c_M_next_b hj hl2
end Y20
end
section
/- Part 21: promises of the model. -/
def bk (k : Int32) : Int64 := (1 : Int64) <<< (k.toInt64 &&& 63)
def madd (A : MS) (j l k : Nat) (side amount : Int32) (lock : Int64) (dl : Int32) : MS :=
  mnext (mI (mJ (mI (mI (mI A 13 j (nI k + 1)) 14 (64 * j + k) side) 15 (64 * j + k) amount) 16 (64 * j + k) lock) 17 (64 * j + k) dl) j l side (-amount) (A.2.2 11 (64 * j + l) ||| bk (nI k))
def mdel (A : MS) (j l k : Nat) : Int64 := A.2.2 11 (64 * j + l) &&& (bk (nI k) ^^^ (-1))
def mdrop (A : MS) (j l k : Nat) : MS := mnext A j l (A.2.1 14 (64 * j + k)) (A.2.1 15 (64 * j + k)) (mdel A j l k)
def mkept (A : MS) (j l k : Nat) : MS := mnext A j l (1 - A.2.1 14 (64 * j + k)) (A.2.1 15 (64 * j + k)) (mdel A j l k)
def mkeep (A : MS) (j l k K : Nat) : MS := mlearn (mkept A j l k) K (A.2.2 16 (64 * j + k)) ((1 : Int32) <<< (mnode A j (A.2.1 14 (64 * j + k)) &&& 31))
section X21
variable {D : va_G} {N0 : Nat} {d m : Nat} {h : XH} {A : MS}
theorem c_M_addPromise {j l k : Nat} (hj : j < 8) (hl : A.2.1 9 j = nI l) (hl2 : l < 63) (hk : A.2.1 13 j = nI k) (hk2 : k < 64) {side amount dl : Int32} {lock : Int64} :
    xV D N0 mM_addPromise (d + 2) 0 (xargs 8 [.ref m, .int (nI j), .int side, .int amount, .long lock, .int dl]) [] (hm m A h) (xEq (.returned (some (.int (nI k)))) (hm m (madd A j l k side amount lock dl) h)) := by
  have hl5 : (mI (mJ (mI (mI (mI A 13 j (nI k + 1)) 14 (64 * j + k) side) 15 (64 * j + k) amount) 16 (64 * j + k) lock) 17 (64 * j + k) dl).2.1 9 j = nI l := hl
  repeat' first
    | refine xV.step rfl ?_
    | refine xV.mget rfl rfl ?_
    | refine xV.mi rfl rfl rfl hj ?_
  rw [hk]
  refine xV.si rfl rfl rfl rfl hj ?_
  repeat' first
    | refine xV.step rfl ?_
    | refine xV.mget rfl rfl ?_
    | refine xV.si' (n := 512) (j := 64 * j + k) rfl rfl rfl rfl (xn_ix j k) (by omega) ?_
    | refine xV.sj' (n := 512) (j := 64 * j + k) rfl rfl rfl rfl (xn_ix j k) (by omega) ?_
  refine xV.cM rfl rfl g_mM_addPromise_182 mM_now_ok (Nat.le_of_ble_eq_true rfl) (Nat.le_of_ble_eq_true rfl) (c_M_now hj hl5 (by omega)) ?_
  repeat' refine xV.step rfl ?_
  refine xV.cM rfl rfl g_mM_addPromise_186 mM_next_ok (Nat.le_of_ble_eq_true rfl) (Nat.le_of_ble_eq_true rfl) (c_M_next hj hl5 hl2) ?_
  repeat' refine xV.step rfl ?_
  exact xV.iret rfl rfl rfl ⟨rfl, rfl⟩
theorem c_M_dropPromise {j l k : Nat} (hj : j < 8) (hl : A.2.1 9 j = nI l) (hl2 : l < 63) (hk2 : k < 64) :
    xV D N0 mM_dropPromise (d + 2) 0 (xargs 3 [.ref m, .int (nI j), .int (nI k)]) [] (hm m A h) (xEq (.returned none) (hm m (mdrop A j l k) h)) := by
  repeat' first
    | refine xV.step rfl ?_
    | refine xV.mget rfl rfl ?_
    | refine xV.mi' (n := 512) rfl rfl rfl (xn_ix j k) (by omega) ?_
  refine xV.cM rfl rfl g_mM_dropPromise_182 mM_now_ok (Nat.le_of_ble_eq_true rfl) (Nat.le_of_ble_eq_true rfl) (c_M_now (l := l) hj hl (by omega)) ?_
  repeat' refine xV.step rfl ?_
  refine xV.cM rfl rfl g_mM_dropPromise_186 mM_next_ok (Nat.le_of_ble_eq_true rfl) (Nat.le_of_ble_eq_true rfl) (c_M_next (l := l) hj hl hl2) ?_
  exact xV.vret rfl rfl ⟨rfl, rfl⟩
theorem c_M_keepPromise {j l k K : Nat} (hj : j < 8) (hl : A.2.1 9 j = nI l) (hl2 : l < 63) (hk2 : k < 64) (hK : A.1 25 = nI K) (hK2 : K ≤ 24) (hr : mhas A K (A.2.2 16 (64 * j + k)) = true) :
    xV D N0 mM_keepPromise (d + 2) 0 (xargs 4 [.ref m, .int (nI j), .int (nI k)]) [] (hm m A h) (xEq (.returned none) (hm m (mkeep A j l k K) h)) := by
  repeat' first
    | refine xV.step rfl ?_
    | refine xV.mget rfl rfl ?_
    | refine xV.mi' (n := 512) rfl rfl rfl (xn_ix j k) (by omega) ?_
  refine xV.cM rfl rfl g_mM_keepPromise_182 mM_now_ok (Nat.le_of_ble_eq_true rfl) (Nat.le_of_ble_eq_true rfl) (c_M_now (l := l) hj hl (by omega)) ?_
  repeat' refine xV.step rfl ?_
  refine xV.cM rfl rfl g_mM_keepPromise_186 mM_next_ok (Nat.le_of_ble_eq_true rfl) (Nat.le_of_ble_eq_true rfl) (c_M_next (l := l) hj hl hl2) ?_
  repeat' first
    | refine xV.step rfl ?_
    | refine xV.mget rfl rfl ?_
    | refine xV.mj' (n := 512) rfl rfl rfl (xn_ix j k) (by omega) ?_
  refine xV.cM rfl rfl g_mM_keepPromise_192 mM_nodeOf_ok (Nat.le_of_ble_eq_true rfl) (Nat.le_of_ble_eq_true rfl) (c_M_nodeOf hj) ?_
  repeat' refine xV.step rfl ?_
  refine xV.cM rfl rfl g_mM_keepPromise_170 mM_learn_ok (Nat.le_of_ble_eq_true rfl) (Nat.le_of_ble_eq_true rfl) (c_M_learn (A := mkept A j l k) (K := K) hK hK2 hr) ?_
  exact xV.vret rfl rfl ⟨rfl, rfl⟩
end X21
end
section
/- Part 22: public methods of the model: nodes and secrets. -/
/-- two ends: t is not 0, or it is -/
def xTw (t : Int32) (o1 : Outcome) (u1 : XH) (o0 : Outcome) (u0 : XH) : Outcome → XH → Prop := fun o u => (t ≠ 0 ∧ o = o1 ∧ u = u1) ∨ (t = 0 ∧ o = o0 ∧ u = u0)
def nd (v : Int32) : Bool := decide (0 ≤ v ∧ v ≤ 5)
def tNd (v : Int32) : Int32 := if nd v = true then 0 else 1
def tTell (A : MS) (K : Nat) (n : Int32) (s : Int64) : Int32 := if nd n = true then (if mhas A K (lk s) = true then 0 else 2) else 1
def tFees (n b q e : Int32) : Int32 := if nd n = true then (if (0 ≤ b ∧ b ≤ 10000) ∧ (0 ≤ q ∧ q ≤ 1000000) ∧ (1 ≤ e ∧ e ≤ 100) then 0 else 2) else 1
theorem nd_nat {v : Int32} (h : nd v = true) : ∃ j, j < 6 ∧ v = nI j := by
  obtain ⟨h1, h2⟩ := of_decide_eq_true h
  rw [Int32.le_iff_toInt_le] at h1 h2
  have e0 : (0 : Int32).toInt = 0 := rfl
  have e5 : (5 : Int32).toInt = 5 := rfl
  exact xn_of (by omega) (by omega) (by omega)
section X22
variable {D : va_G} {N0 : Nat} {d m : Nat} {h : XH} {A : MS}
theorem xB_f {b : Bool} (hb : xB b = 0) : b = false := xB_ne.mp hb
theorem xB_t {b : Bool} (hb : ¬ xB b = 0) : b = true := by cases b; exact absurd rfl hb; rfl
theorem c_M_isNode' {v : Int32} : xV D N0 mM_isNode (d + 1) 0 (xargs 1 [.int v]) [] h (xEq (.returned (some (.int (xB (nd v))))) h) := c_M_isNode
theorem c_M_tell {K : Nat} (hK : A.1 25 = nI K) (hK2 : K ≤ 24) {n : Int32} {s : Int64} : xV D N0 mM_tell (d + 2) 0 (xargs 6 [.ref m, .int n, .long s]) [] (hm m A h)
    (xTw (tTell A K n s) (.returned (some (.long 0))) (hm m (mF A 0 (tTell A K n s)) h) (.returned (some (.long (lk s)))) (hm m (mlearn (mF A 0 0) K (lk s) ((1 : Int32) <<< (n &&& 31))) h)) := by
  repeat' refine xV.step rfl ?_
  refine xV.cS rfl rfl g_mM_tell_158 mM_lockOf_ok (Nat.le_of_ble_eq_true rfl) (Nat.le_of_ble_eq_true rfl) c_M_lockOf ?_
  repeat' refine xV.step rfl ?_
  refine xV.cS rfl rfl g_mM_tell_162 mM_isNode_ok (Nat.le_of_ble_eq_true rfl) (Nat.le_of_ble_eq_true rfl) c_M_isNode' ?_
  refine xV.br rfl (fun h1 => ?_) (fun h1 => ?_)
  · have ht : tTell A K n s = 1 := by unfold tTell; rw [xB_f h1]; rfl
    repeat' refine xV.step rfl ?_
    refine xV.mput rfl rfl rfl (Nat.le_of_ble_eq_true rfl) ?_
    repeat' refine xV.step rfl ?_
    refine xV.mget (v := .int 1) rfl rfl ?_
    refine xV.br rfl (fun h2 => absurd h2 (by decide)) (fun h2 => ?_)
    repeat' refine xV.step rfl ?_
    exact xV.lret rfl rfl (Or.inl ⟨by rw [ht]; decide, rfl, by rw [ht]⟩)
  · repeat' refine xV.step rfl ?_
    refine xV.cM rfl rfl g_mM_tell_166 mM_hasRoom_ok (Nat.le_of_ble_eq_true rfl) (Nat.le_of_ble_eq_true rfl) (c_M_hasRoom hK hK2) ?_
    refine xV.br rfl (fun h3 => ?_) (fun h3 => ?_)
    · have ht : tTell A K n s = 2 := by unfold tTell; rw [xB_t h1, xB_f h3]; rfl
      repeat' refine xV.step rfl ?_
      refine xV.mput rfl rfl rfl (Nat.le_of_ble_eq_true rfl) ?_
      repeat' refine xV.step rfl ?_
      refine xV.mget (v := .int 2) rfl rfl ?_
      refine xV.br rfl (fun h2 => absurd h2 (by decide)) (fun h2 => ?_)
      repeat' refine xV.step rfl ?_
      exact xV.lret rfl rfl (Or.inl ⟨by rw [ht]; decide, rfl, by rw [ht]⟩)
    · have ht : tTell A K n s = 0 := by unfold tTell; rw [xB_t h1, xB_t h3]; rfl
      repeat' refine xV.step rfl ?_
      refine xV.mput rfl rfl rfl (Nat.le_of_ble_eq_true rfl) ?_
      repeat' refine xV.step rfl ?_
      refine xV.mget (v := .int 0) rfl rfl ?_
      refine xV.br rfl (fun h2 => ?_) (fun h2 => absurd (by decide) h2)
      repeat' refine xV.step rfl ?_
      refine xV.cM rfl rfl g_mM_tell_170 mM_learn_ok (Nat.le_of_ble_eq_true rfl) (Nat.le_of_ble_eq_true rfl) (c_M_learn (A := mF A 0 0) (K := K) hK hK2 (xB_t h3)) ?_
      repeat' refine xV.step rfl ?_
      exact xV.lret rfl rfl (Or.inr ⟨ht, rfl, rfl⟩)
end X22
end
section
/- Part 23: more public methods of the model. -/
section X23
variable {D : va_G} {N0 : Nat} {d m : Nat} {h : XH} {A : MS}
theorem tNd_f {v : Int32} (hv : xB (nd v) = 0) : tNd v = 1 := by unfold tNd; rw [xB_f hv]; rfl
theorem tNd_t {v : Int32} (hv : ¬ xB (nd v) = 0) : tNd v = 0 := by unfold tNd; rw [xB_t hv]; rfl
theorem c_M_thrown : xV D N0 mM_thrown d 0 (xargs 1 [.ref m]) [] (hm m A h) (xEq (.returned (some (.int (A.1 0)))) (hm m A h)) := by
  refine xV.step rfl ?_
  refine xV.mget rfl rfl ?_
  exact xV.iret rfl rfl rfl ⟨rfl, rfl⟩
theorem c_M_lock {s : Int64} : xV D N0 mM_lock (d + 1) 0 (xargs 3 [.ref m, .long s]) [] (hm m A h) (xEq (.returned (some (.long (lk s)))) (hm m (mF A 0 0) h)) := by
  repeat' refine xV.step rfl ?_
  refine xV.mput rfl rfl rfl (Nat.le_of_ble_eq_true rfl) ?_
  repeat' refine xV.step rfl ?_
  refine xV.cS rfl rfl g_mM_lock_158 mM_lockOf_ok (Nat.le_of_ble_eq_true rfl) (Nat.le_of_ble_eq_true rfl) c_M_lockOf ?_
  exact xV.lret rfl rfl ⟨rfl, rfl⟩
theorem c_M_height : xV D N0 mM_height d 0 (xargs 1 [.ref m]) [] (hm m A h) (xEq (.returned (some (.int (A.1 6)))) (hm m (mF A 0 0) h)) := by
  repeat' first
    | refine xV.step rfl ?_
    | refine xV.mput rfl rfl rfl (Nat.le_of_ble_eq_true rfl) ?_
    | refine xV.mget rfl rfl ?_
  exact xV.iret rfl rfl rfl ⟨rfl, rfl⟩
theorem c_M_channels : xV D N0 mM_channels d 0 (xargs 1 [.ref m]) [] (hm m A h) (xEq (.returned (some (.int (A.1 7)))) (hm m (mF A 0 0) h)) := by
  repeat' first
    | refine xV.step rfl ?_
    | refine xV.mput rfl rfl rfl (Nat.le_of_ble_eq_true rfl) ?_
    | refine xV.mget rfl rfl ?_
  exact xV.iret rfl rfl rfl ⟨rfl, rfl⟩
theorem c_M_coins {j : Nat} {n : Int32} (hn : nd n = true → n = nI j ∧ j < 6) : xV D N0 mM_coins (d + 2) 0 (xargs 2 [.ref m, .int n]) [] (hm m A h) (xTw (tNd n) (.returned (some (.int 0))) (hm m (mF A 0 1) h) (.returned (some (.int (A.2.1 1 j)))) (hm m (mF A 0 0) h)) := by
  repeat' refine xV.step rfl ?_
  refine xV.cS rfl rfl g_mM_coins_162 mM_isNode_ok (Nat.le_of_ble_eq_true rfl) (Nat.le_of_ble_eq_true rfl) c_M_isNode' ?_
  refine xV.br rfl (fun h1 => ?_) (fun h1 => ?_)
  · repeat' refine xV.step rfl ?_
    refine xV.mput rfl rfl rfl (Nat.le_of_ble_eq_true rfl) ?_
    repeat' refine xV.step rfl ?_
    refine xV.mget (v := .int 1) rfl rfl ?_
    refine xV.br rfl (fun h2 => absurd h2 (by decide)) (fun h2 => ?_)
    repeat' refine xV.step rfl ?_
    exact xV.iret rfl rfl rfl (Or.inl ⟨by rw [tNd_f h1]; decide, rfl, rfl⟩)
  · obtain ⟨e, hj⟩ := hn (xB_t h1)
    repeat' refine xV.step rfl ?_
    refine xV.mput rfl rfl rfl (Nat.le_of_ble_eq_true rfl) ?_
    repeat' refine xV.step rfl ?_
    refine xV.mget (v := .int 0) rfl rfl ?_
    refine xV.br rfl (fun h2 => ?_) (fun h2 => absurd (by decide) h2)
    repeat' refine xV.step rfl ?_
    refine xV.mget rfl rfl ?_
    repeat' refine xV.step rfl ?_
    refine xV.mi' (n := 6) rfl rfl rfl e hj ?_
    exact xV.iret rfl rfl rfl (Or.inr ⟨tNd_t h1, rfl, rfl⟩)
theorem c_M_watch {j : Nat} {n x : Int32} (hn : nd n = true → n = nI j ∧ j < 6) (hx : narrow .boolean (.int x) = .int x) : xV D N0 mM_watch (d + 2) 0 (xargs 3 [.ref m, .int n, .int x]) [] (hm m A h) (xTw (tNd n) (.returned none) (hm m (mF A 0 1) h) (.returned none) (hm m (mI (mF A 0 0) 5 j x) h)) := by
  repeat' refine xV.step rfl ?_
  refine xV.cS rfl rfl g_mM_watch_162 mM_isNode_ok (Nat.le_of_ble_eq_true rfl) (Nat.le_of_ble_eq_true rfl) c_M_isNode' ?_
  refine xV.br rfl (fun h1 => ?_) (fun h1 => ?_)
  · repeat' refine xV.step rfl ?_
    refine xV.mput rfl rfl rfl (Nat.le_of_ble_eq_true rfl) ?_
    repeat' refine xV.step rfl ?_
    refine xV.mget (v := .int 1) rfl rfl ?_
    refine xV.br rfl (fun h2 => absurd h2 (by decide)) (fun h2 => ?_)
    exact xV.vret rfl rfl (Or.inl ⟨by rw [tNd_f h1]; decide, rfl, rfl⟩)
  · obtain ⟨e, hj⟩ := hn (xB_t h1)
    subst e
    repeat' refine xV.step rfl ?_
    refine xV.mput rfl rfl rfl (Nat.le_of_ble_eq_true rfl) ?_
    repeat' refine xV.step rfl ?_
    refine xV.mget (v := .int 0) rfl rfl ?_
    refine xV.br rfl (fun h2 => ?_) (fun h2 => absurd rfl h2)
    repeat' refine xV.step rfl ?_
    refine xV.mget rfl rfl ?_
    repeat' refine xV.step rfl ?_
    refine xV.sz rfl rfl rfl rfl hj hx ?_
    exact xV.vret rfl rfl (Or.inr ⟨tNd_t h1, rfl, rfl⟩)
theorem c_M_knows {K : Nat} (hK : A.1 25 = nI K) (hK2 : K ≤ 24) {n : Int32} {k : Int64} : xV D N0 mM_knows (d + 2) 0 (xargs 4 [.ref m, .int n, .long k]) [] (hm m A h) (xTw (tNd n) (.returned (some (.int 0))) (hm m (mF A 0 1) h) (.returned (some (.int (xB (mknows A K n k))))) (hm m (mF A 0 0) h)) := by
  repeat' refine xV.step rfl ?_
  refine xV.cS rfl rfl g_mM_knows_162 mM_isNode_ok (Nat.le_of_ble_eq_true rfl) (Nat.le_of_ble_eq_true rfl) c_M_isNode' ?_
  refine xV.br rfl (fun h1 => ?_) (fun h1 => ?_)
  · repeat' refine xV.step rfl ?_
    refine xV.mput rfl rfl rfl (Nat.le_of_ble_eq_true rfl) ?_
    repeat' refine xV.step rfl ?_
    refine xV.mget (v := .int 1) rfl rfl ?_
    refine xV.br rfl (fun h2 => absurd h2 (by decide)) (fun h2 => ?_)
    repeat' refine xV.step rfl ?_
    exact xV.iret rfl rfl rfl (Or.inl ⟨by rw [tNd_f h1]; decide, rfl, rfl⟩)
  · repeat' refine xV.step rfl ?_
    refine xV.mput rfl rfl rfl (Nat.le_of_ble_eq_true rfl) ?_
    repeat' refine xV.step rfl ?_
    refine xV.mget (v := .int 0) rfl rfl ?_
    refine xV.br rfl (fun h2 => ?_) (fun h2 => absurd rfl h2)
    repeat' refine xV.step rfl ?_
    refine xV.cM rfl rfl g_mM_knows_174 mM_isKnown_ok (Nat.le_of_ble_eq_true rfl) (Nat.le_of_ble_eq_true rfl) (c_M_isKnown (A := mF A 0 0) (K := K) hK hK2) ?_
    refine xV.br rfl (fun h3 => ?_) (fun h3 => ?_)
    · repeat' refine xV.step rfl ?_
      refine xV.iret rfl rfl rfl (Or.inr ⟨tNd_t h1, ?_, rfl⟩)
      rw [show mknows A K n k = false from xB_f h3]; rfl
    · repeat' refine xV.step rfl ?_
      refine xV.iret rfl rfl rfl (Or.inr ⟨tNd_t h1, ?_, rfl⟩)
      rw [show mknows A K n k = true from xB_t h3]; rfl
theorem c_M_fees {j : Nat} {n b q e : Int32} (hn : nd n = true → n = nI j ∧ j < 6) : xV D N0 mM_fees (d + 2) 0 (xargs 5 [.ref m, .int n, .int b, .int q, .int e]) [] (hm m A h) (xTw (tFees n b q e) (.returned none) (hm m (mF A 0 (tFees n b q e)) h) (.returned none) (hm m (mI (mI (mI (mF A 0 0) 2 j b) 3 j q) 4 j e) h)) := by
  have tl : ∀ t : Int32, t = 1 ∨ t = 2 → tFees n b q e = t → xV D N0 mM_fees (d + 2) 49 (xargs 5 [.ref m, .int n, .int b, .int q, .int e]) [.int t, .ref m] (hm m A h) (xTw (tFees n b q e) (.returned none) (hm m (mF A 0 (tFees n b q e)) h) (.returned none) (hm m (mI (mI (mI (mF A 0 0) 2 j b) 3 j q) 4 j e) h)) := by
    intro t ht hT
    refine xV.mput rfl rfl rfl (Nat.le_of_ble_eq_true rfl) ?_
    repeat' refine xV.step rfl ?_
    refine xV.mget (v := .int t) rfl rfl ?_
    refine xV.br rfl (fun h2 => ?_) (fun h2 => ?_)
    · rcases ht with rfl | rfl <;> exact absurd h2 (by decide)
    · exact xV.vret rfl rfl (Or.inl ⟨by rw [hT]; exact h2, rfl, by rw [hT]⟩)
  repeat' refine xV.step rfl ?_
  refine xV.cS rfl rfl g_mM_fees_162 mM_isNode_ok (Nat.le_of_ble_eq_true rfl) (Nat.le_of_ble_eq_true rfl) c_M_isNode' ?_
  refine xV.br rfl (fun h1 => ?_) (fun h1 => ?_)
  · refine xV.step rfl ?_
    refine xV.step rfl ?_
    exact tl 1 (Or.inl rfl) (by unfold tFees; rw [xB_f h1]; rfl)
  · obtain ⟨e1, hj⟩ := hn (xB_t h1)
    repeat' refine xV.step rfl ?_
    refine xV.cS rfl rfl g_mM_fees_140 mM_isIn_ok (Nat.le_of_ble_eq_true rfl) (Nat.le_of_ble_eq_true rfl) c_M_isIn ?_
    refine xV.br rfl (fun h3 => ?_) (fun h3 => ?_)
    · refine xV.step rfl ?_
      exact tl 2 (Or.inr rfl) (by unfold tFees; rw [if_pos (xB_t h1), if_neg (fun z => of_decide_eq_false (xB_f h3) z.1)])
    repeat' refine xV.step rfl ?_
    refine xV.cS rfl rfl g_mM_fees_140 mM_isIn_ok (Nat.le_of_ble_eq_true rfl) (Nat.le_of_ble_eq_true rfl) c_M_isIn ?_
    refine xV.br rfl (fun h4 => ?_) (fun h4 => ?_)
    · refine xV.step rfl ?_
      exact tl 2 (Or.inr rfl) (by unfold tFees; rw [if_pos (xB_t h1), if_neg (fun z => of_decide_eq_false (xB_f h4) z.2.1)])
    repeat' refine xV.step rfl ?_
    refine xV.cS rfl rfl g_mM_fees_140 mM_isIn_ok (Nat.le_of_ble_eq_true rfl) (Nat.le_of_ble_eq_true rfl) c_M_isIn ?_
    refine xV.br rfl (fun h5 => ?_) (fun h5 => ?_)
    · refine xV.step rfl ?_
      exact tl 2 (Or.inr rfl) (by unfold tFees; rw [if_pos (xB_t h1), if_neg (fun z => of_decide_eq_false (xB_f h5) z.2.2)])
    have hT : tFees n b q e = 0 := by unfold tFees; rw [if_pos (xB_t h1), if_pos ⟨of_decide_eq_true (xB_t h3), of_decide_eq_true (xB_t h4), of_decide_eq_true (xB_t h5)⟩]
    subst e1
    repeat' refine xV.step rfl ?_
    refine xV.mput rfl rfl rfl (Nat.le_of_ble_eq_true rfl) ?_
    repeat' refine xV.step rfl ?_
    refine xV.mget (v := .int 0) rfl rfl ?_
    refine xV.br rfl (fun h2 => ?_) (fun h2 => absurd rfl h2)
    repeat' first
      | refine xV.step rfl ?_
      | refine xV.mget rfl rfl ?_
      | refine xV.si rfl rfl rfl rfl hj ?_
    exact xV.vret rfl rfl (Or.inr ⟨hT, rfl, rfl⟩)
end X23
end
section
/- Part 24: the model opens a channel. -/
def tOpen (A : MS) (f s a b : Int32) : Int32 := if nd f = true ∧ nd s = true then (if f = s ∨ a < 0 ∨ b < 0 ∨ (a = 0 ∧ b = 0) then 2 else if A.1 7 = 8 ∨ A.2.1 1 f.toNatClampNeg < a ∨ A.2.1 1 s.toNatClampNeg < b then 3 else 0) else 1
def mopen (A : MS) (n f s : Nat) (a b : Int32) : MS :=
  let A1 := mI (mI (mF (mF A 0 0) 7 (nI n + 1)) 6 n (nI f)) 7 n (nI s)
  let A2 := mI A1 1 f (A1.2.1 1 f - a)
  let A3 := mI A2 1 s (A2.2.1 1 s - b)
  mI (mI (mI A3 10 (2 * (64 * n + 0) + 0) a) 10 (2 * (64 * n + 0) + 1) b) 12 n (a + b)
section X24
variable {D : va_G} {N0 : Nat} {d m : Nat} {h : XH} {A : MS}
theorem nd_in {v : Int32} (hv : nd v = true) : vp_in v 6 := by
  obtain ⟨j, hj, rfl⟩ := nd_nat hv
  exact xn_in hj (by omega)
theorem c_M_open {n f s : Nat} {a b : Int32} {fi si : Int32} (hn : A.1 7 = nI n) (hn2 : n ≤ 8) (hf : nd fi = true → fi = nI f ∧ f < 6) (hs : nd si = true → si = nI s ∧ s < 6) :
    xV D N0 mM_open (d + 2) 0 (xargs 6 [.ref m, .int fi, .int si, .int a, .int b]) [] (hm m A h) (xTw (tOpen A fi si a b) (.returned (some (.int 0))) (hm m (mF A 0 (tOpen A fi si a b)) h) (.returned (some (.int (nI n)))) (hm m (mopen A n f s a b) h)) := by
  have tl : ∀ t : Int32, t = 1 ∨ t = 2 ∨ t = 3 → tOpen A fi si a b = t → xV D N0 mM_open (d + 2) 81 (xargs 6 [.ref m, .int fi, .int si, .int a, .int b]) [.int t, .ref m] (hm m A h) (xTw (tOpen A fi si a b) (.returned (some (.int 0))) (hm m (mF A 0 (tOpen A fi si a b)) h) (.returned (some (.int (nI n)))) (hm m (mopen A n f s a b) h)) := by
    intro t ht hT
    have h0 : t ≠ 0 ∧ ¬ t ≤ 0 := by rcases ht with rfl | rfl | rfl <;> exact ⟨by decide, by decide⟩
    refine xV.mput rfl rfl rfl (Nat.le_of_ble_eq_true rfl) ?_
    repeat' refine xV.step rfl ?_
    refine xV.mget (v := .int t) rfl rfl ?_
    refine xV.br rfl (fun h2 => absurd h2 h0.2) (fun h2 => ?_)
    repeat' refine xV.step rfl ?_
    exact xV.iret rfl rfl rfl (Or.inl ⟨by rw [hT]; exact h0.1, rfl, by rw [hT]⟩)
  repeat' refine xV.step rfl ?_
  refine xV.cS rfl rfl g_mM_open_162 mM_isNode_ok (Nat.le_of_ble_eq_true rfl) (Nat.le_of_ble_eq_true rfl) c_M_isNode' ?_
  refine xV.br rfl (fun h1 => ?_) (fun h1 => ?_)
  · refine xV.step rfl ?_
    refine xV.step rfl ?_
    exact tl 1 (Or.inl rfl) (by unfold tOpen; rw [if_neg (fun z => by rw [xB_f h1] at z; cases z.1)])
  repeat' refine xV.step rfl ?_
  refine xV.cS rfl rfl g_mM_open_162 mM_isNode_ok (Nat.le_of_ble_eq_true rfl) (Nat.le_of_ble_eq_true rfl) c_M_isNode' ?_
  refine xV.br rfl (fun h2 => ?_) (fun h2 => ?_)
  · refine xV.step rfl ?_
    refine xV.step rfl ?_
    exact tl 1 (Or.inl rfl) (by unfold tOpen; rw [if_neg (fun z => by rw [xB_f h2] at z; cases z.2)])
  have e2 : (f = f ∨ True) := Or.inl rfl
  have two : (fi = si ∨ a < 0 ∨ b < 0 ∨ (a = 0 ∧ b = 0)) → xV D N0 mM_open (d + 2) 42 (xargs 6 [.ref m, .int fi, .int si, .int a, .int b]) [.ref m] (hm m A h) (xTw (tOpen A fi si a b) (.returned (some (.int 0))) (hm m (mF A 0 (tOpen A fi si a b)) h) (.returned (some (.int (nI n)))) (hm m (mopen A n f s a b) h)) := fun hz => by
    refine xV.step rfl ?_
    refine xV.step rfl ?_
    exact tl 2 (Or.inr (Or.inl rfl)) (by unfold tOpen; rw [if_pos ⟨xB_t h1, xB_t h2⟩, if_pos hz])
  obtain ⟨ef, hf6⟩ := hf (xB_t h1)
  obtain ⟨es, hs6⟩ := hs (xB_t h2)
  have three : ¬ (fi = si ∨ a < 0 ∨ b < 0 ∨ (a = 0 ∧ b = 0)) → xV D N0 mM_open (d + 2) 46 (xargs 6 [.ref m, .int fi, .int si, .int a, .int b]) [.ref m] (hm m A h) (xTw (tOpen A fi si a b) (.returned (some (.int 0))) (hm m (mF A 0 (tOpen A fi si a b)) h) (.returned (some (.int (nI n)))) (hm m (mopen A n f s a b) h)) := fun hz => by
    have thr : (A.1 7 = 8 ∨ A.2.1 1 fi.toNatClampNeg < a ∨ A.2.1 1 si.toNatClampNeg < b) → xV D N0 mM_open (d + 2) 76 (xargs 6 [.ref m, .int fi, .int si, .int a, .int b]) [.ref m] (hm m A h) (xTw (tOpen A fi si a b) (.returned (some (.int 0))) (hm m (mF A 0 (tOpen A fi si a b)) h) (.returned (some (.int (nI n)))) (hm m (mopen A n f s a b) h)) := fun hy => by
      refine xV.step rfl ?_
      refine xV.step rfl ?_
      exact tl 3 (Or.inr (Or.inr rfl)) (by unfold tOpen; rw [if_pos ⟨xB_t h1, xB_t h2⟩, if_neg hz, if_pos hy])
    repeat' first
      | refine xV.step rfl ?_
      | refine xV.mget rfl rfl ?_
    refine xV.br rfl (fun h3 => thr (Or.inl h3)) (fun h3 => ?_)
    repeat' first
      | refine xV.step rfl ?_
      | refine xV.mget rfl rfl ?_
      | refine xV.mild (n := 6) rfl rfl (Nat.le_of_ble_eq_true rfl) (nd_in (xB_t h1)) ?_
    refine xV.br rfl (fun h4 => thr (Or.inr (Or.inl h4))) (fun h4 => ?_)
    repeat' first
      | refine xV.step rfl ?_
      | refine xV.mget rfl rfl ?_
      | refine xV.mild (n := 6) rfl rfl (Nat.le_of_ble_eq_true rfl) (nd_in (xB_t h2)) ?_
    refine xV.br rfl (fun h5 => ?_) (fun h5 => thr (Or.inr (Or.inr (by simp only [Int32.lt_iff_toInt_lt, Int32.le_iff_toInt_le] at *; omega))))
    have hT : tOpen A fi si a b = 0 := by
      unfold tOpen
      rw [if_pos ⟨xB_t h1, xB_t h2⟩, if_neg hz, if_neg]
      rintro (hy | hy | hy)
      · exact h3 hy
      · exact h4 hy
      · simp only [Int32.lt_iff_toInt_lt, Int32.le_iff_toInt_le] at *; omega
    have hn8 : n < 8 := by
      rcases Nat.lt_or_ge n 8 with z | z
      · exact z
      · exact absurd (by rw [hn, show n = 8 by omega]; rfl) h3
    subst ef; subst es
    refine xV.step rfl ?_
    refine xV.mput rfl rfl rfl (Nat.le_of_ble_eq_true rfl) ?_
    repeat' refine xV.step rfl ?_
    refine xV.mget (v := .int 0) rfl rfl ?_
    refine xV.br rfl (fun h6 => ?_) (fun h6 => absurd (by decide) h6)
    repeat' refine xV.step rfl ?_
    refine xV.mget (v := .int (A.1 7)) rfl rfl ?_
    rw [hn]
    repeat' refine xV.step rfl ?_
    refine xV.mget (v := .int (A.1 7)) rfl rfl ?_
    rw [hn]
    repeat' refine xV.step rfl ?_
    refine xV.mput rfl rfl rfl (Nat.le_of_ble_eq_true rfl) ?_
    repeat' first
      | refine xV.step rfl ?_
      | refine xV.mget rfl rfl ?_
      | refine xV.si (j := n) rfl rfl rfl rfl hn8 ?_
      | refine xV.mi (j := f) rfl rfl rfl hf6 ?_
      | refine xV.si (j := f) rfl rfl rfl rfl hf6 ?_
      | refine xV.mi (j := s) rfl rfl rfl hs6 ?_
      | refine xV.si (j := s) rfl rfl rfl rfl hs6 ?_
    refine xV.cS rfl rfl g_mM_open_178 mM_cell_ok (Nat.le_of_ble_eq_true rfl) (Nat.le_of_ble_eq_true rfl) c_M_cell ?_
    repeat' refine xV.step rfl ?_
    refine xV.si' (n := 1024) rfl rfl rfl rfl (xn_cell n 0 0) (by omega) ?_
    repeat' first
      | refine xV.step rfl ?_
      | refine xV.mget rfl rfl ?_
    refine xV.cS rfl rfl g_mM_open_178 mM_cell_ok (Nat.le_of_ble_eq_true rfl) (Nat.le_of_ble_eq_true rfl) c_M_cell ?_
    repeat' refine xV.step rfl ?_
    refine xV.si' (n := 1024) rfl rfl rfl rfl (xn_cell n 0 1) (by omega) ?_
    repeat' first
      | refine xV.step rfl ?_
      | refine xV.mget rfl rfl ?_
      | refine xV.si (j := n) rfl rfl rfl rfl hn8 ?_
    exact xV.iret rfl rfl rfl (Or.inr ⟨hT, rfl, rfl⟩)
  repeat' refine xV.step rfl ?_
  refine xV.br rfl (fun h3 => two (Or.inl h3)) (fun h3 => ?_)
  repeat' refine xV.step rfl ?_
  refine xV.br rfl (fun h4 => two (Or.inr (Or.inl h4))) (fun h4 => ?_)
  repeat' refine xV.step rfl ?_
  refine xV.br rfl (fun h5 => two (Or.inr (Or.inr (Or.inl h5)))) (fun h5 => ?_)
  repeat' refine xV.step rfl ?_
  refine xV.br rfl (fun h6 => ?_) (fun h6 => three (by rintro (z | z | z | z); exact h3 z; exact h4 z; exact h5 z; exact h6 z.1))
  repeat' refine xV.step rfl ?_
  exact xV.br rfl (fun h7 => two (Or.inr (Or.inr (Or.inr ⟨h6, h7⟩)))) (fun h7 => three (by rintro (z | z | z | z); exact h3 z; exact h4 z; exact h5 z; exact h7 z.2))
end X24
end
section
/- Part 25: the model: promise, drop, close. -/
def isc (A : MS) (c : Int32) : Bool := decide (0 ≤ c ∧ c ≤ A.1 7 - 1)
def msd (A : MS) (j : Nat) (n : Int32) : Nat := if n = A.2.1 6 j then 0 else 1
def mnow (A : MS) (j l : Nat) : Int64 := A.2.2 11 (64 * j + l)
def tProm (A : MS) (c n a e : Int32) (j l : Nat) : Int32 := if isc A c = true ∧ mside A j n ≠ -1 then (if a < 1 then 2 else if A.2.1 8 j ≠ 0 ∨ bitsN (mnow A j l) 64 = 6 ∨ ¬ A.2.1 9 j + 1 < 64 ∨ A.2.1 10 (2 * (64 * j + l) + msd A j n) < a ∨ e ≤ A.1 6 then 3 else 0) else 1
def tDrop (A : MS) (c k : Int32) (j l : Nat) : Int32 := if isc A c = true ∧ mbit (mnow A j l) k = true then (if A.2.1 8 j ≠ 0 ∨ ¬ A.2.1 9 j + 1 < 64 then 2 else 0) else 1
def tClose (A : MS) (c : Int32) (j l : Nat) : Int32 := if isc A c = true then (if A.2.1 8 j ≠ 0 ∨ mnow A j l ≠ 0 then 2 else 0) else 1
def mclose (A : MS) (j l f s : Nat) : MS :=
  let A2 := mI (mF A 0 0) 1 f (A.2.1 1 f + A.2.1 10 (2 * (64 * j + l) + 0))
  let A3 := mI A2 1 s (A2.2.1 1 s + A2.2.1 10 (2 * (64 * j + l) + 1))
  mI (mI A3 8 j 2) 12 j 0
theorem msd_lt (A : MS) (j : Nat) (n : Int32) : msd A j n < 2 := by unfold msd; split <;> omega
theorem mside_nat {A : MS} {j : Nat} {n : Int32} (h : mside A j n ≠ -1) : mside A j n = nI (msd A j n) := by
  unfold mside msd at *
  split
  · rfl
  · rename_i h1
    rw [if_neg h1] at h
    split
    · rfl
    · rename_i h2
      rw [if_neg h2] at h
      exact absurd rfl h
theorem mbit_nat {s : Int64} {k : Int32} (h : mbit s k = true) : ∃ q, q < 64 ∧ k = nI q := by
  obtain ⟨h1, h2, -⟩ := of_decide_eq_true h
  rw [Int32.le_iff_toInt_le] at h1
  rw [Int32.lt_iff_toInt_lt] at h2
  have e0 : (0 : Int32).toInt = 0 := rfl
  have e5 : (64 : Int32).toInt = 64 := rfl
  exact xn_of (by omega) (by omega) (by omega)
theorem lat_lt {l : Nat} (hl : l < 64) (h : nI l + 1 < 64) : l < 63 := by
  rw [xn_succ, show (64 : Int32) = nI 64 from rfl, xn_lt (by omega) (by omega)] at h
  omega
section X25
variable {D : va_G} {N0 : Nat} {d m : Nat} {h : XH} {A : MS}
theorem c_M_isChannel' {v : Int32} : xV D N0 mM_isChannel (d + 1) 0 (xargs 2 [.ref m, .int v]) [] (hm m A h) (xEq (.returned (some (.int (xB (isc A v))))) (hm m A h)) := c_M_isChannel
theorem c_M_close {j l f s : Nat} {c : Int32} (hc : isc A c = true → c = nI j ∧ j < 8 ∧ A.2.1 9 j = nI l ∧ l < 64 ∧ A.2.1 6 j = nI f ∧ f < 6 ∧ A.2.1 7 j = nI s ∧ s < 6) :
    xV D N0 mM_close (d + 3) 0 (xargs 2 [.ref m, .int c]) [] (hm m A h) (xTw (tClose A c j l) (.returned none) (hm m (mF A 0 (tClose A c j l)) h) (.returned none) (hm m (mclose A j l f s) h)) := by
  have tl : ∀ t : Int32, t = 1 ∨ t = 2 → tClose A c j l = t → xV D N0 mM_close (d + 3) 37 (xargs 2 [.ref m, .int c]) [.int t, .ref m] (hm m A h) (xTw (tClose A c j l) (.returned none) (hm m (mF A 0 (tClose A c j l)) h) (.returned none) (hm m (mclose A j l f s) h)) := by
    intro t ht hT
    have h0 : t ≠ 0 := by rcases ht with rfl | rfl <;> decide
    refine xV.mput rfl rfl rfl (Nat.le_of_ble_eq_true rfl) ?_
    repeat' refine xV.step rfl ?_
    refine xV.mget (v := .int t) rfl rfl ?_
    refine xV.br rfl (fun h2 => absurd h2 h0) (fun h2 => ?_)
    exact xV.vret rfl rfl (Or.inl ⟨by rw [hT]; exact h0, rfl, by rw [hT]⟩)
  repeat' refine xV.step rfl ?_
  refine xV.cM rfl rfl g_mM_close_196 mM_isChannel_ok (Nat.le_of_ble_eq_true rfl) (Nat.le_of_ble_eq_true rfl) c_M_isChannel' ?_
  refine xV.br rfl (fun h1 => ?_) (fun h1 => ?_)
  · refine xV.step rfl ?_
    refine xV.step rfl ?_
    exact tl 1 (Or.inl rfl) (by unfold tClose; rw [if_neg (by rw [xB_f h1]; decide)])
  obtain ⟨rfl, hj, hl, hl2, hf, hf2, hs, hs2⟩ := hc (xB_t h1)
  have two : (A.2.1 8 j ≠ 0 ∨ mnow A j l ≠ 0) → xV D N0 mM_close (d + 3) 32 (xargs 2 [.ref m, .int (nI j)]) [.ref m] (hm m A h) (xTw (tClose A (nI j) j l) (.returned none) (hm m (mF A 0 (tClose A (nI j) j l)) h) (.returned none) (hm m (mclose A j l f s) h)) := fun hz => by
    refine xV.step rfl ?_
    refine xV.step rfl ?_
    exact tl 2 (Or.inr rfl) (by unfold tClose; rw [if_pos (xB_t h1), if_pos hz])
  repeat' first
    | refine xV.step rfl ?_
    | refine xV.mget rfl rfl ?_
    | refine xV.mi rfl rfl rfl hj ?_
  refine xV.br rfl (fun h2 => ?_) (fun h2 => two (Or.inl h2))
  repeat' refine xV.step rfl ?_
  refine xV.cM rfl rfl g_mM_close_182 mM_now_ok (Nat.le_of_ble_eq_true rfl) (Nat.le_of_ble_eq_true rfl) (c_M_now hj hl hl2) ?_
  repeat' refine xV.step rfl ?_
  refine xV.br rfl (fun h3 => ?_) (fun h3 => two (Or.inr (fun z => h3 ((lg_cmp_eq0 _ _).mpr z))))
  have hT : tClose A (nI j) j l = 0 := by
    unfold tClose
    rw [if_pos (xB_t h1), if_neg]
    rintro (z | z)
    · exact z h2
    · exact z ((lg_cmp_eq0 _ _).mp h3)
  refine xV.step rfl ?_
  refine xV.mput rfl rfl rfl (Nat.le_of_ble_eq_true rfl) ?_
  repeat' refine xV.step rfl ?_
  refine xV.mget (v := .int 0) rfl rfl ?_
  refine xV.br rfl (fun h6 => ?_) (fun h6 => absurd rfl h6)
  repeat' first
    | refine xV.step rfl ?_
    | refine xV.mget rfl rfl ?_
    | refine xV.mi (j := j) rfl rfl rfl hj ?_
  rw [show (mF A 0 0).2.1 6 j = nI f from hf]
  repeat' first
    | refine xV.step rfl ?_
    | refine xV.mget rfl rfl ?_
    | refine xV.mi (j := f) rfl rfl rfl hf2 ?_
  refine xV.cM rfl rfl g_mM_close_208 mM_balance_ok (Nat.le_of_ble_eq_true rfl) (Nat.le_of_ble_eq_true rfl) (c_M_balance (A := mF A 0 0) (s := 0) hj hl hl2 (by omega)) ?_
  repeat' first
    | refine xV.step rfl ?_
    | refine xV.si (j := f) rfl rfl rfl rfl hf2 ?_
    | refine xV.mget rfl rfl ?_
    | refine xV.mi (j := j) rfl rfl rfl hj ?_
  rw [show (mI (mF A 0 0) 1 f ((mF A 0 0).2.1 1 f + (mF A 0 0).2.1 10 (2 * (64 * j + l) + 0))).2.1 7 j = nI s from hs]
  repeat' first
    | refine xV.step rfl ?_
    | refine xV.mget rfl rfl ?_
    | refine xV.mi (j := s) rfl rfl rfl hs2 ?_
  refine xV.cM rfl rfl g_mM_close_208 mM_balance_ok (Nat.le_of_ble_eq_true rfl) (Nat.le_of_ble_eq_true rfl) (c_M_balance (A := mI (mF A 0 0) 1 f ((mF A 0 0).2.1 1 f + (mF A 0 0).2.1 10 (2 * (64 * j + l) + 0))) (s := 1) hj hl hl2 (by omega)) ?_
  repeat' first
    | refine xV.step rfl ?_
    | refine xV.si (j := s) rfl rfl rfl rfl hs2 ?_
  refine xV.cM rfl rfl g_mM_close_229 mM_shut_ok (Nat.le_of_ble_eq_true rfl) (Nat.le_of_ble_eq_true rfl) (c_M_shut hj) ?_
  exact xV.vret rfl rfl (Or.inr ⟨hT, rfl, rfl⟩)
theorem c_M_drop {j l q : Nat} {c k : Int32} (hc : isc A c = true → c = nI j ∧ j < 8 ∧ A.2.1 9 j = nI l ∧ l < 64) (hq : mbit (mnow A j l) k = true → k = nI q ∧ q < 64) :
    xV D N0 mM_drop (d + 3) 0 (xargs 4 [.ref m, .int c, .int k]) [] (hm m A h) (xTw (tDrop A c k j l) (.returned (some (.int 0))) (hm m (mF A 0 (tDrop A c k j l)) h) (.returned (some (.int (nI (l + 1))))) (hm m (mdrop (mF A 0 0) j l q) h)) := by
  have tl : ∀ t x : Int32, t = 1 ∨ t = 2 → tDrop A c k j l = t → xV D N0 mM_drop (d + 3) 57 [some (.ref m), some (.int c), some (.int k), some (.int x)] [.int t, .ref m] (hm m A h) (xTw (tDrop A c k j l) (.returned (some (.int 0))) (hm m (mF A 0 (tDrop A c k j l)) h) (.returned (some (.int (nI (l + 1))))) (hm m (mdrop (mF A 0 0) j l q) h)) := by
    intro t x ht hT
    have h0 : t ≠ 0 ∧ ¬ t ≤ 0 := by rcases ht with rfl | rfl <;> exact ⟨by decide, by decide⟩
    refine xV.mput rfl rfl rfl (Nat.le_of_ble_eq_true rfl) ?_
    repeat' refine xV.step rfl ?_
    refine xV.mget (v := .int t) rfl rfl ?_
    refine xV.br rfl (fun h2 => absurd h2 h0.2) (fun h2 => ?_)
    repeat' refine xV.step rfl ?_
    exact xV.iret rfl rfl rfl (Or.inl ⟨by rw [hT]; exact h0.1, rfl, by rw [hT]⟩)
  have no : ¬ (isc A c = true ∧ mbit (mnow A j l) k = true) → xV D N0 mM_drop (d + 3) 24 (xargs 4 [.ref m, .int c, .int k]) [] (hm m A h) (xTw (tDrop A c k j l) (.returned (some (.int 0))) (hm m (mF A 0 (tDrop A c k j l)) h) (.returned (some (.int (nI (l + 1))))) (hm m (mdrop (mF A 0 0) j l q) h)) := fun hz => by
    repeat' refine xV.step rfl ?_
    refine xV.br rfl (fun h2 => ?_) (fun h2 => absurd rfl h2)
    refine xV.step rfl ?_
    refine xV.step rfl ?_
    exact tl 1 0 (Or.inl rfl) (by unfold tDrop; rw [if_neg hz])
  repeat' refine xV.step rfl ?_
  refine xV.cM rfl rfl g_mM_drop_196 mM_isChannel_ok (Nat.le_of_ble_eq_true rfl) (Nat.le_of_ble_eq_true rfl) c_M_isChannel' ?_
  refine xV.br rfl (fun h1 => no (fun z => by rw [xB_f h1] at z; cases z.1)) (fun h1 => ?_)
  obtain ⟨rfl, hj, hl, hl2⟩ := hc (xB_t h1)
  repeat' refine xV.step rfl ?_
  refine xV.cM rfl rfl g_mM_drop_182 mM_now_ok (Nat.le_of_ble_eq_true rfl) (Nat.le_of_ble_eq_true rfl) (c_M_now hj hl hl2) ?_
  repeat' refine xV.step rfl ?_
  refine xV.cS rfl rfl g_mM_drop_218 mM_hasBit_ok (Nat.le_of_ble_eq_true rfl) (Nat.le_of_ble_eq_true rfl) c_M_hasBit ?_
  refine xV.br rfl (fun h2 => no (fun z => by rw [show mbit (mnow A j l) k = false from xB_f h2] at z; cases z.2)) (fun h2 => ?_)
  have hb : mbit (mnow A j l) k = true := xB_t h2
  obtain ⟨rfl, hq2⟩ := hq hb
  repeat' refine xV.step rfl ?_
  refine xV.br rfl (fun h3 => absurd h3 (by decide)) (fun h3 => ?_)
  have two : (A.2.1 8 j ≠ 0 ∨ ¬ A.2.1 9 j + 1 < 64) → xV D N0 mM_drop (d + 3) 52 [some (.ref m), some (.int (nI j)), some (.int (nI q)), some (.int 1)] [.ref m] (hm m A h) (xTw (tDrop A (nI j) (nI q) j l) (.returned (some (.int 0))) (hm m (mF A 0 (tDrop A (nI j) (nI q) j l)) h) (.returned (some (.int (nI (l + 1))))) (hm m (mdrop (mF A 0 0) j l q) h)) := fun hz => by
    refine xV.step rfl ?_
    refine xV.step rfl ?_
    exact tl 2 1 (Or.inr rfl) (by unfold tDrop; rw [if_pos ⟨xB_t h1, hb⟩, if_pos hz])
  repeat' first
    | refine xV.step rfl ?_
    | refine xV.mget rfl rfl ?_
    | refine xV.mi (j := j) rfl rfl rfl hj ?_
  refine xV.br rfl (fun h4 => ?_) (fun h4 => two (Or.inl h4))
  repeat' refine xV.step rfl ?_
  refine xV.cM rfl rfl g_mM_drop_205 mM_hasState_ok (Nat.le_of_ble_eq_true rfl) (Nat.le_of_ble_eq_true rfl) (c_M_hasState hj) ?_
  refine xV.br rfl (fun h5 => two (Or.inr (of_decide_eq_false (xB_f h5)))) (fun h5 => ?_)
  have h6 := of_decide_eq_true (xB_t h5)
  have hT : tDrop A (nI j) (nI q) j l = 0 := by
    unfold tDrop
    rw [if_pos ⟨xB_t h1, hb⟩, if_neg]
    rintro (z | z)
    · exact z h4
    · exact z h6
  have hl3 : l < 63 := lat_lt hl2 (by rw [← hl]; exact h6)
  refine xV.step rfl ?_
  refine xV.mput rfl rfl rfl (Nat.le_of_ble_eq_true rfl) ?_
  repeat' refine xV.step rfl ?_
  refine xV.mget (v := .int 0) rfl rfl ?_
  refine xV.br rfl (fun h6 => ?_) (fun h6 => absurd (by decide) h6)
  repeat' refine xV.step rfl ?_
  refine xV.cM rfl rfl g_mM_drop_226 mM_dropPromise_ok (Nat.le_of_ble_eq_true rfl) (Nat.le_of_ble_eq_true rfl) (c_M_dropPromise (A := mF A 0 0) hj hl hl3 hq2) ?_
  repeat' first
    | refine xV.step rfl ?_
    | refine xV.mget rfl rfl ?_
    | refine xV.mi (j := j) rfl rfl rfl hj ?_
  refine xV.iret rfl rfl rfl (Or.inr ⟨hT, ?_, rfl⟩)
  show Outcome.returned (some (.int (upd (A.2.1 9) j (nI (l + 1)) j))) = _
  simp [upd]
end X25
end
section
/- Part 26: the model: promise, keep, publish, punish. -/
def tKeep (A : MS) (c k : Int32) (s : Int64) (j l q K : Nat) : Int32 := if isc A c = true ∧ mbit (mnow A j l) k = true then (if A.2.2 16 (64 * j + q) ≠ lk s then 2 else if A.2.1 8 j ≠ 0 ∨ A.2.1 17 (64 * j + q) ≤ A.1 6 ∨ ¬ A.2.1 9 j + 1 < 64 ∨ mhas A K (lk s) = false then 3 else 0) else 1
def mK (A : MS) (K : Nat) (k : Int64) : Nat := match mfind (A.2.2 23) k K with
  | some _ => K
  | none => K + 1
def mkeep2 (A : MS) (j l q K : Nat) (s : Int64) : MS :=
  let A2 := mkeep (mF A 0 0) j l q K
  mlearn A2 (mK A K (lk s)) (lk s) ((1 : Int32) <<< (mnode A j (1 - A.2.1 14 (64 * j + q)) &&& 31))
def tPub (A : MS) (c n s : Int32) (j : Nat) : Int32 := if isc A c = true ∧ mside A j n ≠ -1 ∧ (0 ≤ s ∧ s ≤ A.2.1 9 j) then (if A.2.1 8 j ≠ 0 then 2 else 0) else 1
def mpub (A : MS) (j q : Nat) (n : Int32) : MS := mJ (mI (mI (mI (mI (mF A 0 0) 8 j 1) 18 j (nI q)) 19 j n) 20 j (A.1 6)) 21 j (A.2.2 11 (64 * j + q))
def tPun (A : MS) (c : Int32) (j : Nat) : Int32 := if isc A c = true then (if mmay A j = true then 0 else 2) else 1
theorem mlearn_K {A : MS} {K : Nat} {k : Int64} {w : Int32} (hK : A.1 25 = nI K) : (mlearn A K k w).1 25 = nI (mK A K k) := by
  unfold mlearn mK
  cases hf : mfind (A.2.2 23) k K with
  | none => exact xn_succ K
  | some j => exact hK
theorem mfind_learn {A : MS} {K : Nat} {k : Int64} {w : Int32} : (mfind ((mlearn A K k w).2.2 23) k (mK A K k)).isSome = true := by
  unfold mlearn mK
  cases hf : mfind (A.2.2 23) k K with
  | none =>
    show (if vp_updL (A.2.2 23) K k K = k then some K else mfind (vp_updL (A.2.2 23) K k) k K).isSome = true
    rw [if_pos (by simp [vp_updL])]
    rfl
  | some j =>
    show (mfind (A.2.2 23) k K).isSome = true
    rw [hf]; rfl
section X26
variable {D : va_G} {N0 : Nat} {d m : Nat} {h : XH} {A : MS}
theorem mK_le {K : Nat} {k : Int64} (hK : K ≤ 24) (hr : mhas A K k = true) : mK A K k ≤ 24 := by
  unfold mK
  unfold mhas at hr
  cases hf : mfind (A.2.2 23) k K with
  | none => rw [hf] at hr; simp at hr; show K + 1 ≤ 24; omega
  | some j => exact hK
theorem c_M_promise {j l k : Nat} {c n a e : Int32} {lock : Int64} (hc : isc A c = true → c = nI j ∧ j < 8 ∧ A.2.1 9 j = nI l ∧ l < 64 ∧ A.2.1 13 j = nI k ∧ k < 64) :
    xV D N0 mM_promise (d + 4) 0 (xargs 8 [.ref m, .int c, .int n, .int a, .long lock, .int e]) [] (hm m A h) (xTw (tProm A c n a e j l) (.returned (some (.int 0))) (hm m (mF A 0 (tProm A c n a e j l)) h) (.returned (some (.int (nI k)))) (hm m (madd (mF A 0 0) j l k (mside A j n) a lock e) h)) := by
  have tl : ∀ t x : Int32, t = 1 ∨ t = 2 ∨ t = 3 → tProm A c n a e j l = t → xV D N0 mM_promise (d + 4) 95 [some (.ref m), some (.int c), some (.int n), some (.int a), some (.long lock), none, some (.int e), some (.int x)] [.int t, .ref m] (hm m A h) (xTw (tProm A c n a e j l) (.returned (some (.int 0))) (hm m (mF A 0 (tProm A c n a e j l)) h) (.returned (some (.int (nI k)))) (hm m (madd (mF A 0 0) j l k (mside A j n) a lock e) h)) := by
    intro t x ht hT
    have h0 : t ≠ 0 ∧ ¬ t ≤ 0 := by rcases ht with rfl | rfl | rfl <;> exact ⟨by decide, by decide⟩
    refine xV.mput rfl rfl rfl (Nat.le_of_ble_eq_true rfl) ?_
    repeat' refine xV.step rfl ?_
    refine xV.mget (v := .int t) rfl rfl ?_
    refine xV.br rfl (fun h2 => absurd h2 h0.2) (fun h2 => ?_)
    repeat' refine xV.step rfl ?_
    exact xV.iret rfl rfl rfl (Or.inl ⟨by rw [hT]; exact h0.1, rfl, by rw [hT]⟩)
  repeat' refine xV.step rfl ?_
  refine xV.cM rfl rfl g_mM_promise_196 mM_isChannel_ok (Nat.le_of_ble_eq_true rfl) (Nat.le_of_ble_eq_true rfl) c_M_isChannel' ?_
  refine xV.br rfl (fun h1 => ?_) (fun h1 => ?_)
  · repeat' refine xV.step rfl ?_
    refine xV.br rfl (fun h2 => ?_) (fun h2 => absurd rfl h2)
    refine xV.step rfl ?_
    refine xV.step rfl ?_
    exact tl 1 (-1) (Or.inl rfl) (by unfold tProm; rw [if_neg (fun z => by rw [xB_f h1] at z; cases z.1)])
  obtain ⟨rfl, hj, hl, hl2, hk, hk2⟩ := hc (xB_t h1)
  repeat' refine xV.step rfl ?_
  refine xV.cM rfl rfl g_mM_promise_199 mM_sideOf_ok (Nat.le_of_ble_eq_true rfl) (Nat.le_of_ble_eq_true rfl) (c_M_sideOf hj) ?_
  repeat' refine xV.step rfl ?_
  refine xV.br rfl (fun h2 => ?_) (fun h2 => ?_)
  · refine xV.step rfl ?_
    refine xV.step rfl ?_
    exact tl 1 _ (Or.inl rfl) (by unfold tProm; rw [if_neg (fun z => z.2 h2)])
  have hthere : isc A (nI j) = true ∧ mside A j n ≠ -1 := ⟨xB_t h1, h2⟩
  have hsd := mside_nat h2
  have hs2 := msd_lt A j n
  repeat' refine xV.step rfl ?_
  refine xV.br rfl (fun h3 => ?_) (fun h3 => ?_)
  case refine_2 =>
    refine xV.step rfl ?_
    refine xV.step rfl ?_
    exact tl 2 _ (Or.inr (Or.inl rfl)) (by unfold tProm; rw [if_pos hthere, if_pos (by simp only [Int32.lt_iff_toInt_lt, Int32.le_iff_toInt_le] at *; omega)])
  have h3' : ¬ a < 1 := by simp only [Int32.lt_iff_toInt_lt, Int32.le_iff_toInt_le] at *; omega
  have thr : (A.2.1 8 j ≠ 0 ∨ bitsN (mnow A j l) 64 = 6 ∨ ¬ A.2.1 9 j + 1 < 64 ∨ A.2.1 10 (2 * (64 * j + l) + msd A j n) < a ∨ e ≤ A.1 6) → xV D N0 mM_promise (d + 4) 90 [some (.ref m), some (.int (nI j)), some (.int n), some (.int a), some (.long lock), none, some (.int e), some (.int (mside A j n))] [.ref m] (hm m A h) (xTw (tProm A (nI j) n a e j l) (.returned (some (.int 0))) (hm m (mF A 0 (tProm A (nI j) n a e j l)) h) (.returned (some (.int (nI k)))) (hm m (madd (mF A 0 0) j l k (mside A j n) a lock e) h)) := fun hz => by
    refine xV.step rfl ?_
    refine xV.step rfl ?_
    exact tl 3 _ (Or.inr (Or.inr rfl)) (by unfold tProm; rw [if_pos hthere, if_neg h3', if_pos hz])
  repeat' first
    | refine xV.step rfl ?_
    | refine xV.mget rfl rfl ?_
    | refine xV.mi (j := j) rfl rfl rfl hj ?_
  refine xV.br rfl (fun h4 => ?_) (fun h4 => thr (Or.inl h4))
  repeat' refine xV.step rfl ?_
  refine xV.cM rfl rfl g_mM_promise_182 mM_now_ok (Nat.le_of_ble_eq_true rfl) (Nat.le_of_ble_eq_true rfl) (c_M_now hj hl hl2) ?_
  refine xV.cS rfl rfl g_mM_promise_202 mM_bits_ok (Nat.le_of_ble_eq_true rfl) (Nat.le_of_ble_eq_true rfl) c_M_bits ?_
  repeat' refine xV.step rfl ?_
  refine xV.br rfl (fun h5 => thr (Or.inr (Or.inl h5))) (fun h5 => ?_)
  repeat' refine xV.step rfl ?_
  refine xV.cM rfl rfl g_mM_promise_205 mM_hasState_ok (Nat.le_of_ble_eq_true rfl) (Nat.le_of_ble_eq_true rfl) (c_M_hasState hj) ?_
  refine xV.br rfl (fun h6 => thr (Or.inr (Or.inr (Or.inl (of_decide_eq_false (xB_f h6)))))) (fun h6 => ?_)
  have h6' := of_decide_eq_true (xB_t h6)
  repeat' refine xV.step rfl ?_
  rw [hsd] at thr ⊢
  refine xV.cM rfl rfl g_mM_promise_208 mM_balance_ok (Nat.le_of_ble_eq_true rfl) (Nat.le_of_ble_eq_true rfl) (c_M_balance hj hl hl2 hs2) ?_
  repeat' refine xV.step rfl ?_
  refine xV.br rfl (fun h7 => thr (Or.inr (Or.inr (Or.inr (Or.inl h7))))) (fun h7 => ?_)
  repeat' first
    | refine xV.step rfl ?_
    | refine xV.mget rfl rfl ?_
  refine xV.br rfl (fun h8 => ?_) (fun h8 => thr (Or.inr (Or.inr (Or.inr (Or.inr (by simp only [Int32.lt_iff_toInt_lt, Int32.le_iff_toInt_le] at *; omega))))))
  have hT : tProm A (nI j) n a e j l = 0 := by
    unfold tProm
    rw [if_pos hthere, if_neg h3', if_neg]
    rintro (z | z | z | z | z)
    · exact z h4
    · exact h5 z
    · exact z h6'
    · exact h7 z
    · simp only [Int32.lt_iff_toInt_lt, Int32.le_iff_toInt_le] at *; omega
  have hl3 : l < 63 := lat_lt hl2 (by rw [← hl]; exact h6')
  refine xV.step rfl ?_
  refine xV.mput rfl rfl rfl (Nat.le_of_ble_eq_true rfl) ?_
  repeat' refine xV.step rfl ?_
  refine xV.mget (v := .int 0) rfl rfl ?_
  refine xV.br rfl (fun h9 => ?_) (fun h9 => absurd (by decide) h9)
  repeat' refine xV.step rfl ?_
  refine xV.cM rfl rfl g_mM_promise_214 mM_addPromise_ok (Nat.le_of_ble_eq_true rfl) (Nat.le_of_ble_eq_true rfl) (c_M_addPromise (A := mF A 0 0) hj hl hl3 hk hk2) ?_
  exact xV.iret rfl rfl rfl (Or.inr ⟨hT, rfl, rfl⟩)
theorem c_M_publish {j q : Nat} {c n s : Int32} (hc : isc A c = true → c = nI j ∧ j < 8) (hq : 0 ≤ s ∧ s ≤ A.2.1 9 j → s = nI q ∧ q < 64) :
    xV D N0 mM_publish (d + 3) 0 (xargs 5 [.ref m, .int c, .int n, .int s]) [] (hm m A h) (xTw (tPub A c n s j) (.returned none) (hm m (mF A 0 (tPub A c n s j)) h) (.returned none) (hm m (mpub A j q n) h)) := by
  have tl : ∀ t x : Int32, t = 1 ∨ t = 2 → tPub A c n s j = t → xV D N0 mM_publish (d + 3) 63 [some (.ref m), some (.int c), some (.int n), some (.int s), some (.int x)] [.int t, .ref m] (hm m A h) (xTw (tPub A c n s j) (.returned none) (hm m (mF A 0 (tPub A c n s j)) h) (.returned none) (hm m (mpub A j q n) h)) := by
    intro t x ht hT
    have h0 : t ≠ 0 := by rcases ht with rfl | rfl <;> decide
    refine xV.mput rfl rfl rfl (Nat.le_of_ble_eq_true rfl) ?_
    repeat' refine xV.step rfl ?_
    refine xV.mget (v := .int t) rfl rfl ?_
    refine xV.br rfl (fun h2 => absurd h2 h0) (fun h2 => ?_)
    exact xV.vret rfl rfl (Or.inl ⟨by rw [hT]; exact h0, rfl, by rw [hT]⟩)
  have no : ¬ (isc A c = true ∧ mside A j n ≠ -1 ∧ (0 ≤ s ∧ s ≤ A.2.1 9 j)) → xV D N0 mM_publish (d + 3) 36 (xargs 5 [.ref m, .int c, .int n, .int s]) [] (hm m A h) (xTw (tPub A c n s j) (.returned none) (hm m (mF A 0 (tPub A c n s j)) h) (.returned none) (hm m (mpub A j q n) h)) := fun hz => by
    repeat' refine xV.step rfl ?_
    refine xV.br rfl (fun h2 => ?_) (fun h2 => absurd rfl h2)
    refine xV.step rfl ?_
    refine xV.step rfl ?_
    exact tl 1 0 (Or.inl rfl) (by unfold tPub; rw [if_neg hz])
  repeat' refine xV.step rfl ?_
  refine xV.cM rfl rfl g_mM_publish_196 mM_isChannel_ok (Nat.le_of_ble_eq_true rfl) (Nat.le_of_ble_eq_true rfl) c_M_isChannel' ?_
  refine xV.br rfl (fun h1 => no (fun z => by rw [xB_f h1] at z; cases z.1)) (fun h1 => ?_)
  obtain ⟨rfl, hj⟩ := hc (xB_t h1)
  repeat' refine xV.step rfl ?_
  refine xV.cM rfl rfl g_mM_publish_199 mM_sideOf_ok (Nat.le_of_ble_eq_true rfl) (Nat.le_of_ble_eq_true rfl) (c_M_sideOf hj) ?_
  repeat' refine xV.step rfl ?_
  refine xV.br rfl (fun h2 => no (fun z => z.2.1 h2)) (fun h2 => ?_)
  repeat' first
    | refine xV.step rfl ?_
    | refine xV.mget rfl rfl ?_
    | refine xV.mi (j := j) rfl rfl rfl hj ?_
  refine xV.cS rfl rfl g_mM_publish_140 mM_isIn_ok (Nat.le_of_ble_eq_true rfl) (Nat.le_of_ble_eq_true rfl) c_M_isIn ?_
  refine xV.br rfl (fun h3 => no (fun z => of_decide_eq_false (xB_f h3) z.2.2)) (fun h3 => ?_)
  have hs3 := of_decide_eq_true (xB_t h3)
  obtain ⟨rfl, hq2⟩ := hq hs3
  repeat' refine xV.step rfl ?_
  refine xV.br rfl (fun h4 => absurd h4 (by decide)) (fun h4 => ?_)
  repeat' first
    | refine xV.step rfl ?_
    | refine xV.mget rfl rfl ?_
    | refine xV.mi (j := j) rfl rfl rfl hj ?_
  refine xV.br rfl (fun h5 => ?_) (fun h5 => ?_)
  · have hT : tPub A (nI j) n (nI q) j = 0 := by unfold tPub; rw [if_pos ⟨xB_t h1, h2, hs3⟩, if_neg (fun z => z h5)]
    refine xV.step rfl ?_
    refine xV.mput rfl rfl rfl (Nat.le_of_ble_eq_true rfl) ?_
    repeat' refine xV.step rfl ?_
    refine xV.mget (v := .int 0) rfl rfl ?_
    refine xV.br rfl (fun h9 => ?_) (fun h9 => absurd rfl h9)
    repeat' first
      | refine xV.step rfl ?_
      | refine xV.mget rfl rfl ?_
      | refine xV.si (j := j) rfl rfl rfl rfl hj ?_
      | refine xV.mj' (n := 512) (j := 64 * j + q) rfl rfl rfl (xn_ix j q) (by omega) ?_
      | refine xV.sj (j := j) rfl rfl rfl rfl hj ?_
    exact xV.vret rfl rfl (Or.inr ⟨hT, rfl, rfl⟩)
  · refine xV.step rfl ?_
    refine xV.step rfl ?_
    exact tl 2 1 (Or.inr rfl) (by unfold tPub; rw [if_pos ⟨xB_t h1, h2, hs3⟩, if_pos h5])
theorem moth_pun {j o : Nat} : moth (mpun A j o) j = moth A j := rfl
theorem c_M_punish {j o : Nat} {c : Int32} (hc : isc A c = true → c = nI j ∧ j < 8) (ho : isc A c = true → mmay A j = true → moth A j = nI o ∧ o < 6) :
    xV D N0 mM_punish (d + 4) 0 (xargs 2 [.ref m, .int c]) [] (hm m A h) (xTw (tPun A c j) (.returned (some (.int 0))) (hm m (mF A 0 (tPun A c j)) h) (.returned (some (.int ((mpun (mF A 0 0) j o).2.1 1 o)))) (hm m (mpun (mF A 0 0) j o) h)) := by
  have tl : ∀ t : Int32, t = 1 ∨ t = 2 → tPun A c j = t → xV D N0 mM_punish (d + 4) 26 (xargs 2 [.ref m, .int c]) [.int t, .ref m] (hm m A h) (xTw (tPun A c j) (.returned (some (.int 0))) (hm m (mF A 0 (tPun A c j)) h) (.returned (some (.int ((mpun (mF A 0 0) j o).2.1 1 o)))) (hm m (mpun (mF A 0 0) j o) h)) := by
    intro t ht hT
    have h0 : t ≠ 0 ∧ ¬ t ≤ 0 := by rcases ht with rfl | rfl <;> exact ⟨by decide, by decide⟩
    refine xV.mput rfl rfl rfl (Nat.le_of_ble_eq_true rfl) ?_
    repeat' refine xV.step rfl ?_
    refine xV.mget (v := .int t) rfl rfl ?_
    refine xV.br rfl (fun h2 => absurd h2 h0.2) (fun h2 => ?_)
    repeat' refine xV.step rfl ?_
    exact xV.iret rfl rfl rfl (Or.inl ⟨by rw [hT]; exact h0.1, rfl, by rw [hT]⟩)
  repeat' refine xV.step rfl ?_
  refine xV.cM rfl rfl g_mM_punish_196 mM_isChannel_ok (Nat.le_of_ble_eq_true rfl) (Nat.le_of_ble_eq_true rfl) c_M_isChannel' ?_
  refine xV.br rfl (fun h1 => ?_) (fun h1 => ?_)
  · refine xV.step rfl ?_
    refine xV.step rfl ?_
    exact tl 1 (Or.inl rfl) (by unfold tPun; rw [if_neg (by rw [xB_f h1]; decide)])
  obtain ⟨rfl, hj⟩ := hc (xB_t h1)
  repeat' refine xV.step rfl ?_
  refine xV.cM rfl rfl g_mM_punish_273 mM_mayPunish_ok (Nat.le_of_ble_eq_true rfl) (Nat.le_of_ble_eq_true rfl) (c_M_mayPunish hj) ?_
  refine xV.br rfl (fun h2 => ?_) (fun h2 => ?_)
  · refine xV.step rfl ?_
    refine xV.step rfl ?_
    exact tl 2 (Or.inr rfl) (by unfold tPun; rw [if_pos (xB_t h1), if_neg (by rw [xB_f h2]; decide)])
  have hT : tPun A (nI j) j = 0 := by unfold tPun; rw [if_pos (xB_t h1), if_pos (xB_t h2)]
  obtain ⟨ho1, ho2⟩ := ho (xB_t h1) (xB_t h2)
  refine xV.step rfl ?_
  refine xV.mput rfl rfl rfl (Nat.le_of_ble_eq_true rfl) ?_
  repeat' refine xV.step rfl ?_
  refine xV.mget (v := .int 0) rfl rfl ?_
  refine xV.br rfl (fun h9 => ?_) (fun h9 => absurd (by decide) h9)
  repeat' refine xV.step rfl ?_
  refine xV.cM rfl rfl g_mM_punish_276 mM_punished_ok (Nat.le_of_ble_eq_true rfl) (Nat.le_of_ble_eq_true rfl) (c_M_punished (A := mF A 0 0) hj ho1 ho2) ?_
  repeat' first
    | refine xV.step rfl ?_
    | refine xV.mget rfl rfl ?_
  refine xV.cM rfl rfl g_mM_punish_270 mM_other_ok (Nat.le_of_ble_eq_true rfl) (Nat.le_of_ble_eq_true rfl) (c_M_other hj) ?_
  rw [show moth (mpun (mF A 0 0) j o) j = nI o from ho1]
  refine xV.mi (j := o) rfl rfl rfl ho2 ?_
  exact xV.iret rfl rfl rfl (Or.inr ⟨hT, rfl, rfl⟩)
end X26
end
section
/- Part 27: the model: keep, claim, takeBack. -/
def mleft (A : MS) (c k : Int32) (j : Nat) : Bool := isc A c && (if A.2.1 18 j = -1 then decide (0 ≤ k ∧ k ≤ A.2.1 13 j - 1) else mbit (A.2.2 21 j) k)
def mgo (A : MS) (j q o : Nat) : MS :=
  let A1 := mJ A 21 j (A.2.2 21 j &&& (bk (nI q) ^^^ (-1)))
  let A2 := mI A1 1 o (A1.2.1 1 o + A1.2.1 15 (64 * j + q))
  let A3 := mI A2 12 j (A2.2.1 12 j - A2.2.1 15 (64 * j + q))
  if A3.2.1 22 j ≠ 0 ∧ A3.2.2 21 j = 0 then mI (mI A3 8 j 2) 12 j 0 else A3
def tClaim (A : MS) (c k : Int32) (s : Int64) (j q K : Nat) : Int32 := if mleft A c k j = true then (if A.2.2 16 (64 * j + q) ≠ lk s then 2 else if A.2.1 8 j ≠ 1 ∨ mmay A j = true ∨ A.2.1 17 (64 * j + q) ≤ A.1 6 ∨ mhas A K (lk s) = false then 3 else 0) else 1
def tTake (A : MS) (c k : Int32) (j q : Nat) : Int32 := if mleft A c k j = true then (if A.2.1 8 j ≠ 1 ∨ mmay A j = true ∨ ¬ A.2.1 17 (64 * j + q) ≤ A.1 6 then 2 else 0) else 1
section X27
variable {D : va_G} {N0 : Nat} {d m : Nat} {h : XH} {A : MS}
theorem c_M_isLeft {j : Nat} {c k : Int32} (hc : isc A c = true → c = nI j ∧ j < 8) : xV D N0 mM_isLeft (d + 2) 0 (xargs 3 [.ref m, .int c, .int k]) [] (hm m A h) (xEq (.returned (some (.int (xB (mleft A c k j))))) (hm m A h)) := by
  repeat' refine xV.step rfl ?_
  refine xV.cM rfl rfl g_mM_isLeft_196 mM_isChannel_ok (Nat.le_of_ble_eq_true rfl) (Nat.le_of_ble_eq_true rfl) c_M_isChannel' ?_
  refine xV.br rfl (fun h1 => ?_) (fun h1 => ?_)
  · repeat' refine xV.step rfl ?_
    refine xV.iret rfl rfl rfl ⟨?_, rfl⟩
    unfold mleft
    rw [xB_f h1]; rfl
  have hcc := hc (xB_t h1)
  have hj := hcc.2
  have e := hcc.1
  have hL : mleft A c k j = (if A.2.1 18 j = -1 then decide (0 ≤ k ∧ k ≤ A.2.1 13 j - 1) else mbit (A.2.2 21 j) k) := by
    unfold mleft; rw [xB_t h1]; rfl
  rw [hL]
  clear hL hc hcc
  subst e
  repeat' first
    | refine xV.step rfl ?_
    | refine xV.mget rfl rfl ?_
    | refine xV.mi (j := j) rfl rfl rfl hj ?_
  refine xV.br rfl (fun h2 => ?_) (fun h2 => ?_)
  · rw [if_pos h2]
    repeat' first
      | refine xV.step rfl ?_
      | refine xV.mget rfl rfl ?_
      | refine xV.mi (j := j) rfl rfl rfl hj ?_
    refine xV.cS rfl rfl g_mM_isLeft_140 mM_isIn_ok (Nat.le_of_ble_eq_true rfl) (Nat.le_of_ble_eq_true rfl) c_M_isIn ?_
    repeat' refine xV.step rfl ?_
    exact xV.iret rfl rfl (xB_nar _) ⟨rfl, rfl⟩
  · rw [if_neg h2]
    repeat' first
      | refine xV.step rfl ?_
      | refine xV.mget rfl rfl ?_
      | refine xV.mj (j := j) rfl rfl rfl hj ?_
    refine xV.cS rfl rfl g_mM_isLeft_218 mM_hasBit_ok (Nat.le_of_ble_eq_true rfl) (Nat.le_of_ble_eq_true rfl) c_M_hasBit ?_
    exact xV.iret rfl rfl (xB_nar _) ⟨rfl, rfl⟩
theorem c_M_goes {j q o : Nat} {s : Int32} (hj : j < 8) (hq : q < 64) (ho : mnode A j s = nI o) (ho2 : o < 6) :
    xV D N0 mM_goes (d + 1) 0 (xargs 6 [.ref m, .int (nI j), .int (nI q), .int s]) [] (hm m A h) (xEq (.returned (some (.int ((mgo A j q o).2.1 1 o)))) (hm m (mgo A j q o) h)) := by
  repeat' refine xV.step rfl ?_
  refine xV.cM rfl rfl g_mM_goes_192 mM_nodeOf_ok (Nat.le_of_ble_eq_true rfl) (Nat.le_of_ble_eq_true rfl) (c_M_nodeOf hj) ?_
  rw [ho]
  repeat' first
    | refine xV.step rfl ?_
    | refine xV.mget rfl rfl ?_
    | refine xV.mj (j := j) rfl rfl rfl hj ?_
    | refine xV.sj (j := j) rfl rfl rfl rfl hj ?_
    | refine xV.mi' (n := 512) (j := 64 * j + q) rfl rfl rfl (xn_ix j q) (by omega) ?_
    | refine xV.mi (j := o) rfl rfl rfl ho2 ?_
    | refine xV.si (j := o) rfl rfl rfl rfl ho2 ?_
    | refine xV.mi (j := j) rfl rfl rfl hj ?_
    | refine xV.si (j := j) rfl rfl rfl rfl hj ?_
    | refine xV.mz (j := j) rfl rfl rfl hj ?_
  have fin : ∀ B : MS, mgo A j q o = B → xV D N0 mM_goes (d + 1) 94 [some (.ref m), some (.int (nI j)), some (.int (nI q)), some (.int s), some (.int (64 * nI j + nI q)), some (.int (nI o))] [] (hm m B h) (xEq (.returned (some (.int ((mgo A j q o).2.1 1 o)))) (hm m (mgo A j q o) h)) := by
    intro B hB
    rw [hB]
    repeat' first
      | refine xV.step rfl ?_
      | refine xV.mget rfl rfl ?_
      | refine xV.mi (j := o) rfl rfl rfl ho2 ?_
    exact xV.iret rfl rfl rfl ⟨rfl, rfl⟩
  refine xV.br rfl (fun h1 => ?_) (fun h1 => ?_)
  · exact fin _ (if_neg (fun z => z.1 h1))
  · repeat' first
      | refine xV.step rfl ?_
      | refine xV.mget rfl rfl ?_
      | refine xV.mj (j := j) rfl rfl rfl hj ?_
    refine xV.br rfl (fun h2 => ?_) (fun h2 => ?_)
    · rw [lg_cmp_eq0] at h2
      repeat' refine xV.step rfl ?_
      refine xV.cM rfl rfl g_mM_goes_229 mM_shut_ok (Nat.le_of_ble_eq_true rfl) (Nat.le_of_ble_eq_true rfl) (c_M_shut hj) ?_
      exact fin _ (if_pos ⟨h1, h2⟩)
    · rw [lg_cmp_eq0] at h2
      exact fin _ (if_neg (fun z => h2 z.2))
theorem c_M_takeBack {j q o : Nat} {c k : Int32} (hc : isc A c = true → c = nI j ∧ j < 8) (hk : mleft A c k j = true → k = nI q ∧ q < 64 ∧ mnode A j (A.2.1 14 (64 * j + q)) = nI o ∧ o < 6) :
    xV D N0 mM_takeBack (d + 3) 0 (xargs 5 [.ref m, .int c, .int k]) [] (hm m A h) (xTw (tTake A c k j q) (.returned (some (.int 0))) (hm m (mF A 0 (tTake A c k j q)) h) (.returned (some (.int ((mgo (mF A 0 0) j q o).2.1 1 o)))) (hm m (mgo (mF A 0 0) j q o) h)) := by
  have tl : ∀ t x y : Int32, t = 1 ∨ t = 2 → tTake A c k j q = t → xV D N0 mM_takeBack (d + 3) 69 [some (.ref m), some (.int c), some (.int k), some (.int x), some (.int y)] [.int t, .ref m] (hm m A h) (xTw (tTake A c k j q) (.returned (some (.int 0))) (hm m (mF A 0 (tTake A c k j q)) h) (.returned (some (.int ((mgo (mF A 0 0) j q o).2.1 1 o)))) (hm m (mgo (mF A 0 0) j q o) h)) := by
    intro t x y ht hT
    have h0 : t ≠ 0 ∧ ¬ t ≤ 0 := by rcases ht with rfl | rfl <;> exact ⟨by decide, by decide⟩
    refine xV.mput rfl rfl rfl (Nat.le_of_ble_eq_true rfl) ?_
    repeat' refine xV.step rfl ?_
    refine xV.mget (v := .int t) rfl rfl ?_
    refine xV.br rfl (fun h2 => absurd h2 h0.2) (fun h2 => ?_)
    repeat' refine xV.step rfl ?_
    exact xV.iret rfl rfl rfl (Or.inl ⟨by rw [hT]; exact h0.1, rfl, by rw [hT]⟩)
  repeat' refine xV.step rfl ?_
  refine xV.cM rfl rfl g_mM_takeBack_279 mM_isLeft_ok (Nat.le_of_ble_eq_true rfl) (Nat.le_of_ble_eq_true rfl) (c_M_isLeft hc) ?_
  repeat' refine xV.step rfl ?_
  cases hlf : mleft A c k j with
  | false =>
    refine xV.br rfl (fun h1 => ?_) (fun h1 => absurd rfl h1)
    repeat' refine xV.step rfl ?_
    refine xV.br rfl (fun h2 => ?_) (fun h2 => absurd rfl h2)
    refine xV.step rfl ?_
    refine xV.step rfl ?_
    exact tl 1 _ _ (Or.inl rfl) (by unfold tTake; rw [if_neg (by rw [hlf]; decide)])
  | true =>
    have hic : isc A c = true := by unfold mleft at hlf; rw [Bool.and_eq_true] at hlf; exact hlf.1
    obtain ⟨rfl, hj⟩ := hc hic
    obtain ⟨rfl, hq2, ho, ho2⟩ := hk hlf
    refine xV.br rfl (fun h1 => absurd h1 (by decide)) (fun h1 => ?_)
    repeat' refine xV.step rfl ?_
    refine xV.br rfl (fun h2 => absurd h2 (by decide)) (fun h2 => ?_)
    have two : (A.2.1 8 j ≠ 1 ∨ mmay A j = true ∨ ¬ A.2.1 17 (64 * j + q) ≤ A.1 6) → xV D N0 mM_takeBack (d + 3) 64 [some (.ref m), some (.int (nI j)), some (.int (nI q)), some (.int (xB true)), some (.int (64 * nI j + nI q))] [.ref m] (hm m A h) (xTw (tTake A (nI j) (nI q) j q) (.returned (some (.int 0))) (hm m (mF A 0 (tTake A (nI j) (nI q) j q)) h) (.returned (some (.int ((mgo (mF A 0 0) j q o).2.1 1 o)))) (hm m (mgo (mF A 0 0) j q o) h)) := fun hz => by
      refine xV.step rfl ?_
      refine xV.step rfl ?_
      exact tl 2 _ _ (Or.inr rfl) (by unfold tTake; rw [if_pos hlf, if_pos hz])
    repeat' first
      | refine xV.step rfl ?_
      | refine xV.mget rfl rfl ?_
      | refine xV.mi (j := j) rfl rfl rfl hj ?_
    refine xV.br rfl (fun h3 => ?_) (fun h3 => two (Or.inl h3))
    repeat' refine xV.step rfl ?_
    refine xV.cM rfl rfl g_mM_takeBack_273 mM_mayPunish_ok (Nat.le_of_ble_eq_true rfl) (Nat.le_of_ble_eq_true rfl) (c_M_mayPunish hj) ?_
    refine xV.br rfl (fun h4 => ?_) (fun h4 => two (Or.inr (Or.inl (xB_t h4))))
    repeat' first
      | refine xV.step rfl ?_
      | refine xV.mget rfl rfl ?_
      | refine xV.mi' (n := 512) (j := 64 * j + q) rfl rfl rfl (xn_ix j q) (by omega) ?_
    refine xV.br rfl (fun h5 => ?_) (fun h5 => two (Or.inr (Or.inr h5)))
    have hT : tTake A (nI j) (nI q) j q = 0 := by
      unfold tTake
      rw [if_pos hlf, if_neg]
      rintro (z | z | z)
      · exact z h3
      · rw [xB_f h4] at z; cases z
      · exact z h5
    refine xV.step rfl ?_
    refine xV.mput rfl rfl rfl (Nat.le_of_ble_eq_true rfl) ?_
    repeat' refine xV.step rfl ?_
    refine xV.mget (v := .int 0) rfl rfl ?_
    refine xV.br rfl (fun h9 => ?_) (fun h9 => absurd (by decide) h9)
    repeat' first
      | refine xV.step rfl ?_
      | refine xV.mget rfl rfl ?_
      | refine xV.mi' (n := 512) (j := 64 * j + q) rfl rfl rfl (xn_ix j q) (by omega) ?_
    refine xV.cM rfl rfl g_mM_takeBack_283 mM_goes_ok (Nat.le_of_ble_eq_true rfl) (Nat.le_of_ble_eq_true rfl) (c_M_goes (A := mF A 0 0) hj hq2 ho ho2) ?_
    exact xV.iret rfl rfl rfl (Or.inr ⟨hT, rfl, rfl⟩)
end X27
end
section
/- Part 28: the model: claim, keep. -/
section X28a
variable {D : va_G} {N0 : Nat} {M : XM} {d pc : Nat} {lv : XL} {st : List Value} {h : XH} {Q : Outcome → XH → Prop}
theorem xV.ald0 {nx a : Nat} (hq : xon M pc = some (.aload_n 0, nx)) (h0 : xnth lv 0 = some (.ref a)) (k : xV D N0 M d nx lv (.ref a :: st) h Q) : xV D N0 M d pc lv st h Q := by
  refine xV.step ?_ k
  unfold xon at hq
  unfold xgo
  cases hl : xlook M.2.2.2.2.2 pc with
  | none => rw [hl] at hq; cases hq
  | some q =>
    obtain ⟨pc', i, len, nx', tg, cv, wi⟩ := q
    rw [hl] at hq
    simp only [Option.some.injEq, Prod.mk.injEq] at hq
    obtain ⟨rfl, rfl⟩ := hq
    have h1 : xnth lv ((0 : Fin 4) : Nat) = some (.ref a) := h0
    simp only [xstep, h1, xLd]
end X28a
section X28
variable {D : va_G} {N0 : Nat} {d m : Nat} {h : XH} {A : MS}
def mclaim (A : MS) (j q o K : Nat) (s : Int64) : MS := mgo (mlearn (mF A 0 0) K (lk s) 63) j q o
theorem mlearn_node {K : Nat} {k : Int64} {w : Int32} {j : Nat} {x : Int32} : mnode (mlearn A K k w) j x = mnode A j x := by
  unfold mlearn
  cases mfind (A.2.2 23) k K <;> rfl
theorem mlearn_pay {K : Nat} {k : Int64} {w : Int32} {i : Nat} : (mlearn A K k w).2.1 14 i = A.2.1 14 i := by
  unfold mlearn
  cases mfind (A.2.2 23) k K <;> rfl
theorem c_M_claim {j q o K : Nat} {c k : Int32} {s : Int64} (hK : A.1 25 = nI K) (hK2 : K ≤ 24) (hc : isc A c = true → c = nI j ∧ j < 8) (hk : mleft A c k j = true → k = nI q ∧ q < 64 ∧ mnode A j (1 - A.2.1 14 (64 * j + q)) = nI o ∧ o < 6) :
    xV D N0 mM_claim (d + 3) 0 (xargs 9 [.ref m, .int c, .int k, .long s]) [] (hm m A h) (xTw (tClaim A c k s j q K) (.returned (some (.int 0))) (hm m (mF A 0 (tClaim A c k s j q K)) h) (.returned (some (.int ((mclaim A j q o K s).2.1 1 o)))) (hm m (mclaim A j q o K s) h)) := by
  have tl : ∀ (t : Int32) (LV : XL), xnth LV 0 = some (.ref m) → t = 1 ∨ t = 2 ∨ t = 3 → tClaim A c k s j q K = t → xV D N0 mM_claim (d + 3) 104 LV [.int t, .ref m] (hm m A h) (xTw (tClaim A c k s j q K) (.returned (some (.int 0))) (hm m (mF A 0 (tClaim A c k s j q K)) h) (.returned (some (.int ((mclaim A j q o K s).2.1 1 o)))) (hm m (mclaim A j q o K s) h)) := by
    intro t LV hLV ht hT
    have h0 : t ≠ 0 ∧ ¬ t ≤ 0 := by rcases ht with rfl | rfl | rfl <;> exact ⟨by decide, by decide⟩
    refine xV.mput rfl rfl rfl (Nat.le_of_ble_eq_true rfl) ?_
    refine xV.ald0 rfl hLV ?_
    refine xV.mget (v := .int t) rfl rfl ?_
    refine xV.br rfl (fun h2 => absurd h2 h0.2) (fun h2 => ?_)
    repeat' refine xV.step rfl ?_
    exact xV.iret rfl rfl rfl (Or.inl ⟨by rw [hT]; exact h0.1, rfl, by rw [hT]⟩)
  show xV D N0 mM_claim (d + 3) 0 [some (.ref m), some (.int c), some (.int k), some (.long s), none, none, none, none, none] _ _ _
  repeat' refine xV.step rfl ?_
  refine xV.cS rfl rfl g_mM_claim_158 mM_lockOf_ok (Nat.le_of_ble_eq_true rfl) (Nat.le_of_ble_eq_true rfl) c_M_lockOf ?_
  refine xV.step rfl ?_
  show xV D N0 mM_claim (d + 3) 6 [some (.ref m), some (.int c), some (.int k), some (.long s), none, some (.long (lk s)), none, none, none] _ _ _
  repeat' refine xV.step rfl ?_
  refine xV.cM rfl rfl g_mM_claim_279 mM_isLeft_ok (Nat.le_of_ble_eq_true rfl) (Nat.le_of_ble_eq_true rfl) (c_M_isLeft hc) ?_
  refine xV.step rfl ?_
  show xV D N0 mM_claim (d + 3) 14 [some (.ref m), some (.int c), some (.int k), some (.long s), none, some (.long (lk s)), none, some (.int (xB (mleft A c k j))), none] _ _ _
  repeat' refine xV.step rfl ?_
  cases hlf : mleft A c k j with
  | false =>
    refine xV.br rfl (fun h1 => ?_) (fun h1 => absurd rfl h1)
    repeat' refine xV.step rfl ?_
    refine xV.br rfl (fun h2 => ?_) (fun h2 => absurd rfl h2)
    refine xV.step rfl ?_
    refine xV.step rfl ?_
    exact tl 1 _ rfl (Or.inl rfl) (by unfold tClaim; rw [if_neg (by rw [hlf]; decide)])
  | true =>
    have hic : isc A c = true := by unfold mleft at hlf; rw [Bool.and_eq_true] at hlf; exact hlf.1
    obtain ⟨rfl, hj⟩ := hc hic
    obtain ⟨rfl, hq2, ho, ho2⟩ := hk hlf
    refine xV.br rfl (fun h1 => absurd h1 (by decide)) (fun h1 => ?_)
    refine xV.step rfl ?_
    refine xV.step rfl ?_
    refine xV.step rfl ?_
    refine xV.step rfl ?_
    refine xV.step rfl ?_
    refine xV.step rfl ?_
    refine xV.step rfl ?_
    show xV D N0 mM_claim (d + 3) 31 [some (.ref m), some (.int (nI j)), some (.int (nI q)), some (.long s), none, some (.long (lk s)), none, some (.int (xB true)), some (.int (64 * nI j + nI q))] _ _ _
    repeat' refine xV.step rfl ?_
    refine xV.br rfl (fun h2 => absurd h2 (by decide)) (fun h2 => ?_)
    repeat' first
      | refine xV.step rfl ?_
      | refine xV.mget rfl rfl ?_
      | refine xV.mj' (n := 512) (j := 64 * j + q) rfl rfl rfl (xn_ix j q) (by omega) ?_
    refine xV.br rfl (fun h3 => ?_) (fun h3 => ?_)
    case refine_2 =>
      rw [lg_cmp_eq0] at h3
      refine xV.step rfl ?_
      refine xV.step rfl ?_
      exact tl 2 _ rfl (Or.inr (Or.inl rfl)) (by unfold tClaim; rw [if_pos hlf, if_pos h3])
    rw [lg_cmp_eq0] at h3
    have thr : (A.2.1 8 j ≠ 1 ∨ mmay A j = true ∨ A.2.1 17 (64 * j + q) ≤ A.1 6 ∨ mhas A K (lk s) = false) → ∀ LV : XL, xnth LV 0 = some (.ref m) → xV D N0 mM_claim (d + 3) 99 LV [.ref m] (hm m A h) (xTw (tClaim A (nI j) (nI q) s j q K) (.returned (some (.int 0))) (hm m (mF A 0 (tClaim A (nI j) (nI q) s j q K)) h) (.returned (some (.int ((mclaim A j q o K s).2.1 1 o)))) (hm m (mclaim A j q o K s) h)) := fun hz LV hLV => by
      refine xV.step rfl ?_
      refine xV.step rfl ?_
      exact tl 3 _ hLV (Or.inr (Or.inr rfl)) (by unfold tClaim; rw [if_pos hlf, if_neg (fun z => z h3), if_pos hz])
    repeat' first
      | refine xV.step rfl ?_
      | refine xV.mget rfl rfl ?_
      | refine xV.mi (j := j) rfl rfl rfl hj ?_
    refine xV.br rfl (fun h4 => ?_) (fun h4 => thr (Or.inl h4) _ rfl)
    repeat' refine xV.step rfl ?_
    refine xV.cM rfl rfl g_mM_claim_273 mM_mayPunish_ok (Nat.le_of_ble_eq_true rfl) (Nat.le_of_ble_eq_true rfl) (c_M_mayPunish hj) ?_
    refine xV.br rfl (fun h5 => ?_) (fun h5 => thr (Or.inr (Or.inl (xB_t h5))) _ rfl)
    repeat' first
      | refine xV.step rfl ?_
      | refine xV.mget rfl rfl ?_
      | refine xV.mi' (n := 512) (j := 64 * j + q) rfl rfl rfl (xn_ix j q) (by omega) ?_
    refine xV.br rfl (fun h6 => thr (Or.inr (Or.inr (Or.inl h6))) _ rfl) (fun h6 => ?_)
    repeat' refine xV.step rfl ?_
    refine xV.cM rfl rfl g_mM_claim_166 mM_hasRoom_ok (Nat.le_of_ble_eq_true rfl) (Nat.le_of_ble_eq_true rfl) (c_M_hasRoom hK hK2) ?_
    refine xV.br rfl (fun h7 => thr (Or.inr (Or.inr (Or.inr (xB_f h7)))) _ rfl) (fun h7 => ?_)
    have hT : tClaim A (nI j) (nI q) s j q K = 0 := by
      unfold tClaim
      rw [if_pos hlf, if_neg (fun z => z h3), if_neg]
      rintro (z | z | z | z)
      · exact z h4
      · rw [xB_f h5] at z; cases z
      · exact h6 z
      · rw [xB_t h7] at z; cases z
    refine xV.step rfl ?_
    refine xV.mput rfl rfl rfl (Nat.le_of_ble_eq_true rfl) ?_
    repeat' refine xV.step rfl ?_
    refine xV.mget (v := .int 0) rfl rfl ?_
    refine xV.br rfl (fun h9 => ?_) (fun h9 => absurd (by decide) h9)
    repeat' refine xV.step rfl ?_
    refine xV.cM rfl rfl g_mM_claim_170 mM_learn_ok (Nat.le_of_ble_eq_true rfl) (Nat.le_of_ble_eq_true rfl) (c_M_learn (A := mF A 0 0) (K := K) hK hK2 (xB_t h7)) ?_
    repeat' first
      | refine xV.step rfl ?_
      | refine xV.mget rfl rfl ?_
      | refine xV.mi' (n := 512) (j := 64 * j + q) rfl rfl rfl (xn_ix j q) (by omega) ?_
    refine xV.cM rfl rfl g_mM_claim_283 mM_goes_ok (Nat.le_of_ble_eq_true rfl) (Nat.le_of_ble_eq_true rfl) (c_M_goes hj hq2 (by rw [mlearn_node, mlearn_pay]; exact ho) ho2) ?_
    exact xV.iret rfl rfl rfl (Or.inr ⟨hT, rfl, rfl⟩)
end X28
end
section
/- Part 29: the model: keep, settle. -/
section X29
variable {D : va_G} {N0 : Nat} {d m : Nat} {h : XH} {A : MS}
theorem mkeep_lat {j l q K : Nat} {i : Nat} : (mkeep A j l q K).2.1 9 i = upd (A.2.1 9) j (nI (l + 1)) i := by
  unfold mkeep mlearn
  cases mfind ((mkept A j l q).2.2 23) (A.2.2 16 (64 * j + q)) K <;> rfl
theorem mlearn_lat {K : Nat} {k : Int64} {w : Int32} {i : Nat} : (mlearn A K k w).2.1 9 i = A.2.1 9 i := by
  unfold mlearn
  cases mfind (A.2.2 23) k K <;> rfl
theorem mkeep_has {j l q K : Nat} : mhas (mkeep A j l q K) (mK A K (A.2.2 16 (64 * j + q))) (A.2.2 16 (64 * j + q)) = true := by
  unfold mhas
  have := mfind_learn (A := mkept A j l q) (K := K) (k := A.2.2 16 (64 * j + q)) (w := (1 : Int32) <<< (mnode A j (A.2.1 14 (64 * j + q)) &&& 31))
  rw [show mfind ((mkeep A j l q K).2.2 23) (A.2.2 16 (64 * j + q)) (mK A K (A.2.2 16 (64 * j + q))) = mfind ((mlearn (mkept A j l q) K (A.2.2 16 (64 * j + q)) ((1 : Int32) <<< (mnode A j (A.2.1 14 (64 * j + q)) &&& 31))).2.2 23) (A.2.2 16 (64 * j + q)) (mK (mkept A j l q) K (A.2.2 16 (64 * j + q))) from rfl, this]
  rfl
theorem mkeep_K {j l q K : Nat} (hK : A.1 25 = nI K) : (mkeep A j l q K).1 25 = nI (mK A K (A.2.2 16 (64 * j + q))) := mlearn_K (A := mkept A j l q) hK
theorem mkeep_pay {j l q K i : Nat} : (mkeep A j l q K).2.1 14 i = A.2.1 14 i := mlearn_pay (A := mkept A j l q)
theorem mkeep_node {j l q K : Nat} {i : Nat} {x : Int32} : mnode (mkeep A j l q K) i x = mnode A i x := mlearn_node (A := mkept A j l q)
theorem c_M_keep {j l q K : Nat} {c k : Int32} {s : Int64} (hK : A.1 25 = nI K) (hK2 : K ≤ 24) (hc : isc A c = true → c = nI j ∧ j < 8 ∧ A.2.1 9 j = nI l ∧ l < 64) (hq : mbit (mnow A j l) k = true → k = nI q ∧ q < 64) :
    xV D N0 mM_keep (d + 4) 0 (xargs 9 [.ref m, .int c, .int k, .long s]) [] (hm m A h) (xTw (tKeep A c k s j l q K) (.returned (some (.int 0))) (hm m (mF A 0 (tKeep A c k s j l q K)) h) (.returned (some (.int (nI (l + 1))))) (hm m (mkeep2 A j l q K s) h)) := by
  have tl : ∀ (t : Int32) (LV : XL), xnth LV 0 = some (.ref m) → t = 1 ∨ t = 2 ∨ t = 3 → tKeep A c k s j l q K = t → xV D N0 mM_keep (d + 4) 122 LV [.int t, .ref m] (hm m A h) (xTw (tKeep A c k s j l q K) (.returned (some (.int 0))) (hm m (mF A 0 (tKeep A c k s j l q K)) h) (.returned (some (.int (nI (l + 1))))) (hm m (mkeep2 A j l q K s) h)) := by
    intro t LV hLV ht hT
    have h0 : t ≠ 0 ∧ ¬ t ≤ 0 := by rcases ht with rfl | rfl | rfl <;> exact ⟨by decide, by decide⟩
    refine xV.mput rfl rfl rfl (Nat.le_of_ble_eq_true rfl) ?_
    refine xV.ald0 rfl hLV ?_
    refine xV.mget (v := .int t) rfl rfl ?_
    refine xV.br rfl (fun h2 => absurd h2 h0.2) (fun h2 => ?_)
    repeat' refine xV.step rfl ?_
    exact xV.iret rfl rfl rfl (Or.inl ⟨by rw [hT]; exact h0.1, rfl, by rw [hT]⟩)
  have no : ¬ (isc A c = true ∧ mbit (mnow A j l) k = true) → xV D N0 mM_keep (d + 4) 30 [some (.ref m), some (.int c), some (.int k), some (.long s), none, some (.long (lk s)), none, none, none] [] (hm m A h) (xTw (tKeep A c k s j l q K) (.returned (some (.int 0))) (hm m (mF A 0 (tKeep A c k s j l q K)) h) (.returned (some (.int (nI (l + 1))))) (hm m (mkeep2 A j l q K s) h)) := fun hz => by
    refine xV.step rfl ?_
    refine xV.step rfl ?_
    show xV D N0 mM_keep (d + 4) 33 [some (.ref m), some (.int c), some (.int k), some (.long s), none, some (.long (lk s)), none, some (.int 0), none] _ _ _
    refine xV.step rfl ?_
    refine xV.br rfl (fun h2 => ?_) (fun h2 => absurd rfl h2)
    refine xV.step rfl ?_
    refine xV.step rfl ?_
    show xV D N0 mM_keep (d + 4) 50 [some (.ref m), some (.int c), some (.int k), some (.long s), none, some (.long (lk s)), none, some (.int 0), some (.int 0)] _ _ _
    repeat' refine xV.step rfl ?_
    refine xV.br rfl (fun h2 => ?_) (fun h2 => absurd rfl h2)
    refine xV.step rfl ?_
    refine xV.step rfl ?_
    exact tl 1 _ rfl (Or.inl rfl) (by unfold tKeep; rw [if_neg hz])
  show xV D N0 mM_keep (d + 4) 0 [some (.ref m), some (.int c), some (.int k), some (.long s), none, none, none, none, none] _ _ _
  repeat' refine xV.step rfl ?_
  refine xV.cS rfl rfl g_mM_keep_158 mM_lockOf_ok (Nat.le_of_ble_eq_true rfl) (Nat.le_of_ble_eq_true rfl) c_M_lockOf ?_
  refine xV.step rfl ?_
  show xV D N0 mM_keep (d + 4) 6 [some (.ref m), some (.int c), some (.int k), some (.long s), none, some (.long (lk s)), none, none, none] _ _ _
  repeat' refine xV.step rfl ?_
  refine xV.cM rfl rfl g_mM_keep_196 mM_isChannel_ok (Nat.le_of_ble_eq_true rfl) (Nat.le_of_ble_eq_true rfl) c_M_isChannel' ?_
  refine xV.br rfl (fun h1 => no (fun z => by rw [xB_f h1] at z; cases z.1)) (fun h1 => ?_)
  obtain ⟨rfl, hj, hl, hl2⟩ := hc (xB_t h1)
  repeat' refine xV.step rfl ?_
  refine xV.cM rfl rfl g_mM_keep_182 mM_now_ok (Nat.le_of_ble_eq_true rfl) (Nat.le_of_ble_eq_true rfl) (c_M_now hj hl hl2) ?_
  repeat' refine xV.step rfl ?_
  refine xV.cS rfl rfl g_mM_keep_218 mM_hasBit_ok (Nat.le_of_ble_eq_true rfl) (Nat.le_of_ble_eq_true rfl) c_M_hasBit ?_
  refine xV.br rfl (fun h2 => no (fun z => by rw [show mbit (mnow A j l) k = false from xB_f h2] at z; cases z.2)) (fun h2 => ?_)
  have hb : mbit (mnow A j l) k = true := xB_t h2
  obtain ⟨rfl, hq2⟩ := hq hb
  have hthere : isc A (nI j) = true ∧ mbit (mnow A j l) (nI q) = true := ⟨xB_t h1, hb⟩
  refine xV.step rfl ?_
  refine xV.step rfl ?_
  refine xV.step rfl ?_
  show xV D N0 mM_keep (d + 4) 33 [some (.ref m), some (.int (nI j)), some (.int (nI q)), some (.long s), none, some (.long (lk s)), none, some (.int 1), none] _ _ _
  refine xV.step rfl ?_
  refine xV.br rfl (fun h3 => absurd h3 (by decide)) (fun h3 => ?_)
  refine xV.step rfl ?_
  refine xV.step rfl ?_
  refine xV.step rfl ?_
  refine xV.step rfl ?_
  refine xV.step rfl ?_
  refine xV.step rfl ?_
  refine xV.step rfl ?_
  show xV D N0 mM_keep (d + 4) 50 [some (.ref m), some (.int (nI j)), some (.int (nI q)), some (.long s), none, some (.long (lk s)), none, some (.int 1), some (.int (64 * nI j + nI q))] _ _ _
  repeat' refine xV.step rfl ?_
  refine xV.br rfl (fun h3 => absurd h3 (by decide)) (fun h3 => ?_)
  repeat' first
    | refine xV.step rfl ?_
    | refine xV.mget rfl rfl ?_
    | refine xV.mj' (n := 512) (j := 64 * j + q) rfl rfl rfl (xn_ix j q) (by omega) ?_
  refine xV.br rfl (fun h4 => ?_) (fun h4 => ?_)
  case refine_2 =>
    rw [lg_cmp_eq0] at h4
    refine xV.step rfl ?_
    refine xV.step rfl ?_
    exact tl 2 _ rfl (Or.inr (Or.inl rfl)) (by unfold tKeep; rw [if_pos hthere, if_pos h4])
  rw [lg_cmp_eq0] at h4
  have thr : (A.2.1 8 j ≠ 0 ∨ A.2.1 17 (64 * j + q) ≤ A.1 6 ∨ ¬ A.2.1 9 j + 1 < 64 ∨ mhas A K (lk s) = false) → ∀ LV : XL, xnth LV 0 = some (.ref m) → xV D N0 mM_keep (d + 4) 117 LV [.ref m] (hm m A h) (xTw (tKeep A (nI j) (nI q) s j l q K) (.returned (some (.int 0))) (hm m (mF A 0 (tKeep A (nI j) (nI q) s j l q K)) h) (.returned (some (.int (nI (l + 1))))) (hm m (mkeep2 A j l q K s) h)) := fun hz LV hLV => by
    refine xV.step rfl ?_
    refine xV.step rfl ?_
    exact tl 3 _ hLV (Or.inr (Or.inr rfl)) (by unfold tKeep; rw [if_pos hthere, if_neg (fun z => z h4), if_pos hz])
  repeat' first
    | refine xV.step rfl ?_
    | refine xV.mget rfl rfl ?_
    | refine xV.mi (j := j) rfl rfl rfl hj ?_
  refine xV.br rfl (fun h5 => ?_) (fun h5 => thr (Or.inl h5) _ rfl)
  repeat' first
    | refine xV.step rfl ?_
    | refine xV.mget rfl rfl ?_
    | refine xV.mi' (n := 512) (j := 64 * j + q) rfl rfl rfl (xn_ix j q) (by omega) ?_
  refine xV.br rfl (fun h6 => thr (Or.inr (Or.inl h6)) _ rfl) (fun h6 => ?_)
  repeat' refine xV.step rfl ?_
  refine xV.cM rfl rfl g_mM_keep_205 mM_hasState_ok (Nat.le_of_ble_eq_true rfl) (Nat.le_of_ble_eq_true rfl) (c_M_hasState hj) ?_
  refine xV.br rfl (fun h7 => thr (Or.inr (Or.inr (Or.inl (of_decide_eq_false (xB_f h7))))) _ rfl) (fun h7 => ?_)
  have h7' := of_decide_eq_true (xB_t h7)
  repeat' refine xV.step rfl ?_
  refine xV.cM rfl rfl g_mM_keep_166 mM_hasRoom_ok (Nat.le_of_ble_eq_true rfl) (Nat.le_of_ble_eq_true rfl) (c_M_hasRoom hK hK2) ?_
  refine xV.br rfl (fun h8 => thr (Or.inr (Or.inr (Or.inr (xB_f h8)))) _ rfl) (fun h8 => ?_)
  have h8' : mhas A K (lk s) = true := xB_t h8
  have hT : tKeep A (nI j) (nI q) s j l q K = 0 := by
    unfold tKeep
    rw [if_pos hthere, if_neg (fun z => z h4), if_neg]
    rintro (z | z | z | z)
    · exact z h5
    · exact h6 z
    · exact z h7'
    · rw [h8'] at z; cases z
  have hl3 : l < 63 := lat_lt hl2 (by rw [← hl]; exact h7')
  refine xV.step rfl ?_
  refine xV.mput rfl rfl rfl (Nat.le_of_ble_eq_true rfl) ?_
  repeat' refine xV.step rfl ?_
  refine xV.mget (v := .int 0) rfl rfl ?_
  refine xV.br rfl (fun h9 => ?_) (fun h9 => absurd (by decide) h9)
  repeat' refine xV.step rfl ?_
  refine xV.cM rfl rfl g_mM_keep_222 mM_keepPromise_ok (Nat.le_of_ble_eq_true rfl) (Nat.le_of_ble_eq_true rfl) (c_M_keepPromise (A := mF A 0 0) hj hl hl3 hq2 hK hK2 (by rw [show (mF A 0 0).2.2 16 (64 * j + q) = lk s from h4]; exact h8')) ?_
  repeat' first
    | refine xV.step rfl ?_
    | refine xV.mget rfl rfl ?_
    | refine xV.mi' (n := 512) (j := 64 * j + q) rfl rfl rfl (xn_ix j q) (by omega) ?_
  refine xV.cM rfl rfl g_mM_keep_192 mM_nodeOf_ok (Nat.le_of_ble_eq_true rfl) (Nat.le_of_ble_eq_true rfl) (c_M_nodeOf hj) ?_
  rw [mkeep_node, mkeep_pay]
  repeat' refine xV.step rfl ?_
  have hK' := mkeep_K (A := mF A 0 0) (j := j) (l := l) (q := q) (K := K) hK
  have hh' := mkeep_has (A := mF A 0 0) (j := j) (l := l) (q := q) (K := K)
  rw [show (mF A 0 0).2.2 16 (64 * j + q) = lk s from h4] at hK' hh'
  refine xV.cM rfl rfl g_mM_keep_170 mM_learn_ok (Nat.le_of_ble_eq_true rfl) (Nat.le_of_ble_eq_true rfl) (c_M_learn hK' (mK_le (A := mF A 0 0) hK2 h8') hh') ?_
  repeat' first
    | refine xV.step rfl ?_
    | refine xV.mget rfl rfl ?_
    | refine xV.mi (j := j) rfl rfl rfl hj ?_
  refine xV.iret rfl rfl rfl (Or.inr ⟨hT, ?_, rfl⟩)
  rw [mlearn_lat, mkeep_lat]
  simp [upd]
def tSet (A : MS) (c : Int32) (j : Nat) : Int32 := if isc A c = true then (if A.2.1 8 j ≠ 1 ∨ A.2.1 22 j ≠ 0 ∨ A.1 6 < A.2.1 20 j + 10 then 2 else 0) else 1
def mset1 (A : MS) (j q s o : Nat) : MS :=
  let b := A.2.1 10 (2 * (64 * j + q) + s)
  let A1 := mI A 1 o (A.2.1 1 o + b)
  mI A1 12 j (A1.2.1 12 j - b)
def mset (A : MS) (j q f s : Nat) : MS :=
  let A2 := mset1 (mset1 (mI (mF A 0 0) 22 j 1) j q 0 f) j q 1 s
  if A2.2.2 21 j = 0 then mI (mI A2 8 j 2) 12 j 0 else A2
theorem c_M_settle {j q f s : Nat} {c : Int32} (hc : isc A c = true → c = nI j ∧ j < 8 ∧ A.2.1 6 j = nI f ∧ f < 6 ∧ A.2.1 7 j = nI s ∧ s < 6) (hq : isc A c = true → A.2.1 8 j = 1 → A.2.1 18 j = nI q ∧ q < 64) :
    xV D N0 mM_settle (d + 3) 0 (xargs 4 [.ref m, .int c]) [] (hm m A h) (xTw (tSet A c j) (.returned (some (.int 0))) (hm m (mF A 0 (tSet A c j)) h) (.returned (some (.int ((mset A j q f s).2.1 8 j)))) (hm m (mset A j q f s) h)) := by
  have tl : ∀ t : Int32, t = 1 ∨ t = 2 → tSet A c j = t → xV D N0 mM_settle (d + 3) 53 (xargs 4 [.ref m, .int c]) [.int t, .ref m] (hm m A h) (xTw (tSet A c j) (.returned (some (.int 0))) (hm m (mF A 0 (tSet A c j)) h) (.returned (some (.int ((mset A j q f s).2.1 8 j)))) (hm m (mset A j q f s) h)) := by
    intro t ht hT
    have h0 : t ≠ 0 ∧ ¬ t ≤ 0 := by rcases ht with rfl | rfl <;> exact ⟨by decide, by decide⟩
    refine xV.mput rfl rfl rfl (Nat.le_of_ble_eq_true rfl) ?_
    repeat' refine xV.step rfl ?_
    refine xV.mget (v := .int t) rfl rfl ?_
    refine xV.br rfl (fun h2 => absurd h2 h0.2) (fun h2 => ?_)
    repeat' refine xV.step rfl ?_
    exact xV.iret rfl rfl rfl (Or.inl ⟨by rw [hT]; exact h0.1, rfl, by rw [hT]⟩)
  repeat' refine xV.step rfl ?_
  refine xV.cM rfl rfl g_mM_settle_196 mM_isChannel_ok (Nat.le_of_ble_eq_true rfl) (Nat.le_of_ble_eq_true rfl) c_M_isChannel' ?_
  refine xV.br rfl (fun h1 => ?_) (fun h1 => ?_)
  · refine xV.step rfl ?_
    refine xV.step rfl ?_
    exact tl 1 (Or.inl rfl) (by unfold tSet; rw [if_neg (by rw [xB_f h1]; decide)])
  obtain ⟨rfl, hj, hf, hf2, hs, hs2⟩ := hc (xB_t h1)
  have two : (A.2.1 8 j ≠ 1 ∨ A.2.1 22 j ≠ 0 ∨ A.1 6 < A.2.1 20 j + 10) → xV D N0 mM_settle (d + 3) 48 (xargs 4 [.ref m, .int (nI j)]) [.ref m] (hm m A h) (xTw (tSet A (nI j) j) (.returned (some (.int 0))) (hm m (mF A 0 (tSet A (nI j) j)) h) (.returned (some (.int ((mset A j q f s).2.1 8 j)))) (hm m (mset A j q f s) h)) := fun hz => by
    refine xV.step rfl ?_
    refine xV.step rfl ?_
    exact tl 2 (Or.inr rfl) (by unfold tSet; rw [if_pos (xB_t h1), if_pos hz])
  repeat' first
    | refine xV.step rfl ?_
    | refine xV.mget rfl rfl ?_
    | refine xV.mi (j := j) rfl rfl rfl hj ?_
  refine xV.br rfl (fun h2 => ?_) (fun h2 => two (Or.inl h2))
  repeat' first
    | refine xV.step rfl ?_
    | refine xV.mget rfl rfl ?_
    | refine xV.mz (j := j) rfl rfl rfl hj ?_
  refine xV.br rfl (fun h3 => ?_) (fun h3 => two (Or.inr (Or.inl h3)))
  repeat' first
    | refine xV.step rfl ?_
    | refine xV.mget rfl rfl ?_
    | refine xV.mi (j := j) rfl rfl rfl hj ?_
  refine xV.br rfl (fun h4 => ?_) (fun h4 => two (Or.inr (Or.inr (by simp only [Int32.lt_iff_toInt_lt, Int32.le_iff_toInt_le] at *; omega))))
  have hT : tSet A (nI j) j = 0 := by
    unfold tSet
    rw [if_pos (xB_t h1), if_neg]
    rintro (z | z | z)
    · exact z h2
    · exact z h3
    · simp only [Int32.lt_iff_toInt_lt, Int32.le_iff_toInt_le] at *; omega
  obtain ⟨hpq, hq2⟩ := hq (xB_t h1) h2
  have body : ∀ (B : MS) (x o : Nat) (y : Option Value), x < 2 → B.2.1 18 j = nI q → mnode B j (nI x) = nI o → o < 6 → ∀ Q, xV D N0 mM_settle (d + 3) 74 [some (.ref m), some (.int (nI j)), some (.int (nI (x + 1))), some (.int (B.2.1 10 (2 * (64 * j + q) + x)))] [] (hm m (mset1 B j q x o) h) Q → xV D N0 mM_settle (d + 3) 74 [some (.ref m), some (.int (nI j)), some (.int (nI x)), y] [] (hm m B h) Q := by
    intro B x o y hx hB ho ho2 Q kk
    repeat' refine xV.step rfl ?_
    refine xV.br rfl (fun h5 => ?_) (fun h5 => ?_)
    · rw [show (2 : Int32) = nI 2 from rfl, xn_le (by omega) (by omega)] at h5
      omega
    repeat' first
      | refine xV.step rfl ?_
      | refine xV.mget rfl rfl ?_
      | refine xV.mi (j := j) rfl rfl rfl hj ?_
    rw [hB]
    repeat' refine xV.step rfl ?_
    refine xV.cS rfl rfl g_mM_settle_178 mM_cell_ok (Nat.le_of_ble_eq_true rfl) (Nat.le_of_ble_eq_true rfl) c_M_cell ?_
    refine xV.mi' (n := 1024) rfl rfl rfl (xn_cell j q x) (by omega) ?_
    refine xV.step rfl ?_
    show xV D N0 mM_settle (d + 3) 96 [some (.ref m), some (.int (nI j)), some (.int (nI x)), some (.int (B.2.1 10 (2 * (64 * j + q) + x)))] _ _ _
    repeat' first
      | refine xV.step rfl ?_
      | refine xV.mget rfl rfl ?_
    refine xV.cM rfl rfl g_mM_settle_192 mM_nodeOf_ok (Nat.le_of_ble_eq_true rfl) (Nat.le_of_ble_eq_true rfl) (c_M_nodeOf hj) ?_
    rw [ho]
    rw [← xn_succ] at kk
    repeat' first
      | exact kk
      | refine xV.step rfl ?_
      | refine xV.mget rfl rfl ?_
      | refine xV.mi (j := o) rfl rfl rfl ho2 ?_
      | refine xV.si (j := o) rfl rfl rfl rfl ho2 ?_
      | refine xV.mi (j := j) rfl rfl rfl hj ?_
      | refine xV.si (j := j) rfl rfl rfl rfl hj ?_
  refine xV.step rfl ?_
  refine xV.mput rfl rfl rfl (Nat.le_of_ble_eq_true rfl) ?_
  repeat' refine xV.step rfl ?_
  refine xV.mget (v := .int 0) rfl rfl ?_
  refine xV.br rfl (fun h9 => ?_) (fun h9 => absurd (by decide) h9)
  repeat' first
    | refine xV.step rfl ?_
    | refine xV.mget rfl rfl ?_
  refine xV.sz (j := j) rfl rfl rfl rfl hj rfl ?_
  refine xV.step rfl ?_
  refine xV.step rfl ?_
  refine body (mI (mF A 0 0) 22 j 1) 0 f none (by omega) hpq (by show (if (0 : Int32) = 0 then A.2.1 6 j else A.2.1 7 j) = nI f; rw [if_pos rfl]; exact hf) hf2 _ ?_
  refine body (mset1 (mI (mF A 0 0) 22 j 1) j q 0 f) 1 s _ (by omega) hpq (by show (if (1 : Int32) = 0 then A.2.1 6 j else A.2.1 7 j) = nI s; rw [if_neg (by decide)]; exact hs) hs2 _ ?_
  have fin : ∀ (B : MS) (y : Int32), mset A j q f s = B → xV D N0 mM_settle (d + 3) 143 [some (.ref m), some (.int (nI j)), some (.int (nI (1 + 1))), some (.int y)] [] (hm m B h) (xTw (tSet A (nI j) j) (.returned (some (.int 0))) (hm m (mF A 0 (tSet A (nI j) j)) h) (.returned (some (.int ((mset A j q f s).2.1 8 j)))) (hm m (mset A j q f s) h)) := by
    intro B y hB
    rw [hB]
    repeat' first
      | refine xV.step rfl ?_
      | refine xV.mget rfl rfl ?_
      | refine xV.mi (j := j) rfl rfl rfl hj ?_
    exact xV.iret rfl rfl rfl (Or.inr ⟨hT, rfl, rfl⟩)
  repeat' refine xV.step rfl ?_
  refine xV.br rfl (fun h5 => ?_) (fun h5 => absurd (by decide) h5)
  repeat' first
    | refine xV.step rfl ?_
    | refine xV.mget rfl rfl ?_
    | refine xV.mj (j := j) rfl rfl rfl hj ?_
  refine xV.br rfl (fun h6 => ?_) (fun h6 => ?_)
  · rw [lg_cmp_eq0] at h6
    repeat' refine xV.step rfl ?_
    refine xV.cM rfl rfl g_mM_settle_229 mM_shut_ok (Nat.le_of_ble_eq_true rfl) (Nat.le_of_ble_eq_true rfl) (c_M_shut hj) ?_
    exact fin _ _ (if_pos h6)
  · rw [lg_cmp_eq0] at h6
    exact fin _ _ (if_neg h6)
end X29
end
section
/- Part 30: the model: channel, made, payment, hop. -/
def tChan (A : MS) (c w : Int32) : Int32 := if isc A c = true then (if 0 ≤ w ∧ w ≤ 5 then 0 else 2) else 1
def rChan (A : MS) (j : Nat) (w : Int32) : Int32 := if w = 0 then A.2.1 8 j else if w = 1 then A.2.1 9 j else if w = 2 then A.2.1 18 j else if w = 3 then A.2.1 20 j else if w = 4 then A.2.1 12 j else A.2.1 13 j
def tMade (A : MS) (c k w : Int32) (j : Nat) : Int32 := if isc A c = true ∧ (0 ≤ k ∧ k ≤ A.2.1 13 j - 1) then (if 0 ≤ w ∧ w ≤ 3 then 0 else 2) else 1
def rMade (A : MS) (j l q : Nat) (w : Int32) : Int32 := if w = 0 then mnode A j (A.2.1 14 (64 * j + q)) else if w = 1 then A.2.1 15 (64 * j + q) else if w = 2 then A.2.1 17 (64 * j + q) else xB (mbit (mnow A j l) (nI q))
def isp (A : MS) (p : Int32) : Bool := decide (0 ≤ p ∧ p ≤ A.1 34 - 1)
def tPayt (A : MS) (p w : Int32) : Int32 := if isp A p = true then (if 0 ≤ w ∧ w ≤ 3 then 0 else 2) else 1
def rPayt (A : MS) (j : Nat) (w : Int32) : Int32 := if w = 0 then A.2.1 29 j else if w = 1 then A.2.1 30 j else if w = 2 then A.2.1 31 j else A.2.1 33 j
def tHop (A : MS) (i : Int32) : Int32 := if -1 ≤ i ∧ i ≤ A.1 28 - 1 then 0 else 1
def rHop (A : MS) (q : Nat) (i : Int32) : Int32 := if i = -1 then A.1 28 else A.2.1 25 q
section X30
variable {D : va_G} {N0 : Nat} {d m : Nat} {h : XH} {A : MS}
theorem c_M_channel {j : Nat} {c w : Int32} (hc : isc A c = true → c = nI j ∧ j < 8) : xV D N0 mM_channel (d + 3) 0 (xargs 3 [.ref m, .int c, .int w]) [] (hm m A h) (xTw (tChan A c w) (.returned (some (.int 0))) (hm m (mF A 0 (tChan A c w)) h) (.returned (some (.int (rChan A j w)))) (hm m (mF A 0 0) h)) := by
  have tl : ∀ t : Int32, t = 1 ∨ t = 2 → tChan A c w = t → xV D N0 mM_channel (d + 3) 27 (xargs 3 [.ref m, .int c, .int w]) [.int t, .ref m] (hm m A h) (xTw (tChan A c w) (.returned (some (.int 0))) (hm m (mF A 0 (tChan A c w)) h) (.returned (some (.int (rChan A j w)))) (hm m (mF A 0 0) h)) := by
    intro t ht hT
    have h0 : t ≠ 0 ∧ ¬ t ≤ 0 := by rcases ht with rfl | rfl <;> exact ⟨by decide, by decide⟩
    refine xV.mput rfl rfl rfl (Nat.le_of_ble_eq_true rfl) ?_
    repeat' refine xV.step rfl ?_
    refine xV.mget (v := .int t) rfl rfl ?_
    refine xV.br rfl (fun h2 => absurd h2 h0.2) (fun h2 => ?_)
    repeat' refine xV.step rfl ?_
    exact xV.iret rfl rfl rfl (Or.inl ⟨by rw [hT]; exact h0.1, rfl, by rw [hT]⟩)
  repeat' refine xV.step rfl ?_
  refine xV.cM rfl rfl g_mM_channel_196 mM_isChannel_ok (Nat.le_of_ble_eq_true rfl) (Nat.le_of_ble_eq_true rfl) c_M_isChannel' ?_
  refine xV.br rfl (fun h1 => ?_) (fun h1 => ?_)
  · refine xV.step rfl ?_
    refine xV.step rfl ?_
    exact tl 1 (Or.inl rfl) (by unfold tChan; rw [if_neg (by rw [xB_f h1]; decide)])
  obtain ⟨rfl, hj⟩ := hc (xB_t h1)
  repeat' refine xV.step rfl ?_
  refine xV.cS rfl rfl g_mM_channel_140 mM_isIn_ok (Nat.le_of_ble_eq_true rfl) (Nat.le_of_ble_eq_true rfl) c_M_isIn ?_
  refine xV.br rfl (fun h2 => ?_) (fun h2 => ?_)
  · refine xV.step rfl ?_
    refine xV.step rfl ?_
    exact tl 2 (Or.inr rfl) (by unfold tChan; rw [if_pos (xB_t h1), if_neg (of_decide_eq_false (xB_f h2))])
  have hT : tChan A (nI j) w = 0 := by unfold tChan; rw [if_pos (xB_t h1), if_pos (of_decide_eq_true (xB_t h2))]
  refine xV.step rfl ?_
  refine xV.mput rfl rfl rfl (Nat.le_of_ble_eq_true rfl) ?_
  repeat' refine xV.step rfl ?_
  refine xV.mget (v := .int 0) rfl rfl ?_
  refine xV.br rfl (fun h9 => ?_) (fun h9 => absurd (by decide) h9)
  unfold rChan
  repeat' first
    | refine xV.step rfl ?_
    | refine xV.mget rfl rfl ?_
    | refine xV.mi (j := j) rfl rfl rfl hj ?_
    | refine xV.br rfl (fun _ => ?_) (fun _ => ?_)
  all_goals refine xV.iret rfl rfl rfl (Or.inr ⟨hT, ?_, rfl⟩)
  all_goals (repeat first | rw [if_pos (by assumption)] | rw [if_neg (by assumption)])
  all_goals rfl
theorem c_M_payment {j : Nat} {p w : Int32} (hp : isp A p = true → p = nI j ∧ j < 16) : xV D N0 mM_payment (d + 3) 0 (xargs 3 [.ref m, .int p, .int w]) [] (hm m A h) (xTw (tPayt A p w) (.returned (some (.int 0))) (hm m (mF A 0 (tPayt A p w)) h) (.returned (some (.int (rPayt A j w)))) (hm m (mF A 0 0) h)) := by
  have tl : ∀ t : Int32, t = 1 ∨ t = 2 → tPayt A p w = t → xV D N0 mM_payment (d + 3) 33 (xargs 3 [.ref m, .int p, .int w]) [.int t, .ref m] (hm m A h) (xTw (tPayt A p w) (.returned (some (.int 0))) (hm m (mF A 0 (tPayt A p w)) h) (.returned (some (.int (rPayt A j w)))) (hm m (mF A 0 0) h)) := by
    intro t ht hT
    have h0 : t ≠ 0 ∧ ¬ t ≤ 0 := by rcases ht with rfl | rfl <;> exact ⟨by decide, by decide⟩
    refine xV.mput rfl rfl rfl (Nat.le_of_ble_eq_true rfl) ?_
    repeat' refine xV.step rfl ?_
    refine xV.mget (v := .int t) rfl rfl ?_
    refine xV.br rfl (fun h2 => absurd h2 h0.2) (fun h2 => ?_)
    repeat' refine xV.step rfl ?_
    exact xV.iret rfl rfl rfl (Or.inl ⟨by rw [hT]; exact h0.1, rfl, by rw [hT]⟩)
  repeat' first
    | refine xV.step rfl ?_
    | refine xV.mget rfl rfl ?_
  refine xV.cS rfl rfl g_mM_payment_140 mM_isIn_ok (Nat.le_of_ble_eq_true rfl) (Nat.le_of_ble_eq_true rfl) c_M_isIn ?_
  refine xV.br rfl (fun h1 => ?_) (fun h1 => ?_)
  · refine xV.step rfl ?_
    refine xV.step rfl ?_
    exact tl 1 (Or.inl rfl) (by unfold tPayt; rw [if_neg (by rw [show isp A p = false from xB_f h1]; decide)])
  have h1' : isp A p = true := xB_t h1
  obtain ⟨rfl, hj⟩ := hp h1'
  repeat' refine xV.step rfl ?_
  refine xV.cS rfl rfl g_mM_payment_140 mM_isIn_ok (Nat.le_of_ble_eq_true rfl) (Nat.le_of_ble_eq_true rfl) c_M_isIn ?_
  refine xV.br rfl (fun h2 => ?_) (fun h2 => ?_)
  · refine xV.step rfl ?_
    refine xV.step rfl ?_
    exact tl 2 (Or.inr rfl) (by unfold tPayt; rw [if_pos h1', if_neg (of_decide_eq_false (xB_f h2))])
  have hT : tPayt A (nI j) w = 0 := by unfold tPayt; rw [if_pos h1', if_pos (of_decide_eq_true (xB_t h2))]
  refine xV.step rfl ?_
  refine xV.mput rfl rfl rfl (Nat.le_of_ble_eq_true rfl) ?_
  repeat' refine xV.step rfl ?_
  refine xV.mget (v := .int 0) rfl rfl ?_
  refine xV.br rfl (fun h9 => ?_) (fun h9 => absurd (by decide) h9)
  unfold rPayt
  repeat' first
    | refine xV.step rfl ?_
    | refine xV.mget rfl rfl ?_
    | refine xV.mi (j := j) rfl rfl rfl hj ?_
    | refine xV.br rfl (fun _ => ?_) (fun _ => ?_)
  all_goals refine xV.iret rfl rfl rfl (Or.inr ⟨hT, ?_, rfl⟩)
  all_goals (repeat first | rw [if_pos (by assumption)] | rw [if_neg (by assumption)])
  all_goals rfl
theorem c_M_hop {q : Nat} {i : Int32} (hq : -1 ≤ i ∧ i ≤ A.1 28 - 1 → i ≠ -1 → i = nI q ∧ q < 5) : xV D N0 mM_hop (d + 3) 0 (xargs 2 [.ref m, .int i]) [] (hm m A h) (xTw (tHop A i) (.returned (some (.int 0))) (hm m (mF A 0 1) h) (.returned (some (.int (rHop A q i)))) (hm m (mF A 0 0) h)) := by
  repeat' first
    | refine xV.step rfl ?_
    | refine xV.mget rfl rfl ?_
  refine xV.cS rfl rfl g_mM_hop_140 mM_isIn_ok (Nat.le_of_ble_eq_true rfl) (Nat.le_of_ble_eq_true rfl) c_M_isIn ?_
  refine xV.br rfl (fun h1 => ?_) (fun h1 => ?_)
  · have hT : tHop A i = 1 := by unfold tHop; rw [if_neg (of_decide_eq_false (xB_f h1))]
    refine xV.step rfl ?_
    refine xV.mput rfl rfl rfl (Nat.le_of_ble_eq_true rfl) ?_
    repeat' refine xV.step rfl ?_
    refine xV.mget (v := .int 1) rfl rfl ?_
    refine xV.br rfl (fun h2 => absurd h2 (by decide)) (fun h2 => ?_)
    repeat' refine xV.step rfl ?_
    exact xV.iret rfl rfl rfl (Or.inl ⟨by rw [hT]; decide, rfl, rfl⟩)
  · have hr := of_decide_eq_true (xB_t h1)
    have hT : tHop A i = 0 := by unfold tHop; rw [if_pos hr]
    refine xV.step rfl ?_
    refine xV.step rfl ?_
    refine xV.mput rfl rfl rfl (Nat.le_of_ble_eq_true rfl) ?_
    repeat' refine xV.step rfl ?_
    refine xV.mget (v := .int 0) rfl rfl ?_
    refine xV.br rfl (fun h2 => ?_) (fun h2 => absurd (by decide) h2)
    unfold rHop
    repeat' refine xV.step rfl ?_
    refine xV.br rfl (fun h3 => ?_) (fun h3 => ?_)
    · rw [if_pos h3]
      repeat' first
        | refine xV.step rfl ?_
        | refine xV.mget rfl rfl ?_
      exact xV.iret rfl rfl rfl (Or.inr ⟨hT, rfl, rfl⟩)
    · rw [if_neg h3]
      obtain ⟨e, hq2⟩ := hq hr h3
      repeat' first
        | refine xV.step rfl ?_
        | refine xV.mget rfl rfl ?_
        | refine xV.mi' (n := 5) rfl rfl rfl e hq2 ?_
      exact xV.iret rfl rfl rfl (Or.inr ⟨hT, rfl, rfl⟩)
theorem c_M_made {j l q : Nat} {c k w : Int32} (hc : isc A c = true → c = nI j ∧ j < 8 ∧ A.2.1 9 j = nI l ∧ l < 64) (hk : isc A c = true → 0 ≤ k ∧ k ≤ A.2.1 13 j - 1 → k = nI q ∧ q < 64) : xV D N0 mM_made (d + 3) 0 (xargs 5 [.ref m, .int c, .int k, .int w]) [] (hm m A h) (xTw (tMade A c k w j) (.returned (some (.int 0))) (hm m (mF A 0 (tMade A c k w j)) h) (.returned (some (.int (rMade A j l q w)))) (hm m (mF A 0 0) h)) := by
  have tl : ∀ t : Int32, t = 1 ∨ t = 2 → tMade A c k w j = t → xV D N0 mM_made (d + 3) 43 (xargs 5 [.ref m, .int c, .int k, .int w]) [.int t, .ref m] (hm m A h) (xTw (tMade A c k w j) (.returned (some (.int 0))) (hm m (mF A 0 (tMade A c k w j)) h) (.returned (some (.int (rMade A j l q w)))) (hm m (mF A 0 0) h)) := by
    intro t ht hT
    have h0 : t ≠ 0 ∧ ¬ t ≤ 0 := by rcases ht with rfl | rfl <;> exact ⟨by decide, by decide⟩
    refine xV.mput rfl rfl rfl (Nat.le_of_ble_eq_true rfl) ?_
    repeat' refine xV.step rfl ?_
    refine xV.mget (v := .int t) rfl rfl ?_
    refine xV.br rfl (fun h2 => absurd h2 h0.2) (fun h2 => ?_)
    repeat' refine xV.step rfl ?_
    exact xV.iret rfl rfl rfl (Or.inl ⟨by rw [hT]; exact h0.1, rfl, by rw [hT]⟩)
  have no : ¬ (isc A c = true ∧ (0 ≤ k ∧ k ≤ A.2.1 13 j - 1)) → xV D N0 mM_made (d + 3) 25 (xargs 5 [.ref m, .int c, .int k, .int w]) [.ref m] (hm m A h) (xTw (tMade A c k w j) (.returned (some (.int 0))) (hm m (mF A 0 (tMade A c k w j)) h) (.returned (some (.int (rMade A j l q w)))) (hm m (mF A 0 0) h)) := fun hz => by
    refine xV.step rfl ?_
    refine xV.step rfl ?_
    exact tl 1 (Or.inl rfl) (by unfold tMade; rw [if_neg hz])
  repeat' refine xV.step rfl ?_
  refine xV.cM rfl rfl g_mM_made_196 mM_isChannel_ok (Nat.le_of_ble_eq_true rfl) (Nat.le_of_ble_eq_true rfl) c_M_isChannel' ?_
  refine xV.br rfl (fun h1 => no (fun z => by rw [xB_f h1] at z; cases z.1)) (fun h1 => ?_)
  have h1' : isc A c = true := xB_t h1
  obtain ⟨rfl, hj, hl, hl2⟩ := hc h1'
  repeat' first
    | refine xV.step rfl ?_
    | refine xV.mget rfl rfl ?_
    | refine xV.mi (j := j) rfl rfl rfl hj ?_
  refine xV.cS rfl rfl g_mM_made_140 mM_isIn_ok (Nat.le_of_ble_eq_true rfl) (Nat.le_of_ble_eq_true rfl) c_M_isIn ?_
  refine xV.br rfl (fun h2 => no (fun z => of_decide_eq_false (xB_f h2) z.2)) (fun h2 => ?_)
  have h2' := of_decide_eq_true (xB_t h2)
  obtain ⟨rfl, hq2⟩ := hk h1' h2'
  repeat' refine xV.step rfl ?_
  refine xV.cS rfl rfl g_mM_made_140 mM_isIn_ok (Nat.le_of_ble_eq_true rfl) (Nat.le_of_ble_eq_true rfl) c_M_isIn ?_
  refine xV.br rfl (fun h3 => ?_) (fun h3 => ?_)
  · refine xV.step rfl ?_
    refine xV.step rfl ?_
    exact tl 2 (Or.inr rfl) (by unfold tMade; rw [if_pos ⟨h1', h2'⟩, if_neg (of_decide_eq_false (xB_f h3))])
  have hT : tMade A (nI j) (nI q) w j = 0 := by unfold tMade; rw [if_pos ⟨h1', h2'⟩, if_pos (of_decide_eq_true (xB_t h3))]
  refine xV.step rfl ?_
  refine xV.mput rfl rfl rfl (Nat.le_of_ble_eq_true rfl) ?_
  repeat' refine xV.step rfl ?_
  refine xV.mget (v := .int 0) rfl rfl ?_
  refine xV.br rfl (fun h9 => ?_) (fun h9 => absurd (by decide) h9)
  unfold rMade
  refine xV.step rfl ?_
  refine xV.step rfl ?_
  refine xV.step rfl ?_
  refine xV.step rfl ?_
  refine xV.step rfl ?_
  refine xV.step rfl ?_
  show xV D N0 mM_made (d + 3) 63 [some (.ref m), some (.int (nI j)), some (.int (nI q)), some (.int w), some (.int (64 * nI j + nI q))] _ _ _
  refine xV.step rfl ?_
  refine xV.br rfl (fun h4 => ?_) (fun h4 => ?_)
  · rw [if_pos h4]
    repeat' first
      | refine xV.step rfl ?_
      | refine xV.mget rfl rfl ?_
      | refine xV.mi' (n := 512) (j := 64 * j + q) rfl rfl rfl (xn_ix j q) (by omega) ?_
    refine xV.cM rfl rfl g_mM_made_192 mM_nodeOf_ok (Nat.le_of_ble_eq_true rfl) (Nat.le_of_ble_eq_true rfl) (c_M_nodeOf hj) ?_
    repeat' refine xV.step rfl ?_
    exact xV.iret rfl rfl rfl (Or.inr ⟨hT, rfl, rfl⟩)
  rw [if_neg h4]
  repeat' refine xV.step rfl ?_
  refine xV.br rfl (fun h5 => ?_) (fun h5 => ?_)
  · rw [if_pos h5]
    repeat' first
      | refine xV.step rfl ?_
      | refine xV.mget rfl rfl ?_
      | refine xV.mi' (n := 512) (j := 64 * j + q) rfl rfl rfl (xn_ix j q) (by omega) ?_
    exact xV.iret rfl rfl rfl (Or.inr ⟨hT, rfl, rfl⟩)
  rw [if_neg h5]
  repeat' refine xV.step rfl ?_
  refine xV.br rfl (fun h6 => ?_) (fun h6 => ?_)
  · rw [if_pos h6]
    repeat' first
      | refine xV.step rfl ?_
      | refine xV.mget rfl rfl ?_
      | refine xV.mi' (n := 512) (j := 64 * j + q) rfl rfl rfl (xn_ix j q) (by omega) ?_
    exact xV.iret rfl rfl rfl (Or.inr ⟨hT, rfl, rfl⟩)
  rw [if_neg h6]
  repeat' refine xV.step rfl ?_
  refine xV.cM rfl rfl g_mM_made_182 mM_now_ok (Nat.le_of_ble_eq_true rfl) (Nat.le_of_ble_eq_true rfl) (c_M_now (A := mF A 0 0) hj hl hl2) ?_
  repeat' refine xV.step rfl ?_
  refine xV.cS rfl rfl g_mM_made_218 mM_hasBit_ok (Nat.le_of_ble_eq_true rfl) (Nat.le_of_ble_eq_true rfl) c_M_hasBit ?_
  refine xV.br rfl (fun h7 => ?_) (fun h7 => ?_)
  · repeat' refine xV.step rfl ?_
    refine xV.iret rfl rfl rfl (Or.inr ⟨hT, ?_, rfl⟩)
    rw [show mbit (mnow A j l) (nI q) = false from xB_f h7]; rfl
  · repeat' refine xV.step rfl ?_
    refine xV.iret rfl rfl rfl (Or.inr ⟨hT, ?_, rfl⟩)
    rw [show mbit (mnow A j l) (nI q) = true from xB_t h7]; rfl
end X30
end
section
/- Part 31: the model: how payments go. -/
theorem xn_ix5 (p k : Nat) : (5 : Int32) * nI p + nI k = nI (5 * p + k) := by
  rw [show (5 : Int32) = nI 5 from rfl, xn_mul, xn_add]
theorem xn_pred (b : Nat) : nI (b + 1) - 1 = nI b := dec_ofNat b
def rturn (A : MS) (p : Nat) (w : Int32) : Int32 := if A.2.1 31 p = 0 then 3 else w
def mturn (A : MS) (p : Nat) (w : Int32) : MS := mI (mI (mI A 30 p w) 32 p (A.2.1 31 p)) 29 p (rturn A p w)
def mfw (A : MS) (p k c l s q K : Nat) : Int32 × MS :=
  if A.2.1 31 p = A.2.1 34 p then (rturn A p (if mknows A K (A.2.1 35 p) (A.2.2 36 p) = true then 1 else 2), mturn A p (if mknows A K (A.2.1 35 p) (A.2.2 36 p) = true then 1 else 2))
  else if mcarr A c l s (A.2.1 38 (5 * p + k)).toInt64 = false ∨ A.2.1 39 (5 * p + k) ≤ A.1 6 then (rturn A p 2, mturn A p 2)
  else if ¬ A.2.1 9 c + 1 < 64 then (0, mF A 0 2)
  else (0, mI (mI (madd A c l q (nI s) (A.2.1 38 (5 * p + k)) (A.2.2 36 p) (A.2.1 39 (5 * p + k))) 40 (5 * p + k) (nI q)) 31 p (A.2.1 31 p + 1))
section X31
variable {D : va_G} {N0 : Nat} {d m : Nat} {h : XH} {A : MS}
theorem c_M_turn {p : Nat} (hp : p < 16) {w : Int32} : xV D N0 mM_turn d 0 (xargs 3 [.ref m, .int (nI p), .int w]) [] (hm m A h) (xEq (.returned (some (.int (rturn A p w)))) (hm m (mturn A p w) h)) := by
  have fin : ∀ x : Int32, rturn A p w = x → xV D N0 mM_turn d 38 (xargs 3 [.ref m, .int (nI p), .int w]) [.int x, .int (nI p), .ref (m + 29)] (hm m (mI (mI A 30 p w) 32 p (A.2.1 31 p)) h) (xEq (.returned (some (.int (rturn A p w)))) (hm m (mturn A p w) h)) := by
    intro x hx
    unfold mturn
    rw [hx]
    refine xV.si (j := p) rfl rfl rfl rfl hp ?_
    repeat' first
      | refine xV.step rfl ?_
      | refine xV.mget rfl rfl ?_
      | refine xV.mi (j := p) rfl rfl rfl hp ?_
    refine xV.iret rfl rfl rfl ⟨?_, rfl⟩
    show Outcome.returned (some (.int (upd _ p x p))) = _
    simp [upd]
  repeat' first
    | refine xV.step rfl ?_
    | refine xV.mget rfl rfl ?_
    | refine xV.mi (j := p) rfl rfl rfl hp ?_
    | refine xV.si (j := p) rfl rfl rfl rfl hp ?_
  refine xV.br rfl (fun h1 => ?_) (fun h1 => ?_)
  · refine xV.step rfl ?_
    refine xV.step rfl ?_
    exact fin 3 (if_pos h1)
  · refine xV.step rfl ?_
    exact fin w (if_neg h1)
theorem c_M_forward {p k c l s q K : Nat} (hp : p < 16) (hk : A.2.1 31 p = nI k) (hK : A.1 25 = nI K) (hK2 : K ≤ 24)
    (H : A.2.1 31 p ≠ A.2.1 34 p → k < 5 ∧ A.2.1 37 (5 * p + k) = nI c ∧ c < 8 ∧ A.2.1 9 c = nI l ∧ l < 64 ∧ mside A c (A.2.1 41 (5 * p + k)) = nI s ∧ s < 2 ∧ A.2.1 13 c = nI q ∧ q < 64) :
    xV D N0 mM_forward (d + 3) 0 (xargs 6 [.ref m, .int (nI p)]) [] (hm m A h) (xEq (.returned (some (.int (mfw A p k c l s q K).1))) (hm m (mfw A p k c l s q K).2 h)) := by
  show xV D N0 mM_forward (d + 3) 0 [some (.ref m), some (.int (nI p)), none, none, none, none] _ _ _
  repeat' first
    | refine xV.step rfl ?_
    | refine xV.mget rfl rfl ?_
    | refine xV.mi (j := p) rfl rfl rfl hp ?_
  refine xV.br rfl (fun h1 => ?_) (fun h1 => ?_)
  · have e : mfw A p k c l s q K = (rturn A p (if mknows A K (A.2.1 35 p) (A.2.2 36 p) = true then 1 else 2), mturn A p (if mknows A K (A.2.1 35 p) (A.2.2 36 p) = true then 1 else 2)) := if_pos h1
    rw [e]
    repeat' first
      | refine xV.step rfl ?_
      | refine xV.mget rfl rfl ?_
      | refine xV.mi (j := p) rfl rfl rfl hp ?_
      | refine xV.mj (j := p) rfl rfl rfl hp ?_
    refine xV.cM rfl rfl g_mM_forward_174 mM_isKnown_ok (Nat.le_of_ble_eq_true rfl) (Nat.le_of_ble_eq_true rfl) (c_M_isKnown hK hK2) ?_
    refine xV.br rfl (fun h2 => ?_) (fun h2 => ?_)
    · rw [xB_f h2, if_neg (by decide)]
      repeat' refine xV.step rfl ?_
      refine xV.cM rfl rfl g_mM_forward_260 mM_turn_ok (Nat.le_of_ble_eq_true rfl) (Nat.le_of_ble_eq_true rfl) (c_M_turn hp) ?_
      exact xV.iret rfl rfl rfl ⟨rfl, rfl⟩
    · rw [xB_t h2, if_pos rfl]
      repeat' refine xV.step rfl ?_
      refine xV.cM rfl rfl g_mM_forward_260 mM_turn_ok (Nat.le_of_ble_eq_true rfl) (Nat.le_of_ble_eq_true rfl) (c_M_turn hp) ?_
      exact xV.iret rfl rfl rfl ⟨rfl, rfl⟩
  obtain ⟨hk5, hc, hc8, hl, hl2, hs, hs2, hq, hq2⟩ := H h1
  have hix := xn_ix5 p k
  rw [hk]
  refine xV.step rfl ?_
  refine xV.step rfl ?_
  refine xV.step rfl ?_
  refine xV.step rfl ?_
  refine xV.step rfl ?_
  refine xV.step rfl ?_
  show xV D N0 mM_forward (d + 3) 53 [some (.ref m), some (.int (nI p)), some (.int (nI k)), some (.int (5 * nI p + nI k)), none, none] _ _ _
  repeat' first
    | refine xV.step rfl ?_
    | refine xV.mget rfl rfl ?_
  refine xV.mi' (n := 80) (j := 5 * p + k) rfl rfl rfl hix (by omega) ?_
  rw [hc]
  refine xV.step rfl ?_
  show xV D N0 mM_forward (d + 3) 61 [some (.ref m), some (.int (nI p)), some (.int (nI k)), some (.int (5 * nI p + nI k)), some (.int (nI c)), none] _ _ _
  repeat' first
    | refine xV.step rfl ?_
    | refine xV.mget rfl rfl ?_
  refine xV.mi' (n := 80) (j := 5 * p + k) rfl rfl rfl hix (by omega) ?_
  refine xV.cM rfl rfl g_mM_forward_199 mM_sideOf_ok (Nat.le_of_ble_eq_true rfl) (Nat.le_of_ble_eq_true rfl) (c_M_sideOf hc8) ?_
  rw [hs]
  refine xV.step rfl ?_
  show xV D N0 mM_forward (d + 3) 75 [some (.ref m), some (.int (nI p)), some (.int (nI k)), some (.int (5 * nI p + nI k)), some (.int (nI c)), some (.int (nI s))] _ _ _
  repeat' first
    | refine xV.step rfl ?_
    | refine xV.mget rfl rfl ?_
  refine xV.mi' (n := 80) (j := 5 * p + k) rfl rfl rfl hix (by omega) ?_
  refine xV.step rfl ?_
  refine xV.cM rfl rfl g_mM_forward_239 mM_carries_ok (Nat.le_of_ble_eq_true rfl) (Nat.le_of_ble_eq_true rfl) (c_M_carries hc8 hl hl2 hs2) ?_
  have dro : (mcarr A c l s (A.2.1 38 (5 * p + k)).toInt64 = false ∨ A.2.1 39 (5 * p + k) ≤ A.1 6) → xV D N0 mM_forward (d + 3) 106 [some (.ref m), some (.int (nI p)), some (.int (nI k)), some (.int (5 * nI p + nI k)), some (.int (nI c)), some (.int (nI s))] [] (hm m A h) (xEq (.returned (some (.int (mfw A p k c l s q K).1))) (hm m (mfw A p k c l s q K).2 h)) := fun hz => by
    have e : mfw A p k c l s q K = (rturn A p 2, mturn A p 2) := (if_neg h1).trans (if_pos hz)
    rw [e]
    repeat' refine xV.step rfl ?_
    refine xV.cM rfl rfl g_mM_forward_260 mM_turn_ok (Nat.le_of_ble_eq_true rfl) (Nat.le_of_ble_eq_true rfl) (c_M_turn hp) ?_
    exact xV.iret rfl rfl rfl ⟨rfl, rfl⟩
  refine xV.br rfl (fun h2 => dro (Or.inl (xB_f h2))) (fun h2 => ?_)
  repeat' first
    | refine xV.step rfl ?_
    | refine xV.mget rfl rfl ?_
  refine xV.mi' (n := 80) (j := 5 * p + k) rfl rfl rfl hix (by omega) ?_
  repeat' first
    | refine xV.step rfl ?_
    | refine xV.mget rfl rfl ?_
  refine xV.br rfl (fun h3 => ?_) (fun h3 => dro (Or.inr (by simp only [Int32.lt_iff_toInt_lt, Int32.le_iff_toInt_le] at *; omega)))
  have hno : ¬ (mcarr A c l s (A.2.1 38 (5 * p + k)).toInt64 = false ∨ A.2.1 39 (5 * p + k) ≤ A.1 6) := by
    rintro (z | z)
    · rw [xB_t h2] at z; cases z
    · simp only [Int32.lt_iff_toInt_lt, Int32.le_iff_toInt_le] at *; omega
  repeat' refine xV.step rfl ?_
  refine xV.cM rfl rfl g_mM_forward_205 mM_hasState_ok (Nat.le_of_ble_eq_true rfl) (Nat.le_of_ble_eq_true rfl) (c_M_hasState hc8) ?_
  refine xV.br rfl (fun h4 => ?_) (fun h4 => ?_)
  · have e : mfw A p k c l s q K = (0, mF A 0 2) := (if_neg h1).trans ((if_neg hno).trans (if_pos (of_decide_eq_false (xB_f h4))))
    rw [e]
    repeat' refine xV.step rfl ?_
    refine xV.mput rfl rfl rfl (Nat.le_of_ble_eq_true rfl) ?_
    repeat' refine xV.step rfl ?_
    exact xV.iret rfl rfl rfl ⟨rfl, rfl⟩
  have h4' := of_decide_eq_true (xB_t h4)
  have e : mfw A p k c l s q K = (0, mI (mI (madd A c l q (nI s) (A.2.1 38 (5 * p + k)) (A.2.2 36 p) (A.2.1 39 (5 * p + k))) 40 (5 * p + k) (nI q)) 31 p (A.2.1 31 p + 1)) := (if_neg h1).trans ((if_neg hno).trans (if_neg (fun z => z h4')))
  rw [e]
  have hl3 : l < 63 := lat_lt hl2 (by rw [← hl]; exact h4')
  repeat' first
    | refine xV.step rfl ?_
    | refine xV.mget rfl rfl ?_
    | refine xV.mi' (n := 80) (j := 5 * p + k) rfl rfl rfl hix (by omega) ?_
    | refine xV.mj (j := p) rfl rfl rfl hp ?_
  refine xV.cM rfl rfl g_mM_forward_214 mM_addPromise_ok (Nat.le_of_ble_eq_true rfl) (Nat.le_of_ble_eq_true rfl) (c_M_addPromise hc8 hl hl3 hq hq2) ?_
  refine xV.si' (n := 80) (j := 5 * p + k) rfl rfl rfl rfl hix (by omega) ?_
  repeat' first
    | refine xV.step rfl ?_
    | refine xV.mget rfl rfl ?_
    | refine xV.mi (j := p) rfl rfl rfl hp ?_
    | refine xV.si (j := p) rfl rfl rfl rfl hp ?_
  exact xV.iret rfl rfl rfl ⟨rfl, rfl⟩
end X31
end
section
/- Part 32: the model: backward, step. -/
def bmay (A : MS) (p b c l q : Nat) : Prop := A.2.1 8 c = 0 ∧ mbit (mnow A c l) (nI q) = true ∧ (A.2.1 30 p = 2 ∨ ¬ A.2.1 39 (5 * p + b) ≤ A.1 6)
def bend (A : MS) (p c l q K : Nat) : MS := if A.2.1 30 p = 1 then mkeep (mI A 33 p (A.2.1 33 p + 1)) c l q K else mdrop (mI A 33 p (A.2.1 33 p + 1)) c l q
/-- the payment goes one channel back -/
def bback (A : MS) (p : Nat) : MS :=
  let A2 := mI A 32 p (A.2.1 32 p - 1)
  mI A2 29 p (if A2.2.1 32 p = 0 then 3 else A2.2.1 29 p)
def tStep (A : MS) (p : Int32) (j : Nat) : Int32 := if isp A p = true then (if A.2.1 29 j = 3 then 2 else 0) else 1
section X32
variable {D : va_G} {N0 : Nat} {d m : Nat} {h : XH} {A : MS}
theorem c_M_back_tail {p : Nat} (hp : p < 16) {LV : XL} (e0 : xnth LV 0 = some (.ref m)) {Q : Outcome → XH → Prop} (hQ : Q (.returned (some (.int ((bback A p).2.1 29 p)))) (hm m (bback A p) h)) {x y z w : Option Value} (hLV : LV = [some (.ref m), some (.int (nI p)), x, y, z, w]) : xV D N0 mM_backward (d + 3) 142 LV [] (hm m A h) Q := by
  subst hLV
  repeat' first
    | refine xV.step rfl ?_
    | refine xV.mget rfl rfl ?_
    | refine xV.mi (j := p) rfl rfl rfl hp ?_
    | refine xV.si (j := p) rfl rfl rfl rfl hp ?_
  have fin : ∀ v : Int32, (if (mI A 32 p (A.2.1 32 p - 1)).2.1 32 p = 0 then 3 else (mI A 32 p (A.2.1 32 p - 1)).2.1 29 p) = v → xV D N0 mM_backward (d + 3) 176 [some (.ref m), some (.int (nI p)), x, y, z, w] [.int v, .int (nI p), .ref (m + 29)] (hm m (mI A 32 p (A.2.1 32 p - 1)) h) Q := by
    intro v hv
    refine xV.si (j := p) rfl rfl rfl rfl hp ?_
    have hv2 : bback A p = mI (mI A 32 p (A.2.1 32 p - 1)) 29 p v := by
      unfold bback
      simp only
      rw [hv]
    rw [hv2] at hQ
    repeat' first
      | refine xV.step rfl ?_
      | refine xV.mget rfl rfl ?_
      | refine xV.mi (j := p) rfl rfl rfl hp ?_
    exact xV.iret rfl rfl rfl hQ
  refine xV.br rfl (fun h1 => ?_) (fun h1 => ?_)
  · refine xV.step rfl ?_
    refine xV.step rfl ?_
    exact fin 3 (if_pos h1)
  · repeat' first
      | exact fin _ (if_neg h1)
      | refine xV.step rfl ?_
      | refine xV.mget rfl rfl ?_
      | refine xV.mi (j := p) rfl rfl rfl hp ?_
theorem c_M_backward {p b c l q K : Nat} (hp : p < 16) (hb : A.2.1 32 p = nI (b + 1)) (hb5 : b < 5) (hc : A.2.1 37 (5 * p + b) = nI c) (hc8 : c < 8) (hl : A.2.1 9 c = nI l) (hl2 : l < 64) (hq : A.2.1 40 (5 * p + b) = nI q) (hq2 : q < 64) (hK : A.1 25 = nI K) (hK2 : K ≤ 24) (hr : A.2.1 30 p = 1 → mhas A K (A.2.2 16 (64 * c + q)) = true) :
    xV D N0 mM_backward (d + 3) 0 (xargs 6 [.ref m, .int (nI p)]) [] (hm m A h) (fun o u => (bmay A p b c l q ∧ ¬ A.2.1 9 c + 1 < 64 ∧ o = .returned (some (.int 0)) ∧ u = hm m (mF A 0 2) h) ∨
      (bmay A p b c l q ∧ A.2.1 9 c + 1 < 64 ∧ o = .returned (some (.int ((bback (bend A p c l q K) p).2.1 29 p))) ∧ u = hm m (bback (bend A p c l q K) p) h) ∨
      (¬ bmay A p b c l q ∧ o = .returned (some (.int ((bback A p).2.1 29 p))) ∧ u = hm m (bback A p) h)) := by
  show xV D N0 mM_backward (d + 3) 0 [some (.ref m), some (.int (nI p)), none, none, none, none] _ _ _
  repeat' first
    | refine xV.step rfl ?_
    | refine xV.mget rfl rfl ?_
    | refine xV.mi (j := p) rfl rfl rfl hp ?_
  have hix : (5 : Int32) * nI p + A.2.1 32 p - 1 = nI (5 * p + b) := by
    rw [hb, xn_ix5, show 5 * p + (b + 1) = (5 * p + b) + 1 by omega, xn_pred]
  rw [hix]
  refine xV.mi (n := 80) (j := 5 * p + b) rfl rfl rfl (by omega) ?_
  rw [hc]
  refine xV.step rfl ?_
  show xV D N0 mM_backward (d + 3) 20 [some (.ref m), some (.int (nI p)), some (.int (nI (5 * p + b))), some (.int (nI c)), none, none] _ _ _
  repeat' first
    | refine xV.step rfl ?_
    | refine xV.mget rfl rfl ?_
  refine xV.mi (n := 80) (j := 5 * p + b) rfl rfl rfl (by omega) ?_
  rw [hq]
  refine xV.step rfl ?_
  show xV D N0 mM_backward (d + 3) 28 [some (.ref m), some (.int (nI p)), some (.int (nI (5 * p + b))), some (.int (nI c)), some (.int (nI q)), none] _ _ _
  have no : ¬ bmay A p b c l q → xV D N0 mM_backward (d + 3) 77 [some (.ref m), some (.int (nI p)), some (.int (nI (5 * p + b))), some (.int (nI c)), some (.int (nI q)), none] [] (hm m A h) (fun o u => (bmay A p b c l q ∧ ¬ A.2.1 9 c + 1 < 64 ∧ o = .returned (some (.int 0)) ∧ u = hm m (mF A 0 2) h) ∨
      (bmay A p b c l q ∧ A.2.1 9 c + 1 < 64 ∧ o = .returned (some (.int ((bback (bend A p c l q K) p).2.1 29 p))) ∧ u = hm m (bback (bend A p c l q K) p) h) ∨
      (¬ bmay A p b c l q ∧ o = .returned (some (.int ((bback A p).2.1 29 p))) ∧ u = hm m (bback A p) h)) := fun hz => by
    refine xV.step rfl ?_
    refine xV.step rfl ?_
    show xV D N0 mM_backward (d + 3) 80 [some (.ref m), some (.int (nI p)), some (.int (nI (5 * p + b))), some (.int (nI c)), some (.int (nI q)), some (.int 0)] _ _ _
    refine xV.step rfl ?_
    refine xV.br rfl (fun h2 => ?_) (fun h2 => absurd rfl h2)
    refine xV.step rfl ?_
    refine xV.br rfl (fun h2 => ?_) (fun h2 => absurd rfl h2)
    exact c_M_back_tail hp rfl (Or.inr (Or.inr ⟨hz, rfl, rfl⟩)) rfl
  have yes : bmay A p b c l q → xV D N0 mM_backward (d + 3) 73 [some (.ref m), some (.int (nI p)), some (.int (nI (5 * p + b))), some (.int (nI c)), some (.int (nI q)), none] [] (hm m A h) (fun o u => (bmay A p b c l q ∧ ¬ A.2.1 9 c + 1 < 64 ∧ o = .returned (some (.int 0)) ∧ u = hm m (mF A 0 2) h) ∨
      (bmay A p b c l q ∧ A.2.1 9 c + 1 < 64 ∧ o = .returned (some (.int ((bback (bend A p c l q K) p).2.1 29 p))) ∧ u = hm m (bback (bend A p c l q K) p) h) ∨
      (¬ bmay A p b c l q ∧ o = .returned (some (.int ((bback A p).2.1 29 p))) ∧ u = hm m (bback A p) h)) := fun hz => by
    refine xV.step rfl ?_
    refine xV.step rfl ?_
    refine xV.step rfl ?_
    show xV D N0 mM_backward (d + 3) 80 [some (.ref m), some (.int (nI p)), some (.int (nI (5 * p + b))), some (.int (nI c)), some (.int (nI q)), some (.int 1)] _ _ _
    refine xV.step rfl ?_
    refine xV.br rfl (fun h2 => absurd h2 (by decide)) (fun h2 => ?_)
    repeat' refine xV.step rfl ?_
    refine xV.cM rfl rfl g_mM_backward_205 mM_hasState_ok (Nat.le_of_ble_eq_true rfl) (Nat.le_of_ble_eq_true rfl) (c_M_hasState hc8) ?_
    refine xV.br rfl (fun h3 => ?_) (fun h3 => ?_)
    · repeat' refine xV.step rfl ?_
      refine xV.mput rfl rfl rfl (Nat.le_of_ble_eq_true rfl) ?_
      repeat' refine xV.step rfl ?_
      exact xV.iret rfl rfl rfl (Or.inl ⟨hz, of_decide_eq_false (xB_f h3), rfl, rfl⟩)
    have h3' := of_decide_eq_true (xB_t h3)
    have hl3 : l < 63 := lat_lt hl2 (by rw [← hl]; exact h3')
    refine xV.step rfl ?_
    refine xV.br rfl (fun h2 => absurd h2 (by decide)) (fun h2 => ?_)
    repeat' first
      | refine xV.step rfl ?_
      | refine xV.mget rfl rfl ?_
      | refine xV.mi (j := p) rfl rfl rfl hp ?_
      | refine xV.si (j := p) rfl rfl rfl rfl hp ?_
    refine xV.br rfl (fun h4 => ?_) (fun h4 => ?_)
    · have e : bend A p c l q K = mkeep (mI A 33 p (A.2.1 33 p + 1)) c l q K := if_pos h4
      repeat' refine xV.step rfl ?_
      refine xV.cM rfl rfl g_mM_backward_222 mM_keepPromise_ok (Nat.le_of_ble_eq_true rfl) (Nat.le_of_ble_eq_true rfl) (c_M_keepPromise (A := mI A 33 p (A.2.1 33 p + 1)) hc8 hl hl3 hq2 hK hK2 (hr h4)) ?_
      refine xV.step rfl ?_
      exact c_M_back_tail hp rfl (Or.inr (Or.inl ⟨hz, h3', by rw [e], by rw [e]⟩)) rfl
    · have e : bend A p c l q K = mdrop (mI A 33 p (A.2.1 33 p + 1)) c l q := if_neg h4
      repeat' refine xV.step rfl ?_
      refine xV.cM rfl rfl g_mM_backward_226 mM_dropPromise_ok (Nat.le_of_ble_eq_true rfl) (Nat.le_of_ble_eq_true rfl) (c_M_dropPromise (A := mI A 33 p (A.2.1 33 p + 1)) hc8 hl hl3 hq2) ?_
      exact c_M_back_tail hp rfl (Or.inr (Or.inl ⟨hz, h3', by rw [e], by rw [e]⟩)) rfl
  repeat' first
    | refine xV.step rfl ?_
    | refine xV.mget rfl rfl ?_
    | refine xV.mi (j := c) rfl rfl rfl hc8 ?_
  refine xV.br rfl (fun h1 => ?_) (fun h1 => no (fun z => h1 z.1))
  repeat' refine xV.step rfl ?_
  refine xV.cM rfl rfl g_mM_backward_182 mM_now_ok (Nat.le_of_ble_eq_true rfl) (Nat.le_of_ble_eq_true rfl) (c_M_now hc8 hl hl2) ?_
  repeat' refine xV.step rfl ?_
  refine xV.cS rfl rfl g_mM_backward_218 mM_hasBit_ok (Nat.le_of_ble_eq_true rfl) (Nat.le_of_ble_eq_true rfl) c_M_hasBit ?_
  refine xV.br rfl (fun h2 => no (fun z => by have := z.2.1; rw [show mbit (mnow A c l) (nI q) = false from xB_f h2] at this; cases this)) (fun h2 => ?_)
  have h2' : mbit (mnow A c l) (nI q) = true := xB_t h2
  repeat' first
    | refine xV.step rfl ?_
    | refine xV.mget rfl rfl ?_
    | refine xV.mi (j := p) rfl rfl rfl hp ?_
  refine xV.br rfl (fun h3 => yes ⟨h1, h2', Or.inl h3⟩) (fun h3 => ?_)
  repeat' first
    | refine xV.step rfl ?_
    | refine xV.mget rfl rfl ?_
  refine xV.mi (n := 80) (j := 5 * p + b) rfl rfl rfl (by omega) ?_
  repeat' first
    | refine xV.step rfl ?_
    | refine xV.mget rfl rfl ?_
  exact xV.br rfl (fun h4 => no (fun z => z.2.2.elim (fun y => h3 y) (fun y => y h4))) (fun h4 => yes ⟨h1, h2', Or.inr h4⟩)
end X32
end
section
/- Part 33: the model: step, state. -/
def tState (A : MS) (c s w : Int32) (j : Nat) : Int32 := if isc A c = true ∧ (0 ≤ s ∧ s ≤ A.2.1 9 j) then (if 0 ≤ w ∧ w ≤ 3 then 0 else 2) else 1
def stN (A : MS) (j s : Nat) : Nat → Int32
  | 0 => 0
  | k + 1 => if mbit (A.2.2 11 (64 * j + s)) (nI k) = true then stN A j s k + 1 else stN A j s k
def stS (A : MS) (j s : Nat) : Nat → Int32
  | 0 => 0
  | k + 1 => if mbit (A.2.2 11 (64 * j + s)) (nI k) = true then stS A j s k + A.2.1 15 (64 * j + k) else stS A j s k
def rState (A : MS) (j s P : Nat) (w : Int32) : Int32 := if w < 2 then A.2.1 10 (2 * (64 * j + s) + w.toNatClampNeg) else if w = 2 then stN A j s P else stS A j s P
theorem stN_F (A : MS) (i : Nat) (x : Int32) (j s : Nat) : ∀ k, stN (mF A i x) j s k = stN A j s k
  | 0 => rfl
  | k + 1 => by
    show (if mbit (A.2.2 11 (64 * j + s)) (nI k) = true then stN (mF A i x) j s k + 1 else stN (mF A i x) j s k) = (if mbit (A.2.2 11 (64 * j + s)) (nI k) = true then stN A j s k + 1 else stN A j s k)
    rw [stN_F A i x j s k]
theorem stS_F (A : MS) (i : Nat) (x : Int32) (j s : Nat) : ∀ k, stS (mF A i x) j s k = stS A j s k
  | 0 => rfl
  | k + 1 => by
    show (if mbit (A.2.2 11 (64 * j + s)) (nI k) = true then stS (mF A i x) j s k + A.2.1 15 (64 * j + k) else stS (mF A i x) j s k) = (if mbit (A.2.2 11 (64 * j + s)) (nI k) = true then stS A j s k + A.2.1 15 (64 * j + k) else stS A j s k)
    rw [stS_F A i x j s k]
theorem rState_F (A : MS) (i : Nat) (x : Int32) (j s P : Nat) (w : Int32) : rState (mF A i x) j s P w = rState A j s P w := by
  unfold rState
  rw [stN_F, stS_F]
  rfl
section X33
variable {D : va_G} {N0 : Nat} {d m : Nat} {h : XH} {A : MS}
theorem c_M_step {j : Nat} {p : Int32} {Q : Outcome → XH → Prop} (hp : isp A p = true → p = nI j ∧ j < 16) (h1 : tStep A p j ≠ 0 → Q (.returned (some (.int 0))) (hm m (mF A 0 (tStep A p j)) h))
    (hf : isp A p = true → tStep A p j = 0 → A.2.1 29 j = 0 → xV D N0 mM_forward (d + 3) 0 (xargs 6 [.ref m, .int (nI j)]) [] (hm m (mF A 0 0) h) (fun o u => (∃ r : Int32, o = .returned (some (.int r))) ∧ Q o u))
    (hb : isp A p = true → tStep A p j = 0 → A.2.1 29 j ≠ 0 → xV D N0 mM_backward (d + 3) 0 (xargs 6 [.ref m, .int (nI j)]) [] (hm m (mF A 0 0) h) (fun o u => (∃ r : Int32, o = .returned (some (.int r))) ∧ Q o u)) :
    xV D N0 mM_step (d + 4) 0 (xargs 2 [.ref m, .int p]) [] (hm m A h) Q := by
  have tl : ∀ t : Int32, t = 1 ∨ t = 2 → tStep A p j = t → xV D N0 mM_step (d + 4) 34 (xargs 2 [.ref m, .int p]) [.int t, .ref m] (hm m A h) Q := by
    intro t ht hT
    have h0 : t ≠ 0 ∧ ¬ t ≤ 0 := by rcases ht with rfl | rfl <;> exact ⟨by decide, by decide⟩
    refine xV.mput rfl rfl rfl (Nat.le_of_ble_eq_true rfl) ?_
    repeat' refine xV.step rfl ?_
    refine xV.mget (v := .int t) rfl rfl ?_
    refine xV.br rfl (fun h2 => absurd h2 h0.2) (fun h2 => ?_)
    repeat' refine xV.step rfl ?_
    have := h1 (by rw [hT]; exact h0.1)
    rw [hT] at this
    exact xV.iret rfl rfl rfl this
  repeat' first
    | refine xV.step rfl ?_
    | refine xV.mget rfl rfl ?_
  refine xV.cS rfl rfl g_mM_step_140 mM_isIn_ok (Nat.le_of_ble_eq_true rfl) (Nat.le_of_ble_eq_true rfl) c_M_isIn ?_
  refine xV.br rfl (fun h2 => ?_) (fun h2 => ?_)
  · refine xV.step rfl ?_
    refine xV.step rfl ?_
    exact tl 1 (Or.inl rfl) (by unfold tStep; rw [if_neg (by rw [show isp A p = false from xB_f h2]; decide)])
  have h2' : isp A p = true := xB_t h2
  obtain ⟨rfl, hj⟩ := hp h2'
  repeat' first
    | refine xV.step rfl ?_
    | refine xV.mget rfl rfl ?_
    | refine xV.mi (j := j) rfl rfl rfl hj ?_
  refine xV.br rfl (fun h3 => ?_) (fun h3 => ?_)
  · refine xV.step rfl ?_
    refine xV.step rfl ?_
    exact tl 2 (Or.inr rfl) (by unfold tStep; rw [if_pos h2', if_pos h3])
  have hT : tStep A (nI j) j = 0 := by unfold tStep; rw [if_pos h2', if_neg h3]
  refine xV.step rfl ?_
  refine xV.mput rfl rfl rfl (Nat.le_of_ble_eq_true rfl) ?_
  repeat' refine xV.step rfl ?_
  refine xV.mget (v := .int 0) rfl rfl ?_
  refine xV.br rfl (fun h9 => ?_) (fun h9 => absurd (by decide) h9)
  repeat' first
    | refine xV.step rfl ?_
    | refine xV.mget rfl rfl ?_
    | refine xV.mi (j := j) rfl rfl rfl hj ?_
  refine xV.br rfl (fun h4 => ?_) (fun h4 => ?_)
  · repeat' refine xV.step rfl ?_
    refine xV.callV (q := ("ChannelNetModel", xTM, 48)) rfl rfl (hm_get0 m _ h) rfl g_mM_step_263 mM_forward_ok (Nat.le_of_ble_eq_true rfl) (Nat.le_of_ble_eq_true rfl) (hf h2' hT h4) ?_ ?_
    · rintro v u ⟨⟨r, e⟩, hq⟩
      cases e
      repeat' refine xV.step rfl ?_
      exact xV.iret rfl rfl rfl hq
    · rintro a u ⟨⟨r, e⟩, hq⟩
      cases e
  · repeat' refine xV.step rfl ?_
    refine xV.callV (q := ("ChannelNetModel", xTM, 48)) rfl rfl (hm_get0 m _ h) rfl g_mM_step_267 mM_backward_ok (Nat.le_of_ble_eq_true rfl) (Nat.le_of_ble_eq_true rfl) (hb h2' hT h4) ?_ ?_
    · rintro v u ⟨⟨r, e⟩, hq⟩
      cases e
      exact xV.iret rfl rfl rfl hq
    · rintro a u ⟨⟨r, e⟩, hq⟩
      cases e
theorem c_M_state_loop {j s P : Nat} {w : Int32} (hj : j < 8) (hs : s < 64) (hP : A.2.1 13 j = nI P) (hP2 : P ≤ 64) {Q : Outcome → XH → Prop} (hw : ¬ w < 2) (hQ : Q (.returned (some (.int (rState A j s P w)))) (hm m A h)) :
    ∀ n k y, k + n = P → xV D N0 mM_state (d + 3) 79 [some (.ref m), some (.int (nI j)), some (.int (nI s)), some (.int w), some (.int (stN A j s k)), some (.int (stS A j s k)), some (.int (nI k)), y] [] (hm m A h) Q := by
  intro n
  induction n with
  | zero =>
    intro k y hk
    obtain rfl : k = P := by omega
    repeat' first
      | refine xV.step rfl ?_
      | refine xV.mget rfl rfl ?_
      | refine xV.mi (j := j) rfl rfl rfl hj ?_
    rw [hP]
    refine xV.br rfl (fun h1 => ?_) (fun h1 => absurd ((xn_le (by omega) (by omega)).mpr (Nat.le_refl _)) h1)
    repeat' refine xV.step rfl ?_
    unfold rState at hQ
    rw [if_neg hw] at hQ
    refine xV.br rfl (fun h2 => ?_) (fun h2 => ?_)
    · rw [if_pos h2] at hQ
      repeat' refine xV.step rfl ?_
      exact xV.iret rfl rfl rfl hQ
    · rw [if_neg h2] at hQ
      repeat' refine xV.step rfl ?_
      exact xV.iret rfl rfl rfl hQ
  | succ n ih =>
    intro k y hk
    repeat' first
      | refine xV.step rfl ?_
      | refine xV.mget rfl rfl ?_
      | refine xV.mi (j := j) rfl rfl rfl hj ?_
    rw [hP]
    refine xV.br rfl (fun h1 => ?_) (fun h1 => ?_)
    · rw [xn_le (by omega) (by omega)] at h1
      omega
    repeat' first
      | refine xV.step rfl ?_
      | refine xV.mget rfl rfl ?_
      | refine xV.mj' (n := 512) (j := 64 * j + s) rfl rfl rfl (xn_ix j s) (by omega) ?_
    refine xV.cS rfl rfl g_mM_state_218 mM_hasBit_ok (Nat.le_of_ble_eq_true rfl) (Nat.le_of_ble_eq_true rfl) c_M_hasBit ?_
    have ih := fun y => ih (k + 1) y (by omega)
    rw [← xn_succ] at ih
    unfold stN stS at ih
    refine xV.step rfl ?_
    cases hbt : mbit (A.2.2 11 (64 * j + s)) (nI k) with
    | false =>
      rw [hbt] at ih
      simp only [Bool.false_eq_true, if_false] at ih
      show xV D N0 mM_state (d + 3) 108 [some (.ref m), some (.int (nI j)), some (.int (nI s)), some (.int w), some (.int (stN A j s k)), some (.int (stS A j s k)), some (.int (nI k)), some (.int (xB false))] _ _ _
      refine xV.step rfl ?_
      refine xV.br rfl (fun h2 => ?_) (fun h2 => absurd rfl h2)
      refine xV.step rfl ?_
      refine xV.step rfl ?_
      show xV D N0 mM_state (d + 3) 124 [some (.ref m), some (.int (nI j)), some (.int (nI s)), some (.int w), some (.int (stN A j s k)), some (.int (stS A j s k)), some (.int (nI k)), some (.int (xB false))] _ _ _
      refine xV.step rfl ?_
      refine xV.br rfl (fun h2 => ?_) (fun h2 => absurd rfl h2)
      refine xV.step rfl ?_
      refine xV.step rfl ?_
      refine xV.step rfl ?_
      refine xV.step rfl ?_
      exact ih _
    | true =>
      rw [hbt] at ih
      simp only [if_true] at ih
      show xV D N0 mM_state (d + 3) 108 [some (.ref m), some (.int (nI j)), some (.int (nI s)), some (.int w), some (.int (stN A j s k)), some (.int (stS A j s k)), some (.int (nI k)), some (.int (xB true))] _ _ _
      refine xV.step rfl ?_
      refine xV.br rfl (fun h2 => absurd h2 (by decide)) (fun h2 => ?_)
      refine xV.step rfl ?_
      refine xV.step rfl ?_
      refine xV.step rfl ?_
      refine xV.step rfl ?_
      refine xV.step rfl ?_
      show xV D N0 mM_state (d + 3) 124 [some (.ref m), some (.int (nI j)), some (.int (nI s)), some (.int w), some (.int (stN A j s k + 1)), some (.int (stS A j s k)), some (.int (nI k)), some (.int (xB true))] _ _ _
      refine xV.step rfl ?_
      refine xV.br rfl (fun h2 => absurd h2 (by decide)) (fun h2 => ?_)
      repeat' first
        | refine xV.step rfl ?_
        | refine xV.mget rfl rfl ?_
      refine xV.mi' (n := 512) (j := 64 * j + k) rfl rfl rfl (xn_ix j k) (by omega) ?_
      refine xV.step rfl ?_
      refine xV.step rfl ?_
      refine xV.step rfl ?_
      refine xV.step rfl ?_
      refine xV.step rfl ?_
      exact ih _
theorem c_M_state {j q P : Nat} {c s w : Int32} (hc : isc A c = true → c = nI j ∧ j < 8 ∧ A.2.1 13 j = nI P ∧ P ≤ 64) (hk : isc A c = true → 0 ≤ s ∧ s ≤ A.2.1 9 j → s = nI q ∧ q < 64) : xV D N0 mM_state (d + 3) 0 (xargs 8 [.ref m, .int c, .int s, .int w]) [] (hm m A h) (xTw (tState A c s w j) (.returned (some (.int 0))) (hm m (mF A 0 (tState A c s w j)) h) (.returned (some (.int (rState A j q P w)))) (hm m (mF A 0 0) h)) := by
  have tl : ∀ t : Int32, t = 1 ∨ t = 2 → tState A c s w j = t → xV D N0 mM_state (d + 3) 41 [some (.ref m), some (.int c), some (.int s), some (.int w), none, none, none, none] [.int t, .ref m] (hm m A h) (xTw (tState A c s w j) (.returned (some (.int 0))) (hm m (mF A 0 (tState A c s w j)) h) (.returned (some (.int (rState A j q P w)))) (hm m (mF A 0 0) h)) := by
    intro t ht hT
    have h0 : t ≠ 0 ∧ ¬ t ≤ 0 := by rcases ht with rfl | rfl <;> exact ⟨by decide, by decide⟩
    refine xV.mput rfl rfl rfl (Nat.le_of_ble_eq_true rfl) ?_
    repeat' refine xV.step rfl ?_
    refine xV.mget (v := .int t) rfl rfl ?_
    refine xV.br rfl (fun h2 => absurd h2 h0.2) (fun h2 => ?_)
    repeat' refine xV.step rfl ?_
    exact xV.iret rfl rfl rfl (Or.inl ⟨by rw [hT]; exact h0.1, rfl, by rw [hT]⟩)
  have no : ¬ (isc A c = true ∧ (0 ≤ s ∧ s ≤ A.2.1 9 j)) → xV D N0 mM_state (d + 3) 23 [some (.ref m), some (.int c), some (.int s), some (.int w), none, none, none, none] [.ref m] (hm m A h) (xTw (tState A c s w j) (.returned (some (.int 0))) (hm m (mF A 0 (tState A c s w j)) h) (.returned (some (.int (rState A j q P w)))) (hm m (mF A 0 0) h)) := fun hz => by
    refine xV.step rfl ?_
    refine xV.step rfl ?_
    exact tl 1 (Or.inl rfl) (by unfold tState; rw [if_neg hz])
  show xV D N0 mM_state (d + 3) 0 [some (.ref m), some (.int c), some (.int s), some (.int w), none, none, none, none] _ _ _
  repeat' refine xV.step rfl ?_
  refine xV.cM rfl rfl g_mM_state_196 mM_isChannel_ok (Nat.le_of_ble_eq_true rfl) (Nat.le_of_ble_eq_true rfl) c_M_isChannel' ?_
  refine xV.br rfl (fun h1 => no (fun z => by rw [xB_f h1] at z; cases z.1)) (fun h1 => ?_)
  have h1' : isc A c = true := xB_t h1
  obtain ⟨rfl, hj, hP, hP2⟩ := hc h1'
  repeat' first
    | refine xV.step rfl ?_
    | refine xV.mget rfl rfl ?_
    | refine xV.mi (j := j) rfl rfl rfl hj ?_
  refine xV.cS rfl rfl g_mM_state_140 mM_isIn_ok (Nat.le_of_ble_eq_true rfl) (Nat.le_of_ble_eq_true rfl) c_M_isIn ?_
  refine xV.br rfl (fun h2 => no (fun z => of_decide_eq_false (xB_f h2) z.2)) (fun h2 => ?_)
  have h2' := of_decide_eq_true (xB_t h2)
  obtain ⟨rfl, hq2⟩ := hk h1' h2'
  repeat' refine xV.step rfl ?_
  refine xV.cS rfl rfl g_mM_state_140 mM_isIn_ok (Nat.le_of_ble_eq_true rfl) (Nat.le_of_ble_eq_true rfl) c_M_isIn ?_
  refine xV.br rfl (fun h3 => ?_) (fun h3 => ?_)
  · refine xV.step rfl ?_
    refine xV.step rfl ?_
    exact tl 2 (Or.inr rfl) (by unfold tState; rw [if_pos ⟨h1', h2'⟩, if_neg (of_decide_eq_false (xB_f h3))])
  have h3' := of_decide_eq_true (xB_t h3)
  have hT : tState A (nI j) (nI q) w j = 0 := by unfold tState; rw [if_pos ⟨h1', h2'⟩, if_pos h3']
  obtain ⟨wn, hw4, rfl⟩ : ∃ wn, wn < 4 ∧ w = nI wn := by
    obtain ⟨z1, z2⟩ := h3'
    rw [Int32.le_iff_toInt_le] at z1 z2
    have e0 : (0 : Int32).toInt = 0 := rfl
    have e5 : (3 : Int32).toInt = 3 := rfl
    exact xn_of (by omega) (by omega) (by omega)
  refine xV.step rfl ?_
  refine xV.mput rfl rfl rfl (Nat.le_of_ble_eq_true rfl) ?_
  repeat' refine xV.step rfl ?_
  refine xV.mget (v := .int 0) rfl rfl ?_
  refine xV.br rfl (fun h9 => ?_) (fun h9 => absurd (by decide) h9)
  repeat' refine xV.step rfl ?_
  refine xV.br rfl (fun h4 => ?_) (fun h4 => ?_)
  · have h4' : ¬ nI wn < 2 := by simp only [Int32.lt_iff_toInt_lt, Int32.le_iff_toInt_le] at *; omega
    refine xV.step rfl ?_
    refine xV.step rfl ?_
    refine xV.step rfl ?_
    refine xV.step rfl ?_
    refine xV.step rfl ?_
    refine xV.step rfl ?_
    exact c_M_state_loop (A := mF A 0 0) hj hq2 hP hP2 h4' (Or.inr ⟨hT, by rw [rState_F], rfl⟩) P 0 none (by omega)
  · have h4' : nI wn < 2 := by simp only [Int32.lt_iff_toInt_lt, Int32.le_iff_toInt_le] at *; omega
    have hw2 : wn < 2 := by
      rw [show (2 : Int32) = nI 2 from rfl, xn_lt (by omega) (by omega)] at h4'
      exact h4'
    repeat' first
      | refine xV.step rfl ?_
      | refine xV.mget rfl rfl ?_
    refine xV.cS rfl rfl g_mM_state_178 mM_cell_ok (Nat.le_of_ble_eq_true rfl) (Nat.le_of_ble_eq_true rfl) c_M_cell ?_
    refine xV.mi' (n := 1024) rfl rfl rfl (xn_cell j q wn) (by omega) ?_
    refine xV.iret rfl rfl rfl (Or.inr ⟨hT, ?_, rfl⟩)
    unfold rState
    rw [if_pos h4', xn_clamp (by omega)]
    rfl
end X33
end
section
/- Part 34: the model: grow. -/
def g1 (o : Nat → Nat) (p : MS × Int32) (j : Nat) : MS × Int32 := if mmay p.1 j = true ∧ p.1.2.1 5 (o j) ≠ 0 then (mpun p.1 j (o j), p.2 + 1) else p
def gin (o : Nat → Nat) (p : MS × Int32) (j : Nat) : Nat → MS × Int32
  | 0 => p
  | n + 1 => gin o (g1 o p j) (j + 1) n
def gout (o : Nat → Nat) (C : Nat) (p : MS × Int32) : Nat → MS × Int32
  | 0 => p
  | n + 1 => gout o C (gin o (mF p.1 6 (p.1.1 6 + 1), p.2) 0 C) n
theorem g1_F (o : Nat → Nat) (p : MS × Int32) (j : Nat) : (g1 o p j).1.1 = p.1.1 := by unfold g1; split <;> rfl
theorem g1_m (o : Nat → Nat) (p : MS × Int32) (j x : Nat) : moth (g1 o p j).1 x = moth p.1 x := by unfold g1; split <;> rfl
theorem gin_F (o : Nat → Nat) : ∀ n (p : MS × Int32) (j : Nat), (gin o p j n).1.1 = p.1.1
  | 0, _, _ => rfl
  | n + 1, p, j => by rw [gin, gin_F o n, g1_F]
theorem gin_m (o : Nat → Nat) (x : Nat) : ∀ n (p : MS × Int32) (j : Nat), moth (gin o p j n).1 x = moth p.1 x
  | 0, _, _ => rfl
  | n + 1, p, j => by rw [gin, gin_m o x n, g1_m]
def tGrow (n : Int32) : Int32 := if 0 ≤ n ∧ n ≤ 1000 then 0 else 1
section X34
variable {D : va_G} {N0 : Nat} {d m : Nat} {h : XH}
theorem c_M_grow_in {o : Nat → Nat} {C : Nat} (hC2 : C ≤ 8) {N i : Int32} {Q : Outcome → XH → Prop} : ∀ n j (A : MS) (c : Int32), j + n = C → A.1 7 = nI C → (∀ j, j < C → moth A j = nI (o j) ∧ o j < 6) →
    xV D N0 mM_grow (d + 3) 96 [some (.ref m), some (.int N), some (.int (gin o (A, c) j n).2), some (.int i), some (.int (nI C))] [] (hm m (gin o (A, c) j n).1 h) Q →
    xV D N0 mM_grow (d + 3) 49 [some (.ref m), some (.int N), some (.int c), some (.int i), some (.int (nI j))] [] (hm m A h) Q := by
  intro n
  induction n with
  | zero =>
    intro j A c hj hC ho k
    obtain rfl : j = C := by omega
    repeat' refine xV.step rfl ?_
    refine xV.mget rfl rfl ?_
    rw [hC]
    refine xV.br rfl (fun h1 => k) (fun h1 => ?_)
    rw [xn_le (by omega) (by omega)] at h1
    omega
  | succ n ih =>
    intro j A c hj hC ho k
    repeat' refine xV.step rfl ?_
    refine xV.mget rfl rfl ?_
    rw [hC]
    refine xV.br rfl (fun h1 => ?_) (fun h1 => ?_)
    · rw [xn_le (by omega) (by omega)] at h1
      omega
    obtain ⟨hm1, hm2⟩ := ho j (by omega)
    have nxt : ∀ (A' : MS) (c' : Int32), g1 o (A, c) j = (A', c') → xV D N0 mM_grow (d + 3) 90 [some (.ref m), some (.int N), some (.int c'), some (.int i), some (.int (nI j))] [] (hm m A' h) Q := by
      intro A' c' e
      have e1 := g1_F o (A, c) j
      have e2 := g1_m o (A, c) j
      rw [e] at e1 e2
      refine xV.step rfl ?_
      refine xV.step rfl ?_
      show xV D N0 mM_grow (d + 3) 49 [some (.ref m), some (.int N), some (.int c'), some (.int i), some (.int (nI j + 1))] [] _ _
      rw [xn_succ]
      refine ih (j + 1) A' c' (by omega) (by rw [e1]; exact hC) (fun x hx => by rw [e2]; exact ho x hx) ?_
      rw [gin, e] at k
      exact k
    repeat' refine xV.step rfl ?_
    refine xV.cM rfl rfl g_mM_grow_273 mM_mayPunish_ok (Nat.le_of_ble_eq_true rfl) (Nat.le_of_ble_eq_true rfl) (c_M_mayPunish (by omega)) ?_
    refine xV.br rfl (fun h2 => ?_) (fun h2 => ?_)
    · exact nxt A c (by unfold g1; rw [if_neg]; exact fun z => by rw [show mmay A j = true from z.1] at h2; exact absurd h2 (by decide))
    repeat' first
      | refine xV.step rfl ?_
      | refine xV.mget rfl rfl ?_
    refine xV.cM rfl rfl g_mM_grow_270 mM_other_ok (Nat.le_of_ble_eq_true rfl) (Nat.le_of_ble_eq_true rfl) (c_M_other (by omega)) ?_
    rw [hm1]
    refine xV.mz (n := 6) rfl rfl rfl hm2 ?_
    refine xV.br rfl (fun h3 => ?_) (fun h3 => ?_)
    · exact nxt A c (by unfold g1; rw [if_neg]; exact fun z => z.2 h3)
    repeat' refine xV.step rfl ?_
    refine xV.cM rfl rfl g_mM_grow_276 mM_punished_ok (Nat.le_of_ble_eq_true rfl) (Nat.le_of_ble_eq_true rfl) (c_M_punished (by omega) hm1 hm2) ?_
    refine xV.step rfl ?_
    exact nxt (mpun A j (o j)) (c + 1) (by unfold g1; rw [if_pos]; exact ⟨xB_t h2, h3⟩)
theorem c_M_grow_out {o : Nat → Nat} {C N : Nat} (hC2 : C ≤ 8) (hN : N ≤ 1000) : ∀ n i (A : MS) (c : Int32) (x : Option Value), i + n = N → A.1 7 = nI C → A.1 0 = 0 → (∀ j, j < C → moth A j = nI (o j) ∧ o j < 6) →
    xV D N0 mM_grow (d + 3) 24 [some (.ref m), some (.int (nI N)), some (.int c), some (.int (nI i)), x] [] (hm m A h) (xEq (.returned (some (.int (gout o C (A, c) n).2))) (hm m (gout o C (A, c) n).1 h)) := by
  intro n
  induction n with
  | zero =>
    intro i A c x hi hC h0 ho
    obtain rfl : i = N := by omega
    repeat' refine xV.step rfl ?_
    refine xV.br rfl (fun h1 => ?_) (fun h1 => ?_)
    · repeat' refine xV.step rfl ?_
      exact xV.iret rfl rfl rfl ⟨rfl, rfl⟩
    · rw [xn_le (by omega) (by omega)] at h1
      omega
  | succ n ih =>
    intro i A c x hi hC h0 ho
    repeat' refine xV.step rfl ?_
    refine xV.br rfl (fun h1 => ?_) (fun h1 => ?_)
    · rw [xn_le (by omega) (by omega)] at h1
      omega
    repeat' refine xV.step rfl ?_
    refine xV.mget rfl rfl ?_
    rw [h0]
    refine xV.br rfl (fun h2 => ?_) (fun h2 => absurd rfl h2)
    refine xV.step rfl ?_
    refine xV.step rfl ?_
    refine xV.mget rfl rfl ?_
    refine xV.step rfl ?_
    refine xV.step rfl ?_
    refine xV.mput rfl rfl rfl (Nat.le_of_ble_eq_true rfl) ?_
    refine xV.step rfl ?_
    refine xV.step rfl ?_
    refine c_M_grow_in hC2 C 0 (mF A 6 (A.1 6 + 1)) c (by omega) hC ho ?_
    refine xV.step rfl ?_
    refine xV.step rfl ?_
    show xV D N0 mM_grow (d + 3) 24 [some (.ref m), some (.int (nI N)), some (.int (gin o (mF A 6 (A.1 6 + 1), c) 0 C).2), some (.int (nI i + 1)), some (.int (nI C))] [] _ _
    rw [xn_succ]
    refine ih (i + 1) _ _ _ (by omega) ?_ ?_ (fun x hx => ?_)
    · rw [gin_F]; exact hC
    · rw [gin_F]; exact h0
    · rw [gin_m]; exact ho x hx
theorem c_M_grow {A : MS} {o : Nat → Nat} {C N : Nat} (hC2 : C ≤ 8) {v : Int32} (hC : A.1 7 = nI C) (ho : ∀ j, j < C → moth A j = nI (o j) ∧ o j < 6) (hv : tGrow v = 0 → v = nI N ∧ N ≤ 1000) :
    xV D N0 mM_grow (d + 3) 0 (xargs 5 [.ref m, .int v]) [] (hm m A h) (xTw (tGrow v) (.returned (some (.int 0))) (hm m (mF A 0 (tGrow v)) h) (.returned (some (.int (gout o C (mF A 0 0, 0) N).2))) (hm m (gout o C (mF A 0 0, 0) N).1 h)) := by
  repeat' refine xV.step rfl ?_
  refine xV.cS rfl rfl g_mM_grow_140 mM_isIn_ok (Nat.le_of_ble_eq_true rfl) (Nat.le_of_ble_eq_true rfl) c_M_isIn ?_
  refine xV.br rfl (fun h1 => ?_) (fun h1 => ?_)
  · have hT : tGrow v = 1 := by unfold tGrow; rw [if_neg (of_decide_eq_false (xB_f h1))]
    have en : ∀ st : XL, xV D N0 mM_grow (d + 3) 102 (some (.ref m) :: some (.int v) :: some (.int 0) :: st) [] (hm m (mF A 0 1) h) (xTw (tGrow v) (.returned (some (.int 0))) (hm m (mF A 0 (tGrow v)) h) (.returned (some (.int (gout o C (mF A 0 0, 0) N).2))) (hm m (gout o C (mF A 0 0, 0) N).1 h)) := fun st => by
      refine xV.step rfl ?_
      exact xV.iret rfl rfl rfl (Or.inl ⟨by rw [hT]; decide, rfl, by rw [hT]⟩)
    repeat' first
      | refine xV.step rfl ?_
      | refine xV.mput rfl rfl rfl (Nat.le_of_ble_eq_true rfl) ?_
    refine xV.br rfl (fun h2 => en _) (fun h2 => ?_)
    repeat' refine xV.step rfl ?_
    refine xV.mget (v := .int 1) rfl rfl ?_
    exact xV.br rfl (fun h2 => absurd h2 (by decide)) (fun h2 => en _)
  · have hT : tGrow v = 0 := by unfold tGrow; rw [if_pos (of_decide_eq_true (xB_t h1))]
    obtain ⟨rfl, hN⟩ := hv hT
    have key := c_M_grow_out (D := D) (N0 := N0) (d := d) (m := m) (h := h) (o := o) hC2 hN N 0 (mF A 0 0) 0 none (by omega) hC rfl ho
    refine xV.step rfl ?_
    refine xV.step rfl ?_
    refine xV.mput rfl rfl rfl (Nat.le_of_ble_eq_true rfl) ?_
    refine xV.step rfl ?_
    refine xV.step rfl ?_
    refine xV.step rfl ?_
    refine xV.step rfl ?_
    exact xV.mono (fun o u hz => Or.inr ⟨hT, hz.1, hz.2⟩) key
end X34
end
section
/- Part 35: the search: its data; isProper, isBetter. -/
abbrev SP : Type := List (Nat × Int32 × Int64)
def RepW (w : Nat → Int32) : SP → Prop
  | [] => True
  | e :: T => w T.length = nI e.1 ∧ e.1 < 8 ∧ RepW w T
def RepR (r : Nat → Int32) : Nat → SP → Prop
  | _, [] => True
  | j, e :: B => r j = nI e.1 ∧ e.1 < 8 ∧ RepR r (j + 1) B
def RepT (w : Nat → Int32) (b : Nat → Int64) (v : Nat → Int32) (to : Int32) : SP → Prop
  | [] => v 0 = to
  | e :: T => w T.length = nI e.1 ∧ e.1 < 8 ∧ b T.length = e.2.2 ∧ v (T.length + 1) = e.2.1 ∧ RepT w b v to T
def RepB (F r : Nat → Int32) (B : SP) : Prop := F 28 = nI B.length ∧ B.length ≤ 5 ∧ RepR r 0 B ∧ ∀ e B', B = e :: B' → (F 30).toInt64 = e.2.2
def slex : SP → SP → Bool
  | e :: T, f :: B => if e.1 = f.1 then slex T B else decide (e.1 < f.1)
  | _, _ => false
def sbet (a : Int64) (T : SP) : SP → Bool
  | [] => true
  | f :: B => if a = f.2.2 then (if T.length = B.length + 1 then slex T (f :: B) else decide (T.length < B.length + 1)) else decide (a < f.2.2)
theorem RepT.w {w : Nat → Int32} {b : Nat → Int64} {v : Nat → Int32} {to : Int32} : ∀ {T : SP}, RepT w b v to T → RepW w T
  | [], _ => True.intro
  | _ :: _, h => ⟨h.1, h.2.1, h.2.2.2.2.w⟩
theorem xn_sub {a b : Nat} (h : b ≤ a) : nI a - nI b = nI (a - b) := by
  have e := xn_add (a - b) b
  rw [show a - b + b = a by omega] at e
  rw [← e]
  generalize nI (a - b) = x
  generalize nI b = y
  rw [Int32.add_sub_cancel]
section X35
variable {D : va_G} {N0 : Nat} {d m : Nat} {h : XH} {A : MS}
def ispr (f t a : Int32) : Bool := decide (f ≠ t ∧ 1 ≤ a ∧ a ≤ 10000000)
theorem c_M_isProper {f t a : Int32} : xV D N0 mM_isProper (d + 1) 0 (xargs 4 [.ref m, .int f, .int t, .int a]) [] h (xEq (.returned (some (.int (xB (ispr f t a))))) h) := by
  unfold ispr
  repeat' refine xV.step rfl ?_
  refine xV.br rfl (fun h1 => ?_) (fun h1 => ?_)
  · repeat' refine xV.step rfl ?_
    exact xV.iret rfl rfl rfl ⟨xB0 (fun z => z.1 h1), rfl⟩
  repeat' refine xV.step rfl ?_
  refine xV.cS rfl rfl g_mM_isProper_140 mM_isIn_ok (Nat.le_of_ble_eq_true rfl) (Nat.le_of_ble_eq_true rfl) c_M_isIn ?_
  refine xV.br rfl (fun h2 => ?_) (fun h2 => ?_)
  · repeat' refine xV.step rfl ?_
    exact xV.iret rfl rfl rfl ⟨xB0 (fun z => of_decide_eq_false (xB_f h2) z.2), rfl⟩
  · repeat' refine xV.step rfl ?_
    exact xV.iret rfl rfl rfl ⟨xB1 ⟨h1, of_decide_eq_true (xB_t h2)⟩, rfl⟩
theorem c_M_isBetter_loop {N : Nat} (hN : N ≤ 5) {a : Int64} : ∀ (T B : SP) (j : Nat), j + T.length = N → B.length = T.length → RepW (A.2.1 26) T → RepR (A.2.1 25) j B →
    xV D N0 mM_isBetter d 78 [some (.ref m), some (.int (nI N)), some (.long a), none, some (.int (nI j))] [] (hm m A h) (xEq (.returned (some (.int (xB (slex T B))))) (hm m A h)) := by
  intro T
  induction T with
  | nil =>
    intro B j hj hB hW hR
    have hj' : j = N := by simpa using hj
    subst hj'
    repeat' refine xV.step rfl ?_
    refine xV.br rfl (fun h1 => ?_) (fun h1 => ?_)
    · repeat' refine xV.step rfl ?_
      exact xV.iret rfl rfl rfl ⟨rfl, rfl⟩
    · rw [xn_le (by omega) (by omega)] at h1
      omega
  | cons e T ih =>
    intro B j hj hB hW hR
    cases B with
    | nil => cases hB
    | cons f B =>
    have hj' : j + T.length + 1 = N := by simpa [Nat.add_assoc] using hj
    obtain ⟨w1, w2, w3⟩ := hW
    obtain ⟨r1, r2, r3⟩ := hR
    have ix : nI N - 1 - nI j = nI T.length := by
      rw [show (1 : Int32) = nI 1 from rfl, xn_sub (by omega), xn_sub (by omega)]
      congr 1
      omega
    repeat' refine xV.step rfl ?_
    refine xV.br rfl (fun h1 => ?_) (fun h1 => ?_)
    · rw [xn_le (by omega) (by omega)] at h1
      omega
    repeat' first
      | refine xV.step rfl ?_
      | refine xV.mget rfl rfl ?_
    refine xV.mi' (n := 5) (j := T.length) rfl rfl rfl ix (by omega) ?_
    repeat' first
      | refine xV.step rfl ?_
      | refine xV.mget rfl rfl ?_
    refine xV.mi (n := 5) (j := j) rfl rfl rfl (by omega) ?_
    rw [w1, r1]
    refine xV.br rfl (fun h2 => ?_) (fun h2 => ?_)
    · rw [xn_inj (by omega) (by omega)] at h2
      refine xV.step rfl ?_
      refine xV.step rfl ?_
      show xV D N0 mM_isBetter d 78 [some (.ref m), some (.int (nI N)), some (.long a), none, some (.int (nI j + 1))] [] _ _
      rw [xn_succ, slex, if_pos h2]
      exact ih B (j + 1) (by omega) (by simpa using hB) w3 r3
    · rw [xn_inj (by omega) (by omega)] at h2
      rw [slex, if_neg h2]
      repeat' first
        | refine xV.step rfl ?_
        | refine xV.mget rfl rfl ?_
      refine xV.mi' (n := 5) (j := T.length) rfl rfl rfl ix (by omega) ?_
      repeat' first
        | refine xV.step rfl ?_
        | refine xV.mget rfl rfl ?_
      refine xV.mi (n := 5) (j := j) rfl rfl rfl (by omega) ?_
      rw [w1, r1]
      refine xV.br rfl (fun h3 => ?_) (fun h3 => ?_)
      · rw [xn_le (by omega) (by omega)] at h3
        repeat' refine xV.step rfl ?_
        exact xV.iret rfl rfl rfl ⟨xB0 (by omega), rfl⟩
      · rw [xn_le (by omega) (by omega)] at h3
        repeat' refine xV.step rfl ?_
        exact xV.iret rfl rfl rfl ⟨xB1 (by omega), rfl⟩
theorem c_M_isBetter {e : Nat × Int32 × Int64} {T B : SP} (hT : T.length + 1 ≤ 5) (ha : A.2.2 27 T.length = e.2.2) (hW : RepW (A.2.1 26) (e :: T)) (hB : RepB A.1 (A.2.1 25) B) :
    xV D N0 mM_isBetter d 0 (xargs 5 [.ref m, .int (nI (T.length + 1))]) [] (hm m A h) (xEq (.returned (some (.int (xB (sbet e.2.2 (e :: T) B))))) (hm m A h)) := by
  obtain ⟨b1, b2, b3, b4⟩ := hB
  have ix : nI (T.length + 1) - 1 = nI T.length := by
    rw [show (1 : Int32) = nI 1 from rfl, xn_sub (by omega)]
    rfl
  repeat' first
    | refine xV.step rfl ?_
    | refine xV.mget rfl rfl ?_
    | refine xV.mj' (n := 6) (j := T.length) rfl rfl rfl ix (by omega) ?_
  rw [ha, b1]
  cases B with
  | nil =>
    refine xV.br rfl (fun h1 => ?_) (fun h1 => absurd rfl h1)
    repeat' first
      | refine xV.step rfl ?_
      | refine xV.mget rfl rfl ?_
    rw [b1]
    refine xV.br rfl (fun h1 => ?_) (fun h1 => absurd rfl h1)
    repeat' refine xV.step rfl ?_
    exact xV.iret rfl rfl rfl ⟨rfl, rfl⟩
  | cons f B =>
    have b5 := b4 f B rfl
    have hl : (f :: B).length = B.length + 1 := rfl
    rw [hl] at b1 b2
    rw [hl]
    have hz : nI (B.length + 1) ≠ 0 := fun z => by
      rw [show (0 : Int32) = nI 0 from rfl, xn_inj (by omega) (by omega)] at z
      omega
    have oth : ¬ (e.2.2 = f.2.2 ∧ T.length + 1 = B.length + 1) → xV D N0 mM_isBetter d 34 [some (.ref m), some (.int (nI (T.length + 1))), some (.long e.2.2), none, none] [] (hm m A h) (xEq (.returned (some (.int (xB (sbet e.2.2 (e :: T) (f :: B)))))) (hm m A h)) := fun hno => by
      repeat' first
        | refine xV.step rfl ?_
        | refine xV.mget rfl rfl ?_
      rw [b1]
      refine xV.br rfl (fun h1 => absurd h1 hz) (fun h1 => ?_)
      repeat' first
        | refine xV.step rfl ?_
        | refine xV.mget rfl rfl ?_
      rw [b5]
      refine xV.br rfl (fun h2 => ?_) (fun h2 => ?_)
      · rw [lg_cmp_lt0] at h2
        repeat' refine xV.step rfl ?_
        refine xV.iret rfl rfl rfl ⟨?_, rfl⟩
        have hne : ¬ e.2.2 = f.2.2 := fun z => by rw [z, Int64.lt_iff_toInt_lt] at h2; omega
        rw [sbet, if_neg hne]
        exact xB1 h2
      · rw [lg_cmp_lt0] at h2
        repeat' first
          | refine xV.step rfl ?_
          | refine xV.mget rfl rfl ?_
        rw [b5]
        refine xV.br rfl (fun h3 => ?_) (fun h3 => ?_)
        · rw [lg_cmp_eq0] at h3
          have hne : ¬ (T.length + 1 = B.length + 1) := fun z => hno ⟨h3, z⟩
          repeat' first
            | refine xV.step rfl ?_
            | refine xV.mget rfl rfl ?_
          rw [b1]
          rw [sbet, if_pos h3, show (e :: T).length = T.length + 1 from rfl, if_neg hne]
          refine xV.br rfl (fun h4 => ?_) (fun h4 => ?_)
          · rw [xn_le (by omega) (by omega)] at h4
            repeat' refine xV.step rfl ?_
            exact xV.iret rfl rfl rfl ⟨xB0 (by omega), rfl⟩
          · rw [xn_le (by omega) (by omega)] at h4
            repeat' refine xV.step rfl ?_
            exact xV.iret rfl rfl rfl ⟨xB1 (by omega), rfl⟩
        · rw [lg_cmp_eq0] at h3
          repeat' refine xV.step rfl ?_
          refine xV.iret rfl rfl rfl ⟨?_, rfl⟩
          rw [sbet, if_neg h3]
          exact xB0 h2
    refine xV.br rfl (fun h1 => absurd h1 hz) (fun h1 => ?_)
    repeat' first
      | refine xV.step rfl ?_
      | refine xV.mget rfl rfl ?_
    rw [b5]
    refine xV.br rfl (fun h2 => ?_) (fun h2 => ?_)
    case refine_2 =>
      rw [lg_cmp_eq0] at h2
      exact oth (fun z => h2 z.1)
    rw [lg_cmp_eq0] at h2
    repeat' first
      | refine xV.step rfl ?_
      | refine xV.mget rfl rfl ?_
    rw [b1]
    refine xV.br rfl (fun h3 => ?_) (fun h3 => ?_)
    case refine_2 =>
      rw [xn_inj (by omega) (by omega)] at h3
      exact oth (fun z => h3 z.2)
    rw [xn_inj (by omega) (by omega)] at h3
    refine xV.step rfl ?_
    refine xV.step rfl ?_
    rw [sbet, if_pos h2, show (e :: T).length = T.length + 1 from rfl, if_pos h3]
    exact c_M_isBetter_loop hT (e :: T) (f :: B) 0 (by simp) (by simp; omega) hW b3
end X35
end
section
/- Part 36: the search: the order in which routes are met; the model's search. -/
def sloop (f : Nat → SP → SP) (i : Nat) : Nat → SP → SP
  | 0, B => B
  | n + 1, B => sloop f (i + 1) n (f i B)
termination_by structural n => n
def svis (to : Int32) : SP → List Int32
  | [] => [to]
  | e :: T => e.2.1 :: svis to T
def snot (p : Int32) : List Int32 → Bool
  | [] => true
  | q :: l => snot p l && decide (¬ q = p)
def sfree (v : Nat → Int32) (p : Int32) : Nat → Bool
  | 0 => true
  | n + 1 => sfree v p n && decide (¬ v n = p)
def shd (to : Int32) : SP → Int32
  | [] => to
  | e :: _ => e.2.1
def spay (A : MS) (i : Nat) (x : Int32) : Int32 := mnode A i (1 - mside A i x)
def sokb (A : MS) (L : Nat → Nat) (to : Int32) (a : Int64) (T : SP) (i : Nat) : Bool := (decide (¬ mside A i (shd to T) = -1) && mcarr A i (L i) (1 - msd A i (shd to T)) a) && snot (spay A i (shd to T)) (svis to T)
def sfee (A : MS) (p : Int32) (a : Int64) : Int64 := a + (A.2.1 2 p.toNatClampNeg).toInt64 + a * (A.2.1 3 p.toNatClampNeg).toInt64 / 1000000
def sone (nxt : Int64 → SP → SP → SP) (A : MS) (L : Nat → Nat) (fr to : Int32) (a : Int64) (T : SP) (i : Nat) (B : SP) : SP :=
  if sokb A L to a T i = true then (if spay A i (shd to T) = fr then (if sbet a ((i, spay A i (shd to T), a) :: T) B = true then (i, spay A i (shd to T), a) :: T else B) else nxt (sfee A (spay A i (shd to T)) a) ((i, spay A i (shd to T), a) :: T) B) else B
def sgo (A : MS) (L : Nat → Nat) (C : Nat) (fr to : Int32) : Nat → Int64 → SP → SP → SP
  | 0, _, _, B => B
  | k + 1, a, T, B => sloop (sone (sgo A L C fr to k) A L fr to a T) 0 C B
def sSame (A A' : MS) : Prop := (∀ j, j ≠ 28 → j ≠ 30 → A'.1 j = A.1 j) ∧ (∀ k, k ≠ 25 → k ≠ 26 → k ≠ 28 → A'.2.1 k = A.2.1 k) ∧ (∀ k, k ≠ 27 → A'.2.2 k = A.2.2 k)
theorem sSame.i {A A' : MS} {k i : Nat} {x : Int32} (hs : sSame A A') (hk : k = 25 ∨ k = 26 ∨ k = 28) : sSame A (mI A' k i x) := by
  refine ⟨hs.1, fun q h1 h2 h3 => ?_, hs.2.2⟩
  rw [← hs.2.1 q h1 h2 h3]
  show (if q = k then _ else _) = _
  rw [if_neg (by omega)]
theorem sSame.j {A A' : MS} {i : Nat} {x : Int64} (hs : sSame A A') : sSame A (mJ A' 27 i x) := by
  refine ⟨hs.1, hs.2.1, fun q h1 => ?_⟩
  rw [← hs.2.2 q h1]
  show (if q = 27 then _ else _) = _
  rw [if_neg h1]
theorem sSame.f {A A' : MS} {j : Nat} {x : Int32} (hs : sSame A A') (hj : j = 28 ∨ j = 30) : sSame A (mF A' j x) := by
  refine ⟨fun q h1 h2 => ?_, hs.2.1, hs.2.2⟩
  rw [← hs.1 q h1 h2]
  have : q ≠ j := by omega
  simp [mF, upd, this]
theorem sSame.side {A A' : MS} (hs : sSame A A') (i : Nat) (x : Int32) : mside A' i x = mside A i x := by
  unfold mside
  rw [hs.2.1 6 (by omega) (by omega) (by omega), hs.2.1 7 (by omega) (by omega) (by omega)]
theorem sSame.node {A A' : MS} (hs : sSame A A') (i : Nat) (x : Int32) : mnode A' i x = mnode A i x := by
  unfold mnode
  rw [hs.2.1 6 (by omega) (by omega) (by omega), hs.2.1 7 (by omega) (by omega) (by omega)]
theorem sSame.carr {A A' : MS} (hs : sSame A A') (j l s : Nat) (a : Int64) : mcarr A' j l s a = mcarr A j l s a := by
  unfold mcarr
  rw [hs.2.1 8 (by omega) (by omega) (by omega), hs.2.1 10 (by omega) (by omega) (by omega), hs.2.2 11 (by omega)]
theorem RepT.hd {w : Nat → Int32} {b : Nat → Int64} {v : Nat → Int32} {to : Int32} : ∀ {T : SP}, RepT w b v to T → v T.length = shd to T
  | [], h => h
  | _ :: _, h => h.2.2.2.1
theorem RepT.congr {w w' : Nat → Int32} {b b' : Nat → Int64} {v v' : Nat → Int32} {to : Int32} : ∀ {T : SP}, (∀ j, j < T.length → w' j = w j ∧ b' j = b j) → (∀ j, j ≤ T.length → v' j = v j) → RepT w b v to T → RepT w' b' v' to T
  | [], _, hv, h => by rw [RepT, hv 0 (Nat.le_refl _)]; exact h
  | e :: T, hw, hv, h => by
    have hl : (e :: T).length = T.length + 1 := rfl
    rw [hl] at hw hv
    refine ⟨?_, h.2.1, ?_, ?_, RepT.congr (fun j hj => hw j (by omega)) (fun j hj => hv j (by omega)) h.2.2.2.2⟩
    · rw [(hw T.length (by omega)).1]; exact h.1
    · rw [(hw T.length (by omega)).2]; exact h.2.2.1
    · rw [hv (T.length + 1) (by omega)]; exact h.2.2.2.1
theorem RepT.free {w : Nat → Int32} {b : Nat → Int64} {v : Nat → Int32} {to p : Int32} : ∀ {T : SP}, RepT w b v to T → sfree v p (T.length + 1) = snot p (svis to T)
  | [], h => by
    show (true && decide (¬ v 0 = p)) = (true && decide (¬ to = p))
    rw [show v 0 = to from h]
  | e :: T, h => by
    show (sfree v p (T.length + 1) && decide (¬ v (T.length + 1) = p)) = (snot p (svis to T) && decide (¬ e.2.1 = p))
    rw [h.2.2.2.2.free, h.2.2.2.1]
theorem mI_self (A : MS) (k i : Nat) (x : Int32) : (mI A k i x).2.1 k i = x := by simp [mI, upd]
theorem mI_ne {A : MS} {k i j : Nat} {x : Int32} (h : j ≠ i) : (mI A k i x).2.1 k j = A.2.1 k j := by simp [mI, upd, h]
theorem mJ_self (A : MS) (k i : Nat) (x : Int64) : (mJ A k i x).2.2 k i = x := by simp [mJ, vp_updL]
theorem mJ_ne {A : MS} {k i j : Nat} {x : Int64} (h : j ≠ i) : (mJ A k i x).2.2 k j = A.2.2 k j := by simp [mJ, vp_updL, h]
def mR (A : MS) (r : Nat → Int32) : MS := (A.1, fun a => if a = 25 then r else A.2.1 a, A.2.2)
theorem mR_self (A : MS) : mR A (A.2.1 25) = A := by
  refine Prod.ext rfl (Prod.ext ?_ rfl)
  funext a
  show (if a = 25 then A.2.1 25 else A.2.1 a) = A.2.1 a
  by_cases ha : a = 25
  · rw [if_pos ha, ha]
  · rw [if_neg ha]
theorem mR_mI (A : MS) (s : Nat) (x : Int32) (r : Nat → Int32) : mR (mI A 25 s x) r = mR A r := by
  refine Prod.ext rfl (Prod.ext ?_ rfl)
  funext a
  show (if a = 25 then r else if a = 25 then _ else A.2.1 a) = (if a = 25 then r else A.2.1 a)
  by_cases ha : a = 25
  · rw [if_pos ha, if_pos ha]
  · rw [if_neg ha, if_neg ha, if_neg ha]
theorem sSame.r {A A' : MS} {r : Nat → Int32} (hs : sSame A A') : sSame A (mR A' r) := by
  refine ⟨hs.1, fun q h1 h2 h3 => ?_, hs.2.2⟩
  rw [← hs.2.1 q h1 h2 h3]
  show (if q = 25 then _ else _) = _
  rw [if_neg h1]
theorem xn_dec (t : Nat) : nI (t + 1) + (-1) = nI t := by
  rw [← xn_succ]
  generalize nI t = x
  rw [Int32.add_assoc]
  exact Int32.add_zero x
theorem sfee_nn {A : MS} {p : Int32} {a : Int64} (h1 : 0 ≤ (A.2.1 2 p.toNatClampNeg).toInt) (h2 : 0 ≤ (A.2.1 3 p.toNatClampNeg).toInt) (h3 : (A.2.1 3 p.toNatClampNeg).toInt ≤ 1000000) (h4 : 0 ≤ a.toInt) (h5 : a.toInt < 2 ^ 31) : 0 ≤ (sfee A p a).toInt := by
  unfold sfee
  generalize A.2.1 2 p.toNatClampNeg = b at *
  generalize A.2.1 3 p.toNatClampNeg = q at *
  have hb := Int32.toInt_lt b
  have hm : 0 ≤ a.toInt * q.toInt := Int.mul_nonneg h4 h2
  have hm2 : a.toInt * q.toInt ≤ 2 ^ 31 * 1000000 := Int.mul_le_mul (by omega) h3 h2 (by omega)
  have e1 : (a * q.toInt64).toInt = a.toInt * q.toInt := by
    rw [Int64.toInt_mul, Int32.toInt_toInt64]
    exact Int.bmod_eq_of_le (by omega) (by omega)
  have e2 : (a * q.toInt64 / 1000000).toInt = (a.toInt * q.toInt).tdiv 1000000 := by
    rw [Int64.toInt_div, e1]
    have : (1000000 : Int64).toInt = 1000000 := by decide
    rw [this]
    have h6 := Int.tdiv_nonneg hm (b := 1000000) (by omega)
    have h7 : (a.toInt * q.toInt).tdiv 1000000 ≤ a.toInt * q.toInt := Int.tdiv_le_self _ hm
    exact Int.bmod_eq_of_le (by omega) (by omega)
  have h6 := Int.tdiv_nonneg hm (b := 1000000) (by omega)
  have h7 : (a.toInt * q.toInt).tdiv 1000000 ≤ a.toInt * q.toInt := Int.tdiv_le_self _ hm
  have e3 : (a + b.toInt64).toInt = a.toInt + b.toInt := by
    rw [Int64.toInt_add, Int32.toInt_toInt64]
    exact Int.bmod_eq_of_le (by omega) (by omega)
  rw [Int64.toInt_add, e2, e3, Int.bmod_eq_of_le (by omega) (by omega)]
  omega
section X36
variable {D : va_G} {N0 : Nat} {d m : Nat} {h : XH} {Q : Outcome → XH → Prop}
theorem c_M_search_copy {t : Nat} (ht : t < 5) {v1 v2 v3 v9 : Int32} {l5 l6 l7 l8 : Option Value} : ∀ (T : SP) (s : Nat) (A : MS), s + T.length = t + 1 → RepW (A.2.1 26) T →
    (∀ r l10, (∀ j, j < s → r j = A.2.1 25 j) → RepR r s T → xV D N0 mM_search d 264 [some (.ref m), some (.int v1), some (.int v2), some (.int v3), some (.int (nI t)), l5, l6, l7, l8, some (.int v9), l10] [] (hm m (mR A r) h) Q) →
    xV D N0 mM_search d 234 [some (.ref m), some (.int v1), some (.int v2), some (.int v3), some (.int (nI t)), l5, l6, l7, l8, some (.int v9), some (.int (nI s))] [] (hm m A h) Q := by
  intro T
  induction T with
  | nil =>
    intro s A hs hW k
    obtain rfl : s = t + 1 := by simpa using hs
    repeat' refine xV.step rfl ?_
    refine xV.br rfl (fun h1 => ?_) (fun h1 => ?_)
    · have := k (A.2.1 25) (some (.int (nI (t + 1)))) (fun _ _ => rfl) True.intro
      rw [mR_self] at this
      exact this
    · rw [xn_lt (by omega) (by omega)] at h1
      omega
  | cons e T ih =>
    intro s A hs hW k
    have hs' : s + T.length = t := by have : (e :: T).length = T.length + 1 := rfl; omega
    obtain ⟨w1, w2, w3⟩ := hW
    repeat' refine xV.step rfl ?_
    refine xV.br rfl (fun h1 => ?_) (fun h1 => ?_)
    · rw [xn_lt (by omega) (by omega)] at h1
      omega
    repeat' first
      | refine xV.step rfl ?_
      | refine xV.mget rfl rfl ?_
    refine xV.mi' (n := 5) (j := T.length) rfl rfl rfl (by rw [xn_sub (by omega)]; congr 1; omega) (by omega) ?_
    rw [w1]
    refine xV.si (n := 5) (j := s) rfl rfl rfl rfl (by omega) ?_
    refine xV.step rfl ?_
    refine xV.step rfl ?_
    show xV D N0 mM_search d 234 [some (.ref m), some (.int v1), some (.int v2), some (.int v3), some (.int (nI t)), l5, l6, l7, l8, some (.int v9), some (.int (nI s + 1))] [] _ _
    rw [xn_succ]
    refine ih (s + 1) (mI A 25 s (nI e.1)) (by omega) w3 (fun r l10 h2 h3 => ?_)
    rw [mR_mI]
    refine k r l10 (fun j hj => ?_) ⟨?_, w2, h3⟩
    · rw [h2 j (by omega), mI_ne (by omega)]
    · rw [h2 s (by omega), mI_self]
theorem c_M_search_vis {t : Nat} (ht : t < 5) {A : MS} {b : Bool} {p v1 v2 v3 : Int32} {l5 l6 l7 : Option Value} (k : xV D N0 mM_search d 189 [some (.ref m), some (.int v1), some (.int v2), some (.int v3), some (.int (nI t)), l5, l6, l7, some (.int p), some (.int (xB (b && sfree (A.2.1 28) p (t + 1)))), some (.int (nI (t + 1)))] [] (hm m A h) Q) : ∀ n s, s + n = t + 1 →
    xV D N0 mM_search d 152 [some (.ref m), some (.int v1), some (.int v2), some (.int v3), some (.int (nI t)), l5, l6, l7, some (.int p), some (.int (xB (b && sfree (A.2.1 28) p s))), some (.int (nI s))] [] (hm m A h) Q := by
  intro n
  induction n with
  | zero =>
    intro s hs
    obtain rfl : s = t + 1 := by omega
    repeat' refine xV.step rfl ?_
    refine xV.br rfl (fun h1 => k) (fun h1 => ?_)
    rw [xn_lt (by omega) (by omega)] at h1
    omega
  | succ n ih =>
    intro s hs
    have ih := ih (s + 1) (by omega)
    rw [← xn_succ] at ih
    repeat' refine xV.step rfl ?_
    refine xV.br rfl (fun h1 => ?_) (fun h1 => ?_)
    · rw [xn_lt (by omega) (by omega)] at h1
      omega
    have bk : ∀ x : Int32, x = xB (b && sfree (A.2.1 28) p (s + 1)) → xV D N0 mM_search d 181 [some (.ref m), some (.int v1), some (.int v2), some (.int v3), some (.int (nI t)), l5, l6, l7, some (.int p), some (.int (xB (b && sfree (A.2.1 28) p s))), some (.int (nI s))] [.int x] (hm m A h) Q := fun x hx => by
      refine xV.step rfl ?_
      refine xV.step rfl ?_
      refine xV.step rfl ?_
      rw [hx]
      exact ih
    refine xV.step rfl ?_
    refine xV.br rfl (fun h2 => ?_) (fun h2 => ?_)
    · refine xV.step rfl ?_
      refine bk 0 ?_
      rw [sfree, ← Bool.and_assoc, xB_f h2]
      rfl
    repeat' first
      | refine xV.step rfl ?_
      | refine xV.mget rfl rfl ?_
    refine xV.mi (n := 6) (j := s) rfl rfl rfl (by omega) ?_
    refine xV.step rfl ?_
    refine xV.br rfl (fun h3 => ?_) (fun h3 => ?_)
    · refine xV.step rfl ?_
      refine bk 0 ?_
      rw [sfree, ← Bool.and_assoc, decide_eq_false (fun z => z h3), Bool.and_false]
      rfl
    · refine xV.step rfl ?_
      refine xV.step rfl ?_
      refine bk 1 ?_
      rw [sfree, ← Bool.and_assoc, xB_t h2, decide_eq_true h3]
      rfl
end X36
end
section
/- Part 37: the model's search. -/
def sOK (A : MS) (L : Nat → Nat) (C : Nat) : Prop := A.1 7 = nI C ∧ C ≤ 8 ∧ (∀ i, i < C → A.2.1 9 i = nI (L i) ∧ L i < 64) ∧ (∀ i, i < C → ∃ f s, f < 6 ∧ s < 6 ∧ A.2.1 6 i = nI f ∧ A.2.1 7 i = nI s) ∧ (∀ p, p < 6 → 0 ≤ (A.2.1 2 p).toInt ∧ 0 ≤ (A.2.1 3 p).toInt ∧ (A.2.1 3 p).toInt ≤ 1000000)
theorem spay_nat {A : MS} {L : Nat → Nat} {C i : Nat} (hA : sOK A L C) (hi : i < C) (x : Int32) : ∃ p, p < 6 ∧ spay A i x = nI p := by
  obtain ⟨f, s, hf, hs, e1, e2⟩ := hA.2.2.2.1 i hi
  unfold spay mnode
  split
  · exact ⟨f, hf, e1⟩
  · exact ⟨s, hs, e2⟩
theorem xn_flip {s : Nat} (hs : s < 2) : 1 - nI s = nI (1 - s) := by
  rw [show (1 : Int32) = nI 1 from rfl, xn_sub (by omega)]
section X37
variable {D : va_G} {N0 : Nat} {d m : Nat} {h : XH} {A : MS} {L : Nat → Nat} {C : Nat} {fr to am : Int32}
def sK (D : va_G) (N0 d m : Nat) (h : XH) (A : MS) (L : Nat → Nat) (C : Nat) (fr to am : Int32) (k : Nat) : Prop :=
  ∀ (n : Nat) (T : SP) (a : Int64) (i : Nat) (A' : MS) (B : SP) (Q : Outcome → XH → Prop) (l5 l6 l7 l8 l9 l10 : Option Value), T.length + k + 1 = 5 → i + n = C → sSame A A' → RepT (A'.2.1 26) (A'.2.2 27) (A'.2.1 28) to T → A'.2.2 27 T.length = a → 0 ≤ a.toInt → A'.2.1 26 T.length + 1 = nI i → RepB A'.1 (A'.2.1 25) B →
    (∀ (A2 : MS) (l5 l6 l7 l8 l9 l10 : Option Value), sSame A A2 → RepT (A2.2.1 26) (A2.2.2 27) (A2.2.1 28) to T → RepB A2.1 (A2.2.1 25) (sloop (sone (sgo A L C fr to k) A L fr to a T) i n B) →
      xV D N0 mM_search (d + 3) 35 [some (.ref m), some (.int fr), some (.int to), some (.int am), some (.int (nI T.length + (-1))), l5, l6, l7, l8, l9, l10] [] (hm m A2 h) Q) →
    xV D N0 mM_search (d + 3) 35 [some (.ref m), some (.int fr), some (.int to), some (.int am), some (.int (nI T.length)), l5, l6, l7, l8, l9, l10] [] (hm m A' h) Q
theorem sK_step (hA : sOK A L C) (k : Nat) (hk : ∀ k', k = k' + 1 → sK D N0 d m h A L C fr to am k') : sK D N0 d m h A L C fr to am k := by
  intro n
  induction n with
  | zero =>
    intro T a i A' B Q l5 l6 l7 l8 l9 l10 hT hi hs hR ha ha0 hw hB K
    obtain rfl : i = C := by omega
    have hC : A'.1 7 = nI i := by rw [hs.1 7 (by omega) (by omega)]; exact hA.1
    have hC2 := hA.2.1
    refine xV.step rfl ?_
    refine xV.br rfl (fun h1 => absurd h1 (xn_nonneg (by omega))) (fun h1 => ?_)
    refine xV.step rfl ?_
    refine xV.mget rfl rfl ?_
    refine xV.step rfl ?_
    refine xV.mi (n := 6) (j := T.length) rfl rfl rfl (by omega) ?_
    repeat' first
      | refine xV.step rfl ?_
      | refine xV.mget rfl rfl ?_
    refine xV.mi (n := 5) (j := T.length) rfl rfl rfl (by omega) ?_
    refine xV.step rfl ?_
    refine xV.step rfl ?_
    rw [hw]
    refine xV.si (n := 5) (j := T.length) rfl rfl rfl rfl (by omega) ?_
    repeat' first
      | refine xV.step rfl ?_
      | refine xV.mget rfl rfl ?_
    refine xV.mi (n := 5) (j := T.length) rfl rfl rfl (by omega) ?_
    rw [mI_self]
    repeat' first
      | refine xV.step rfl ?_
      | refine xV.mget rfl rfl ?_
    rw [show (mI A' 26 T.length (nI i)).1 7 = nI i from hC]
    refine xV.br rfl (fun h2 => ?_) (fun h2 => ?_)
    · rw [xn_lt (by omega) (by omega)] at h2
      omega
    refine xV.step rfl ?_
    refine xV.step rfl ?_
    refine K (mI A' 26 T.length (nI i)) _ _ _ _ _ _ (hs.i (by omega)) (hR.congr (fun j hj => ⟨mI_ne (by omega), rfl⟩) (fun _ _ => rfl)) hB
  | succ n ih =>
    intro T a i A' B Q l5 l6 l7 l8 l9 l10 hT hi hs hR ha ha0 hw hB K
    have hC : A'.1 7 = nI C := by rw [hs.1 7 (by omega) (by omega)]; exact hA.1
    have hC2 := hA.2.1
    have hiC : i < C := by omega
    have hx := hR.hd
    have hs1 : sSame A (mI A' 26 T.length (nI i)) := hs.i (by omega)
    have hR1 : RepT ((mI A' 26 T.length (nI i)).2.1 26) (A'.2.2 27) (A'.2.1 28) to T := hR.congr (fun j hj => ⟨mI_ne (by omega), rfl⟩) (fun _ _ => rfl)
    refine xV.step rfl ?_
    refine xV.br rfl (fun h1 => absurd h1 (xn_nonneg (by omega))) (fun h1 => ?_)
    refine xV.step rfl ?_
    refine xV.mget rfl rfl ?_
    refine xV.step rfl ?_
    refine xV.mi (n := 6) (j := T.length) rfl rfl rfl (by omega) ?_
    rw [hx]
    repeat' first
      | refine xV.step rfl ?_
      | refine xV.mget rfl rfl ?_
    refine xV.mi (n := 5) (j := T.length) rfl rfl rfl (by omega) ?_
    refine xV.step rfl ?_
    refine xV.step rfl ?_
    rw [hw]
    refine xV.si (n := 5) (j := T.length) rfl rfl rfl rfl (by omega) ?_
    repeat' first
      | refine xV.step rfl ?_
      | refine xV.mget rfl rfl ?_
    refine xV.mi (n := 5) (j := T.length) rfl rfl rfl (by omega) ?_
    rw [mI_self]
    repeat' first
      | refine xV.step rfl ?_
      | refine xV.mget rfl rfl ?_
    rw [show (mI A' 26 T.length (nI i)).1 7 = nI C from hC]
    refine xV.br rfl (fun h2 => ?_) (fun h2 => ?_)
    case refine_2 =>
      rw [xn_lt (by omega) (by omega)] at h2
      omega
    generalize hA1 : mI A' 26 T.length (nI i) = A1 at *
    have hB1 : RepB A1.1 (A1.2.1 25) B := by rw [← hA1]; exact hB
    have ha1 : A1.2.2 27 T.length = a := by rw [← hA1]; exact ha
    have hw1 : A1.2.1 26 T.length = nI i := by rw [← hA1, mI_self]
    have hR2 : RepT (A1.2.1 26) (A1.2.2 27) (A1.2.1 28) to T := by rw [← hA1] at hR1 ⊢; exact hR1
    clear hR1 hB hw hR hA1 hs hC
    obtain ⟨hl1, hl2⟩ := hA.2.2.1 i hiC
    have hl1' : A1.2.1 9 i = nI (L i) := by rw [hs1.2.1 9 (by omega) (by omega) (by omega)]; exact hl1
    have back : ∀ (A2 : MS) (x : Int32) (l6 l7 l8 l9 l10 : Option Value), sSame A A2 → RepT (A2.2.1 26) (A2.2.2 27) (A2.2.1 28) to T → A2.2.2 27 T.length = a → A2.2.1 26 T.length = nI i → RepB A2.1 (A2.2.1 25) (sone (sgo A L C fr to k) A L fr to a T i B) →
        xV D N0 mM_search (d + 3) 35 [some (.ref m), some (.int fr), some (.int to), some (.int am), some (.int (nI T.length)), some (.int x), l6, l7, l8, l9, l10] [] (hm m A2 h) Q := by
      intro A2 x l6 l7 l8 l9 l10 c1 c2 c3 c4 c5
      exact ih T a (i + 1) A2 (sone (sgo A L C fr to k) A L fr to a T i B) Q _ _ _ _ _ _ hT (by omega) c1 c2 c3 ha0 (by rw [c4, xn_succ]) c5 K
    have aft : ∀ (y p : Int32) (b : Bool) (l10 : Option Value), (b = true → p = spay A i (shd to T) ∧ mcarr A i (L i) (1 - msd A i (shd to T)) a = true) → sokb A L to a T i = (b && snot p (svis to T)) →
        xV D N0 mM_search (d + 3) 149 [some (.ref m), some (.int fr), some (.int to), some (.int am), some (.int (nI T.length)), some (.int (shd to T)), some (.int (nI i)), some (.int y), some (.int p), some (.int (xB b)), l10] [] (hm m A1 h) Q := by
      intro y p b l10 hb hok
      refine xV.step rfl ?_
      refine xV.step rfl ?_
      show xV D N0 mM_search (d + 3) 152 [some (.ref m), some (.int fr), some (.int to), some (.int am), some (.int (nI T.length)), some (.int (shd to T)), some (.int (nI i)), some (.int y), some (.int p), some (.int (xB b)), some (.int (nI 0))] [] _ _
      rw [show xB b = xB (b && sfree (A1.2.1 28) p 0) by rw [sfree, Bool.and_true]]
      refine c_M_search_vis (t := T.length) (by omega) ?_ (T.length + 1) 0 (by omega)
      rw [hR2.free, ← hok]
      refine xV.step rfl ?_
      cases hk0 : sokb A L to a T i with
      | false =>
        refine xV.br rfl (fun h3 => ?_) (fun h3 => absurd rfl h3)
        refine xV.step rfl ?_
        refine xV.br rfl (fun h4 => ?_) (fun h4 => absurd rfl h4)
        refine xV.step rfl ?_
        refine back A1 _ _ _ _ _ _ hs1 hR2 ha1 hw1 ?_
        unfold sone
        rw [if_neg (by rw [hk0]; decide)]
        exact hB1
      | true =>
        have hb1 : b = true := by rw [hk0] at hok; cases b; cases hok; rfl
        obtain ⟨hp, hca⟩ := hb hb1
        subst hp
        have ha31 : a.toInt < 2 ^ 31 := by
          have hq := (of_decide_eq_true hca).2.2
          rw [Int64.lt_iff_toInt_lt, Int32.toInt_toInt64] at hq
          have := Int32.toInt_lt (A.2.1 10 (2 * (64 * i + L i) + (1 - msd A i (shd to T))))
          omega
        refine xV.br rfl (fun h3 => absurd h3 (by decide)) (fun h3 => ?_)
        refine xV.step rfl ?_
        refine xV.step rfl ?_
        refine xV.br rfl (fun h4 => ?_) (fun h4 => ?_)
        case refine_1 =>
          have h4 : spay A i (shd to T) = fr := h4
          have hW : RepW (A1.2.1 26) ((i, spay A i (shd to T), a) :: T) := ⟨hw1, by omega, hR2.w⟩
          repeat' refine xV.step rfl ?_
          rw [xn_succ]
          refine xV.cM rfl rfl g_mM_search_243 mM_isBetter_ok (Nat.le_of_ble_eq_true rfl) (Nat.le_of_ble_eq_true rfl) (c_M_isBetter (e := (i, spay A i (shd to T), a)) (T := T) (B := B) (by omega) ha1 hW hB1) ?_
          refine xV.br rfl (fun h5 => ?_) (fun h5 => ?_)
          · refine xV.step rfl ?_
            refine back A1 _ _ _ _ _ _ hs1 hR2 ha1 hw1 ?_
            unfold sone
            rw [if_pos hk0, if_pos h4, if_neg (by rw [show sbet a _ B = false from xB_f h5]; decide)]
            exact hB1
          · refine xV.step rfl ?_
            refine xV.step rfl ?_
            refine xV.step rfl ?_
            refine xV.step rfl ?_
            rw [xn_succ]
            refine xV.mput rfl rfl rfl (Nat.le_of_ble_eq_true rfl) ?_
            repeat' first
              | refine xV.step rfl ?_
              | refine xV.mget rfl rfl ?_
            refine xV.mj (n := 6) (j := T.length) rfl rfl rfl (by omega) ?_
            rw [show (mF A1 28 (nI (T.length + 1))).2.2 27 T.length = a from ha1]
            refine xV.step rfl ?_
            refine xV.mput rfl rfl rfl (Nat.le_of_ble_eq_true rfl) ?_
            refine xV.step rfl ?_
            refine xV.step rfl ?_
            refine c_M_search_copy (t := T.length) (by omega) ((i, spay A i (shd to T), a) :: T) 0 _ (by simp) hW (fun r l10 _ hr => ?_)
            refine xV.step rfl ?_
            refine xV.step rfl ?_
            refine back (mR (mF (mF A1 28 (nI (T.length + 1))) 30 a.toInt32) r) _ _ _ _ _ _ ((hs1.f (by omega)).f (by omega)).r hR2 ha1 hw1 ?_
            unfold sone
            rw [if_pos hk0, if_pos h4, if_pos (show sbet a _ B = true from xB_t h5)]
            refine ⟨?_, by simp; omega, hr, fun e B' he => ?_⟩
            · simp [mR, mF, upd]
            · cases he
              show (upd (upd A1.1 28 (nI (T.length + 1))) 30 a.toInt32 30).toInt64 = a
              rw [show upd (upd A1.1 28 (nI (T.length + 1))) 30 a.toInt32 30 = a.toInt32 by simp [upd]]
              rw [← Int64.toInt_inj, Int32.toInt_toInt64, Int64.toInt_toInt32]
              exact Int.bmod_eq_of_le (by omega) (by omega)
        have h4 : ¬ spay A i (shd to T) = fr := h4
        refine xV.step rfl ?_
        refine xV.br rfl (fun h3 => absurd h3 (by decide)) (fun h3 => ?_)
        repeat' refine xV.step rfl ?_
        rw [xn_succ]
        refine xV.br rfl (fun h5 => ?_) (fun h5 => ?_)
        · rw [show (5 : Int32) = nI 5 from rfl, xn_le (by omega) (by omega)] at h5
          obtain rfl : k = 0 := by omega
          refine xV.step rfl ?_
          refine back A1 _ _ _ _ _ _ hs1 hR2 ha1 hw1 ?_
          unfold sone
          rw [if_pos hk0, if_neg h4, sgo]
          exact hB1
        · rw [show (5 : Int32) = nI 5 from rfl, xn_le (by omega) (by omega)] at h5
          obtain ⟨k', rfl⟩ : ∃ k', k = k' + 1 := ⟨k - 1, by omega⟩
          obtain ⟨q, hq, hpq⟩ := spay_nat hA hiC (shd to T)
          repeat' first
            | refine xV.step rfl ?_
            | refine xV.mget rfl rfl ?_
          refine xV.mj (n := 6) (j := T.length) rfl rfl rfl (by omega) ?_
          repeat' first
            | refine xV.step rfl ?_
            | refine xV.mget rfl rfl ?_
          refine xV.mi' (n := 6) (j := q) rfl rfl rfl hpq hq ?_
          repeat' first
            | refine xV.step rfl ?_
            | refine xV.mget rfl rfl ?_
          refine xV.mj (n := 6) (j := T.length) rfl rfl rfl (by omega) ?_
          repeat' first
            | refine xV.step rfl ?_
            | refine xV.mget rfl rfl ?_
          refine xV.mi' (n := 6) (j := q) rfl rfl rfl hpq hq ?_
          repeat' refine xV.step rfl ?_
          refine xV.ldiv rfl (by decide) ?_
          refine xV.step rfl ?_
          have hfee : A1.2.2 27 T.length + (A1.2.1 2 q).toInt64 + A1.2.2 27 T.length * (A1.2.1 3 q).toInt64 / 1000000 = sfee A (spay A i (shd to T)) a := by
            unfold sfee
            rw [hpq, xn_clamp (by omega), ha1, hs1.2.1 2 (by omega) (by omega) (by omega), hs1.2.1 3 (by omega) (by omega) (by omega)]
          rw [hfee]
          refine xV.sj' (n := 6) (j := T.length + 1) rfl rfl rfl rfl (xn_succ _) (by omega) ?_
          repeat' first
            | refine xV.step rfl ?_
            | refine xV.mget rfl rfl ?_
          refine xV.si' (n := 6) (j := T.length + 1) rfl rfl rfl rfl (xn_succ _) (by omega) ?_
          repeat' first
            | refine xV.step rfl ?_
            | refine xV.mget rfl rfl ?_
          refine xV.si' (n := 5) (j := T.length + 1) rfl rfl rfl rfl (xn_succ _) (by omega) ?_
          refine xV.step rfl ?_
          refine xV.step rfl ?_
          show xV D N0 mM_search (d + 3) 35 [some (.ref m), some (.int fr), some (.int to), some (.int am), some (.int (nI T.length + 1)), some (.int (shd to T)), some (.int (nI i)), some (.int y), some (.int (spay A i (shd to T))), some (.int (xB true)), some (.int (nI (T.length + 1)))] [] _ _
          rw [xn_succ]
          have hfn : 0 ≤ (sfee A (spay A i (shd to T)) a).toInt := by
            obtain ⟨f1, f2, f3⟩ := hA.2.2.2.2 q hq
            refine sfee_nn ?_ ?_ ?_ ha0 ha31 <;> rw [hpq, xn_clamp (by omega)] <;> assumption
          refine hk k' rfl C ((i, spay A i (shd to T), a) :: T) (sfee A (spay A i (shd to T)) a) 0 _ B Q _ _ _ _ _ _ (by simp; omega) (by omega) ((hs1.j.i (by omega)).i (by omega)) ?_ ?_ hfn ?_ hB1 ?_
          · refine ⟨?_, by omega, ?_, ?_, ?_⟩
            · rw [mI_ne (by omega)]; exact hw1
            · show (mJ A1 27 (T.length + 1) _).2.2 27 T.length = a
              rw [mJ_ne (by omega)]; exact ha1
            · show (mI (mJ A1 27 (T.length + 1) _) 28 (T.length + 1) _).2.1 28 (T.length + 1) = _
              exact mI_self _ _ _ _
            · refine hR2.congr (fun j hj => ⟨?_, ?_⟩) (fun j hj => ?_)
              · rw [mI_ne (by omega)]; rfl
              · show (mJ A1 27 (T.length + 1) _).2.2 27 j = _
                rw [mJ_ne (by omega)]
              · show (mI (mJ A1 27 (T.length + 1) _) 28 (T.length + 1) _).2.1 28 j = _
                rw [mI_ne (by omega)]; rfl
          · show (mJ A1 27 (T.length + 1) _).2.2 27 (T.length + 1) = _
            exact mJ_self _ _ _ _
          · rw [show ((i, spay A i (shd to T), a) :: T).length = T.length + 1 from rfl, mI_self]
            rfl
          · intro A2 l5 l6 l7 l8 l9 l10 c1 c2 c3
            rw [show ((i, spay A i (shd to T), a) :: T).length = T.length + 1 from rfl, xn_dec]
            obtain ⟨e1, e2, e3, e4, e5⟩ := c2
            refine ih T a (i + 1) A2 (sone (sgo A L C fr to (k' + 1)) A L fr to a T i B) Q _ _ _ _ _ _ hT (by omega) c1 e5 e3 ha0 (by rw [e1, xn_succ]) ?_ K
            unfold sone
            rw [if_pos hk0, if_neg h4, sgo]
            exact c3
    repeat' refine xV.step rfl ?_
    refine xV.cM rfl rfl g_mM_search_199 mM_sideOf_ok (Nat.le_of_ble_eq_true rfl) (Nat.le_of_ble_eq_true rfl) (c_M_sideOf (by omega)) ?_
    rw [hs1.side]
    repeat' refine xV.step rfl ?_
    refine xV.br rfl (fun h3 => ?_) (fun h3 => ?_)
    case refine_1 =>
      have h3 : mside A i (shd to T) = -1 := h3
      repeat' refine xV.step rfl ?_
      refine xV.br rfl (fun h4 => ?_) (fun h4 => absurd rfl h4)
      refine xV.step rfl ?_
      refine xV.step rfl ?_
      refine aft (mside A i (shd to T)) (-1) false _ (fun z => by cases z) ?_
      unfold sokb
      rw [decide_eq_false (fun z => z h3)]
      rfl
    have h3 : ¬ mside A i (shd to T) = -1 := h3
    obtain ⟨q, hq, hpq⟩ := spay_nat hA hiC (shd to T)
    repeat' refine xV.step rfl ?_
    refine xV.cM rfl rfl g_mM_search_192 mM_nodeOf_ok (Nat.le_of_ble_eq_true rfl) (Nat.le_of_ble_eq_true rfl) (c_M_nodeOf (by omega)) ?_
    rw [hs1.node]
    refine xV.step rfl ?_
    show xV D N0 mM_search (d + 3) 116 [some (.ref m), some (.int fr), some (.int to), some (.int am), some (.int (nI T.length)), some (.int (shd to T)), some (.int (nI i)), some (.int (mside A i (shd to T))), some (.int (spay A i (shd to T))), l9, l10] [] _ _
    refine xV.step rfl ?_
    refine xV.step rfl ?_
    refine xV.br rfl (fun h4 => ?_) (fun h4 => ?_)
    · have h4 : spay A i (shd to T) = -1 := h4
      rw [hpq] at h4
      have h5 := (oi_none (o := some q) (fun n hn => by cases hn; omega)).mp h4
      cases h5
    repeat' first
      | refine xV.step rfl ?_
      | refine xV.mget rfl rfl ?_
    refine xV.mj (n := 6) (j := T.length) rfl rfl rfl (by omega) ?_
    have e7 : 1 - mside A i (shd to T) = nI (1 - msd A i (shd to T)) := by rw [mside_nat h3, xn_flip (msd_lt _ _ _)]
    rw [ha1, e7]
    refine xV.cM rfl rfl g_mM_search_239 mM_carries_ok (Nat.le_of_ble_eq_true rfl) (Nat.le_of_ble_eq_true rfl) (c_M_carries (s := 1 - msd A i (shd to T)) (by omega) hl1' hl2 (by omega)) ?_
    rw [hs1.carr]
    refine xV.br rfl (fun h5 => ?_) (fun h5 => ?_)
    · refine xV.step rfl ?_
      refine xV.step rfl ?_
      refine aft (mside A i (shd to T)) (spay A i (shd to T)) false _ (fun z => by cases z) ?_
      unfold sokb
      rw [xB_f h5, Bool.and_false]
    · refine xV.step rfl ?_
      refine xV.step rfl ?_
      refine xV.step rfl ?_
      refine aft (mside A i (shd to T)) (spay A i (shd to T)) true _ (fun _ => ⟨rfl, xB_t h5⟩) ?_
      unfold sokb
      rw [xB_t h5, decide_eq_true h3]
      rfl
theorem sK_all (hA : sOK A L C) : ∀ k, sK D N0 d m h A L C fr to am k
  | 0 => sK_step hA 0 (fun k' hk => by cases hk)
  | k + 1 => sK_step hA (k + 1) (fun k' hk => by cases hk; exact sK_all hA k)
def sEnd (m : Nat) (h : XH) (A : MS) (S : SP) (o0 : MS → Outcome) : Outcome → XH → Prop := fun o u => ∃ A2, sSame A A2 ∧ RepB A2.1 (A2.2.1 25) S ∧ o = o0 A2 ∧ u = hm m A2 h
def sres (A : MS) (L : Nat → Nat) (C : Nat) (fr to am : Int32) : SP := sgo A L C fr to 5 am.toInt64 [] []
theorem c_M_search (hA : sOK A L C) (ham : 0 ≤ am.toInt) : xV D N0 mM_search (d + 3) 0 (xargs 11 [.ref m, .int fr, .int to, .int am]) [] (hm m A h) (sEnd m h A (sres A L C fr to am) (fun _ => .returned none)) := by
  have key : xV D N0 mM_search (d + 3) 35 [some (.ref m), some (.int fr), some (.int to), some (.int am), some (.int (nI 0)), none, none, none, none, none, none] [] (hm m (mI (mJ (mI (mF (mF A 28 0) 30 0) 28 0 to) 27 0 am.toInt64) 26 0 (-1)) h) (sEnd m h A (sres A L C fr to am) (fun _ => .returned none)) := by
    have hs0 : sSame A A := ⟨fun _ _ _ => rfl, fun _ _ _ _ => rfl, fun _ _ => rfl⟩
    refine sK_all hA 4 C [] am.toInt64 0 _ [] _ none none none none none none rfl (by omega) ((((hs0.f (by omega)).f (by omega)).i (by omega)).j.i (by omega)) ?_ ?_ (by rw [Int32.toInt_toInt64]; exact ham) ?_ ⟨rfl, by simp, True.intro, fun e B' he => by cases he⟩ ?_
    · show (mI (mF (mF A 28 0) 30 0) 28 0 to).2.1 28 0 = to
      exact mI_self _ _ _ _
    · show (mJ (mI (mF (mF A 28 0) 30 0) 28 0 to) 27 0 am.toInt64).2.2 27 0 = _
      exact mJ_self _ _ _ _
    · show (mI (mJ (mI (mF (mF A 28 0) 30 0) 28 0 to) 27 0 am.toInt64) 26 0 (-1)).2.1 26 0 + 1 = nI 0
      rw [mI_self]
      rfl
    · intro A2 l5 l6 l7 l8 l9 l10 c1 c2 c3
      refine xV.step rfl ?_
      refine xV.br rfl (fun _ => ?_) (fun h1 => absurd (by decide) h1)
      exact xV.vret rfl rfl ⟨A2, c1, c3, rfl, rfl⟩
  repeat' first
    | exact key
    | refine xV.step rfl ?_
    | refine xV.mget rfl rfl ?_
    | refine xV.mput rfl rfl rfl (Nat.le_of_ble_eq_true rfl) ?_
    | refine xV.si' (j := 0) rfl rfl rfl rfl rfl (Nat.le_of_ble_eq_true rfl) ?_
    | refine xV.sj' (j := 0) rfl rfl rfl rfl rfl (Nat.le_of_ble_eq_true rfl) ?_
end X37
end
section
/- Part 38: the model: route, pay. -/
def samt (A : MS) (am : Int64) : SP → Int64
  | [] => am
  | e :: _ => sfee A e.2.1 e.2.2
def sgood (A : MS) (C : Nat) (to : Int32) (am : Int64) : SP → Prop
  | [] => True
  | e :: T => e.1 < C ∧ e.2.1 = spay A e.1 (shd to T) ∧ e.2.2 = samt A am T ∧ sgood A C to am T
theorem sloop_ind {f : Nat → SP → SP} {C : Nat} (P : SP → Prop) (hf : ∀ i B, i < C → P B → P (f i B)) : ∀ n i B, i + n ≤ C → P B → P (sloop f i n B)
  | 0, _, _, _, hB => hB
  | n + 1, i, B, hi, hB => sloop_ind P hf n (i + 1) (f i B) (by omega) (hf i B (by omega) hB)
theorem sgood_go {A : MS} {L : Nat → Nat} {C : Nat} {fr to : Int32} {am : Int64} : ∀ k a T B, sgood A C to am T → a = samt A am T → sgood A C to am B → sgood A C to am (sgo A L C fr to k a T B)
  | 0, _, _, _, _, _, hB => hB
  | k + 1, a, T, B, hT, ha, hB => by
    rw [sgo]
    refine sloop_ind (C := C) (sgood A C to am) (fun i B hi hB => ?_) C 0 B (by omega) hB
    unfold sone
    have hE : sgood A C to am ((i, spay A i (shd to T), a) :: T) := ⟨hi, rfl, ha, hT⟩
    split
    · split
      · split
        · exact hE
        · exact hB
      · exact sgood_go k _ _ _ hE rfl hB
    · exact hB
theorem sgood_res {A : MS} {L : Nat → Nat} {C : Nat} {fr to am : Int32} : sgood A C to am.toInt64 (sres A L C fr to am) := sgood_go 5 _ _ _ True.intro rfl True.intro
def rAns : SP → Int32
  | [] => -1
  | e :: _ => e.2.2.toInt32
def tRoute (f t a : Int32) : Int32 := if nd f = true ∧ nd t = true then (if ispr f t a = true then 0 else 2) else 1
def tPay (A : MS) (f t a dl : Int32) : Int32 := if nd f = true ∧ nd t = true then (if ispr f t a = true ∧ 0 ≤ dl ∧ dl ≤ 1000000000 then (if A.1 34 = 16 then 3 else 0) else 2) else 1
def xTe (t : Int32) (o1 : Outcome) (u1 : XH) (Q0 : Outcome → XH → Prop) : Outcome → XH → Prop := fun o u => (t ≠ 0 ∧ o = o1 ∧ u = u1) ∨ (t = 0 ∧ Q0 o u)
def pdl (A : MS) (dd : Int32) : SP → Int32
  | [] => dd
  | e :: T => pdl A dd T + A.2.1 4 e.2.1.toNatClampNeg
def pwA (P N : Nat) (dd : Int32) (A : MS) : SP → MS
  | [] => A
  | e :: T => mI (mI (mI (mI (pwA P N dd A T) 37 (5 * P + (N - 1 - T.length)) (nI e.1)) 38 (5 * P + (N - 1 - T.length)) e.2.2.toInt32) 39 (5 * P + (N - 1 - T.length)) (pdl A dd T)) 41 (5 * P + (N - 1 - T.length)) e.2.1
theorem mI_oth {A : MS} {k k' i : Nat} {x : Int32} (h : k' ≠ k) : (mI A k i x).2.1 k' = A.2.1 k' := by simp [mI, h]
theorem pwA_i {P N : Nat} {dd : Int32} {A : MS} {k : Nat} (hk : k < 37) : ∀ T, (pwA P N dd A T).2.1 k = A.2.1 k
  | [] => rfl
  | e :: T => by rw [pwA, mI_oth (by omega), mI_oth (by omega), mI_oth (by omega), mI_oth (by omega), pwA_i hk T]
def mpay (A : MS) (P : Nat) (to : Int32) (lo : Int64) (dd : Int32) (S : SP) : MS := pwA P S.length dd (mJ (mI (mI (mF A 34 (nI P + 1)) 34 P (nI S.length)) 35 P to) 36 P lo) S
theorem RepR.at {r : Nat → Int32} {e : Nat × Int32 × Int64} {T : SP} : ∀ {X : SP} {j : Nat}, RepR r j (X ++ e :: T) → r (j + X.length) = nI e.1
  | [], _, h => h.1
  | f :: X, j, h => by
    have := RepR.at (X := X) (j := j + 1) h.2.2
    rw [show j + (f :: X).length = j + 1 + X.length by simp; omega]
    exact this
theorem sgood.suf {A : MS} {C : Nat} {to : Int32} {am : Int64} {T : SP} : ∀ {X : SP}, sgood A C to am (X ++ T) → sgood A C to am T
  | [], h => h
  | _ :: X, h => sgood.suf (X := X) h.2.2.2
theorem xi_sub (x : Int32) : x + 1 + (-1) = x := by
  rw [Int32.add_assoc]
  exact Int32.add_zero x
section X38
variable {D : va_G} {N0 : Nat} {M : XM} {d pc m : Nat} {lv : XL} {st : List Value} {h : XH} {A : MS} {L : Nat → Nat} {C : Nat} {fr to am : Int32} {Q : Outcome → XH → Prop}
theorem xV.cE {M2 : XM} {idx nx n m : Nat} {A : MS} {S : SP} {as rest : List Value} {h0 : XH} (hq : xon M pc = some (.invokevirtual idx, nx)) (hst : xsp (n + 1) st [] = some (.ref m :: as, rest)) (hw : xcv "ChannelNetModel" M M2 idx n) (hok2 : xOK M2 = true) (hsz : (lg_sl (.ref m :: as)).length ≤ M2.2.2.1) (hcat : (rest.map fun v => v.category).sum + (M2.2.2.1 + 11) ≤ 64)
    (hcon : xV D N0 M2 d 0 (xargs M2.2.2.1 (.ref m :: as)) [] (hm m A h0) (sEnd m h0 A S (fun _ => .returned none))) (k : ∀ A2, sSame A A2 → RepB A2.1 (A2.2.1 25) S → xV D N0 M (d + 1) nx lv rest (hm m A2 h0) Q) : xV D N0 M (d + 1) pc lv st (hm m A h0) Q :=
  xV.callV (q := ("ChannelNetModel", xTM, 48)) hq hst (hm_get0 m A h0) rfl hw hok2 hsz hcat hcon (fun w u hz => by obtain ⟨A2, c1, c2, c3, rfl⟩ := hz; cases c3; exact k A2 c1 c2) (fun a u hz => by obtain ⟨_, _, _, c3, _⟩ := hz; cases c3)
theorem c_M_route (hA : sOK A L C) :
    xV D N0 mM_route (d + 4) 0 (xargs 4 [.ref m, .int fr, .int to, .int am]) [] (hm m A h) (xTe (tRoute fr to am) (.returned (some (.int 0))) (hm m (mF A 0 (tRoute fr to am)) h) (sEnd m h (mF A 0 0) (sres (mF A 0 0) L C fr to am) (fun _ => .returned (some (.int (rAns (sres (mF A 0 0) L C fr to am))))))) := by
  have tl : ∀ t : Int32, t = 1 ∨ t = 2 → tRoute fr to am = t → xV D N0 mM_route (d + 4) 34 (xargs 4 [.ref m, .int fr, .int to, .int am]) [.int t, .ref m] (hm m A h) (xTe (tRoute fr to am) (.returned (some (.int 0))) (hm m (mF A 0 (tRoute fr to am)) h) (sEnd m h (mF A 0 0) (sres (mF A 0 0) L C fr to am) (fun _ => .returned (some (.int (rAns (sres (mF A 0 0) L C fr to am))))))) := by
    intro t ht hT
    have h0 : t ≠ 0 ∧ ¬ t ≤ 0 := by rcases ht with rfl | rfl <;> exact ⟨by decide, by decide⟩
    refine xV.mput rfl rfl rfl (Nat.le_of_ble_eq_true rfl) ?_
    repeat' refine xV.step rfl ?_
    refine xV.mget (v := .int t) rfl rfl ?_
    refine xV.br rfl (fun h2 => absurd h2 h0.2) (fun h2 => ?_)
    repeat' refine xV.step rfl ?_
    exact xV.iret rfl rfl rfl (Or.inl ⟨by rw [hT]; exact h0.1, rfl, by rw [hT]⟩)
  have no : ¬ (nd fr = true ∧ nd to = true) → xV D N0 mM_route (d + 4) 15 (xargs 4 [.ref m, .int fr, .int to, .int am]) [.ref m] (hm m A h) (xTe (tRoute fr to am) (.returned (some (.int 0))) (hm m (mF A 0 (tRoute fr to am)) h) (sEnd m h (mF A 0 0) (sres (mF A 0 0) L C fr to am) (fun _ => .returned (some (.int (rAns (sres (mF A 0 0) L C fr to am))))))) := fun hz => by
    refine xV.step rfl ?_
    refine xV.step rfl ?_
    exact tl 1 (Or.inl rfl) (by unfold tRoute; rw [if_neg hz])
  repeat' refine xV.step rfl ?_
  refine xV.cS rfl rfl g_mM_route_162 mM_isNode_ok (Nat.le_of_ble_eq_true rfl) (Nat.le_of_ble_eq_true rfl) c_M_isNode' ?_
  refine xV.br rfl (fun h1 => no (fun z => by rw [xB_f h1] at z; cases z.1)) (fun h1 => ?_)
  repeat' refine xV.step rfl ?_
  refine xV.cS rfl rfl g_mM_route_162 mM_isNode_ok (Nat.le_of_ble_eq_true rfl) (Nat.le_of_ble_eq_true rfl) c_M_isNode' ?_
  refine xV.br rfl (fun h2 => no (fun z => by rw [xB_f h2] at z; cases z.2)) (fun h2 => ?_)
  repeat' refine xV.step rfl ?_
  refine xV.cM rfl rfl g_mM_route_249 mM_isProper_ok (Nat.le_of_ble_eq_true rfl) (Nat.le_of_ble_eq_true rfl) c_M_isProper ?_
  refine xV.br rfl (fun h3 => ?_) (fun h3 => ?_)
  · refine xV.step rfl ?_
    exact tl 2 (Or.inr rfl) (by unfold tRoute; rw [if_pos ⟨xB_t h1, xB_t h2⟩, if_neg (by rw [xB_f h3]; decide)])
  have hT : tRoute fr to am = 0 := by unfold tRoute; rw [if_pos ⟨xB_t h1, xB_t h2⟩, if_pos (xB_t h3)]
  have ham : 0 ≤ am.toInt := by
    have hz := (of_decide_eq_true (xB_t h3)).2.1
    rw [Int32.le_iff_toInt_le] at hz
    have : (1 : Int32).toInt = 1 := rfl
    omega
  refine xV.step rfl ?_
  refine xV.step rfl ?_
  refine xV.mput rfl rfl rfl (Nat.le_of_ble_eq_true rfl) ?_
  repeat' refine xV.step rfl ?_
  refine xV.mget (v := .int 0) rfl rfl ?_
  refine xV.br rfl (fun h4 => ?_) (fun h4 => absurd (by decide) h4)
  repeat' refine xV.step rfl ?_
  refine xV.cE rfl rfl g_mM_route_252 mM_search_ok (Nat.le_of_ble_eq_true rfl) (Nat.le_of_ble_eq_true rfl) (c_M_search (A := mF A 0 0) hA ham) (fun A2 c1 c2 => ?_)
  refine xV.step rfl ?_
  refine xV.mget rfl rfl ?_
  rw [c2.1]
  generalize hS : sres (mF A 0 0) L C fr to am = S at *
  cases S with
  | nil =>
    refine xV.br rfl (fun h5 => ?_) (fun h5 => absurd rfl h5)
    repeat' refine xV.step rfl ?_
    exact xV.iret rfl rfl rfl (Or.inr ⟨hT, A2, c1, c2, rfl, rfl⟩)
  | cons e S =>
    have hl := c2.2.1
    have hl2 : (e :: S).length = S.length + 1 := rfl
    rw [hl2] at hl
    refine xV.br rfl (fun h5 => ?_) (fun h5 => ?_)
    · rw [hl2, show (0 : Int32) = nI 0 from rfl, xn_inj (by omega) (by omega)] at h5
      omega
    repeat' first
      | refine xV.step rfl ?_
      | refine xV.mget rfl rfl ?_
    refine xV.iret rfl rfl rfl (Or.inr ⟨hT, A2, c1, c2, ?_, rfl⟩)
    have := c2.2.2.2 e S rfl
    rw [rAns, ← this, Int32.toInt32_toInt64]
theorem c_M_pay_loop (hA : sOK A L C) {P N : Nat} (hP : P < 16) (hN : N ≤ 5) {S : SP} {lo : Int64} {v1 v3 dl : Int32} (hS : S.length = N) (hg : sgood A C to am.toInt64 S) {A0 : MS} (hs : ∀ k, k < 34 → k ≠ 25 → k ≠ 26 → k ≠ 28 → A0.2.1 k = A.2.1 k) (hr : RepR (A0.2.1 25) 0 S) : ∀ (R T : SP) (x : Int32) (l13 l14 : Option Value), R.reverse ++ T = S → x + 1 = nI R.length →
    xV D N0 mM_pay (d + 4) 150 [some (.ref m), some (.int v1), some (.int to), some (.int v3), some (.long lo), none, some (.int dl), some (.int (nI P)), some (.long (samt A am.toInt64 T)), none, some (.int (pdl A0 dl T)), some (.int (shd to T)), some (.int x), l13, l14] [] (hm m (pwA P N dl A0 T) h) (xEq (.returned (some (.int (nI P)))) (hm m (pwA P N dl A0 S) h)) := by
  intro R
  induction R with
  | nil =>
    intro T x l13 l14 hRT hx
    obtain rfl : T = S := hRT
    have hx' : x = -1 := by
      have : x + 1 + (-1) = nI 0 + (-1) := by rw [hx]; rfl
      rw [xi_sub] at this
      exact this
    subst hx'
    refine xV.step rfl ?_
    refine xV.br rfl (fun _ => ?_) (fun h1 => absurd (by decide) h1)
    refine xV.step rfl ?_
    exact xV.iret rfl rfl rfl ⟨rfl, rfl⟩
  | cons e R ih =>
    intro T x l13 l14 hRT hx
    have hRT' : R.reverse ++ (e :: T) = S := by rw [← hRT]; simp
    have hlen : R.length + T.length + 1 = N := by rw [← hS, ← hRT']; simp; omega
    have hx' : x = nI R.length := by
      have h1 : x + 1 + (-1) = nI (R.length + 1) + (-1) := by rw [hx]; rfl
      rw [xi_sub, xn_dec] at h1
      exact h1
    subst hx'
    have hg1 : sgood A C to am.toInt64 (e :: T) := by rw [← hRT'] at hg; exact hg.suf
    obtain ⟨g1, g2, g3, g4⟩ := hg1
    have hC2 := hA.2.1
    obtain ⟨q, hq, hpq⟩ := spay_nat hA g1 (shd to T)
    have hr1 : (pwA P N dl A0 T).2.1 25 R.length = nI e.1 := by
      rw [pwA_i (by omega)]
      rw [← hRT'] at hr
      have := hr.at
      simpa using this
    have hsd : ∀ y, mside (pwA P N dl A0 T) e.1 y = mside A e.1 y := fun y => by
      unfold mside
      rw [pwA_i (by omega), pwA_i (by omega), hs 6 (by omega) (by omega) (by omega) (by omega), hs 7 (by omega) (by omega) (by omega) (by omega)]
    have hno : ∀ y, mnode (pwA P N dl A0 T) e.1 y = mnode A e.1 y := fun y => by
      unfold mnode
      rw [pwA_i (by omega), pwA_i (by omega), hs 6 (by omega) (by omega) (by omega) (by omega), hs 7 (by omega) (by omega) (by omega) (by omega)]
    have hix : (5 : Int32) * nI P + nI R.length = nI (5 * P + (N - 1 - T.length)) := by
      rw [show (5 : Int32) = nI 5 from rfl, xn_mul, xn_add]
      congr 1
      omega
    refine xV.step rfl ?_
    refine xV.br rfl (fun h1 => absurd h1 (xn_nonneg (by omega))) (fun h1 => ?_)
    repeat' first
      | refine xV.step rfl ?_
      | refine xV.mget rfl rfl ?_
    rw [hix]
    refine xV.mi (n := 5) (j := R.length) rfl rfl rfl (by omega) ?_
    rw [hr1]
    refine xV.step rfl ?_
    show xV D N0 mM_pay (d + 4) 173 [some (.ref m), some (.int v1), some (.int to), some (.int v3), some (.long lo), none, some (.int dl), some (.int (nI P)), some (.long (samt A am.toInt64 T)), none, some (.int (pdl A0 dl T)), some (.int (shd to T)), some (.int (nI R.length)), some (.int (nI (5 * P + (N - 1 - T.length)))), some (.int (nI e.1))] [] _ _
    repeat' refine xV.step rfl ?_
    refine xV.cM rfl rfl g_mM_pay_199 mM_sideOf_ok (Nat.le_of_ble_eq_true rfl) (Nat.le_of_ble_eq_true rfl) (c_M_sideOf (by omega)) ?_
    rw [hsd]
    repeat' refine xV.step rfl ?_
    refine xV.cM rfl rfl g_mM_pay_192 mM_nodeOf_ok (Nat.le_of_ble_eq_true rfl) (Nat.le_of_ble_eq_true rfl) (c_M_nodeOf (by omega)) ?_
    rw [hno, show mnode A e.1 (1 - mside A e.1 (shd to T)) = e.2.1 from g2.symm]
    refine xV.step rfl ?_
    show xV D N0 mM_pay (d + 4) 191 [some (.ref m), some (.int v1), some (.int to), some (.int v3), some (.long lo), none, some (.int dl), some (.int (nI P)), some (.long (samt A am.toInt64 T)), none, some (.int (pdl A0 dl T)), some (.int e.2.1), some (.int (nI R.length)), some (.int (nI (5 * P + (N - 1 - T.length)))), some (.int (nI e.1))] [] _ _
    rw [← g3]
    rw [← g2] at hpq
    have e2 : ∀ k, k < 25 → (pwA P N dl A0 T).2.1 k = A.2.1 k := fun k hk => by rw [pwA_i (by omega), hs k (by omega) (by omega) (by omega) (by omega)]
    repeat' first
      | refine xV.step rfl ?_
      | refine xV.mget rfl rfl ?_
      | refine xV.si (n := 80) (j := 5 * P + (N - 1 - T.length)) rfl rfl rfl rfl (by omega) ?_
      | refine xV.mi' (n := 6) (j := q) rfl rfl rfl hpq hq ?_
    refine xV.ldiv rfl (by decide) ?_
    refine xV.step rfl ?_
    show xV D N0 mM_pay (d + 4) 255 [some (.ref m), some (.int v1), some (.int to), some (.int v3), some (.long lo), none, some (.int dl), some (.int (nI P)), some (.long e.2.2), none, some (.int (pdl A0 dl T)), some (.int e.2.1), some (.int (nI R.length)), some (.int (nI (5 * P + (N - 1 - T.length)))), some (.int (nI e.1))] [.long (e.2.2 + ((pwA P N dl A0 (e :: T)).2.1 2 q).toInt64 + e.2.2 * ((pwA P N dl A0 (e :: T)).2.1 3 q).toInt64 / 1000000)] (hm m (pwA P N dl A0 (e :: T)) h) _
    have hfee : e.2.2 + ((pwA P N dl A0 (e :: T)).2.1 2 q).toInt64 + e.2.2 * ((pwA P N dl A0 (e :: T)).2.1 3 q).toInt64 / 1000000 = samt A am.toInt64 (e :: T) := by
      show _ = sfee A e.2.1 e.2.2
      unfold sfee
      rw [hpq, xn_clamp (by omega), pwA_i (by omega), pwA_i (by omega), hs 2 (by omega) (by omega) (by omega) (by omega), hs 3 (by omega) (by omega) (by omega) (by omega)]
    rw [hfee]
    refine xV.step rfl ?_
    show xV D N0 mM_pay (d + 4) 257 [some (.ref m), some (.int v1), some (.int to), some (.int v3), some (.long lo), none, some (.int dl), some (.int (nI P)), some (.long (samt A am.toInt64 (e :: T))), none, some (.int (pdl A0 dl T)), some (.int e.2.1), some (.int (nI R.length)), some (.int (nI (5 * P + (N - 1 - T.length)))), some (.int (nI e.1))] [] (hm m (pwA P N dl A0 (e :: T)) h) _
    repeat' first
      | refine xV.step rfl ?_
      | refine xV.mget rfl rfl ?_
    refine xV.mi' (n := 6) (j := q) rfl rfl rfl hpq hq ?_
    refine xV.step rfl ?_
    refine xV.step rfl ?_
    refine xV.step rfl ?_
    refine xV.step rfl ?_
    have hdl : pdl A0 dl T + (pwA P N dl A0 (e :: T)).2.1 4 q = pdl A0 dl (e :: T) := by
      rw [pdl, hpq, xn_clamp (by omega), pwA_i (by omega)]
    show xV D N0 mM_pay (d + 4) 150 [some (.ref m), some (.int v1), some (.int to), some (.int v3), some (.long lo), none, some (.int dl), some (.int (nI P)), some (.long (samt A am.toInt64 (e :: T))), none, some (.int (pdl A0 dl T + (pwA P N dl A0 (e :: T)).2.1 4 q)), some (.int e.2.1), some (.int (nI R.length + (-1))), some (.int (nI (5 * P + (N - 1 - T.length)))), some (.int (nI e.1))] [] (hm m (pwA P N dl A0 (e :: T)) h) _
    rw [hdl]
    refine ih (e :: T) _ _ _ hRT' ?_
    rw [Int32.add_assoc]
    exact Int32.add_zero _
end X38
end
section
/- Part 39: the model: pay. -/
def pEnd (m : Nat) (h : XH) (A : MS) (S : SP) (P : Nat) (to : Int32) (lo : Int64) (dl : Int32) : Outcome → XH → Prop := fun o u => ∃ A2, sSame A A2 ∧ RepB A2.1 (A2.2.1 25) S ∧ ((S = [] ∧ o = .returned (some (.int (-1))) ∧ u = hm m A2 h) ∨ (S ≠ [] ∧ o = .returned (some (.int (nI P))) ∧ u = hm m (mpay A2 P to lo dl S) h))
section X39
variable {D : va_G} {N0 : Nat} {M : XM} {d m : Nat} {h : XH} {A : MS} {L : Nat → Nat} {C : Nat} {fr to am : Int32}
theorem c_M_pay (hA : sOK A L C) {P : Nat} (hP : A.1 34 = nI P) (hP2 : P ≤ 16) {lo : Int64} {dl : Int32} :
    xV D N0 mM_pay (d + 4) 0 (xargs 15 [.ref m, .int fr, .int to, .int am, .long lo, .int dl]) [] (hm m A h) (xTe (tPay A fr to am dl) (.returned (some (.int 0))) (hm m (mF A 0 (tPay A fr to am dl)) h) (pEnd m h (mF A 0 0) (sres (mF A 0 0) L C fr to am) P to lo dl)) := by
  have tl : ∀ t : Int32, t = 1 ∨ t = 2 ∨ t = 3 → tPay A fr to am dl = t → xV D N0 mM_pay (d + 4) 59 (xargs 15 [.ref m, .int fr, .int to, .int am, .long lo, .int dl]) [.int t, .ref m] (hm m A h) (xTe (tPay A fr to am dl) (.returned (some (.int 0))) (hm m (mF A 0 (tPay A fr to am dl)) h) (pEnd m h (mF A 0 0) (sres (mF A 0 0) L C fr to am) P to lo dl)) := by
    intro t ht hT
    have h0 : t ≠ 0 ∧ ¬ t ≤ 0 := by rcases ht with rfl | rfl | rfl <;> exact ⟨by decide, by decide⟩
    refine xV.mput rfl rfl rfl (Nat.le_of_ble_eq_true rfl) ?_
    repeat' refine xV.step rfl ?_
    refine xV.mget (v := .int t) rfl rfl ?_
    refine xV.br rfl (fun h2 => absurd h2 h0.2) (fun h2 => ?_)
    repeat' refine xV.step rfl ?_
    exact xV.iret rfl rfl rfl (Or.inl ⟨by rw [hT]; exact h0.1, rfl, by rw [hT]⟩)
  have no : ¬ (nd fr = true ∧ nd to = true) → xV D N0 mM_pay (d + 4) 15 (xargs 15 [.ref m, .int fr, .int to, .int am, .long lo, .int dl]) [.ref m] (hm m A h) (xTe (tPay A fr to am dl) (.returned (some (.int 0))) (hm m (mF A 0 (tPay A fr to am dl)) h) (pEnd m h (mF A 0 0) (sres (mF A 0 0) L C fr to am) P to lo dl)) := fun hz => by
    refine xV.step rfl ?_
    refine xV.step rfl ?_
    exact tl 1 (Or.inl rfl) (by unfold tPay; rw [if_neg hz])
  repeat' refine xV.step rfl ?_
  refine xV.cS rfl rfl g_mM_pay_162 mM_isNode_ok (Nat.le_of_ble_eq_true rfl) (Nat.le_of_ble_eq_true rfl) c_M_isNode' ?_
  refine xV.br rfl (fun h1 => no (fun z => by rw [xB_f h1] at z; cases z.1)) (fun h1 => ?_)
  repeat' refine xV.step rfl ?_
  refine xV.cS rfl rfl g_mM_pay_162 mM_isNode_ok (Nat.le_of_ble_eq_true rfl) (Nat.le_of_ble_eq_true rfl) c_M_isNode' ?_
  refine xV.br rfl (fun h2 => no (fun z => by rw [xB_f h2] at z; cases z.2)) (fun h2 => ?_)
  have two : ¬ (ispr fr to am = true ∧ 0 ≤ dl ∧ dl ≤ 1000000000) → xV D N0 mM_pay (d + 4) 41 (xargs 15 [.ref m, .int fr, .int to, .int am, .long lo, .int dl]) [.ref m] (hm m A h) (xTe (tPay A fr to am dl) (.returned (some (.int 0))) (hm m (mF A 0 (tPay A fr to am dl)) h) (pEnd m h (mF A 0 0) (sres (mF A 0 0) L C fr to am) P to lo dl)) := fun hz => by
    refine xV.step rfl ?_
    refine xV.step rfl ?_
    exact tl 2 (Or.inr (Or.inl rfl)) (by unfold tPay; rw [if_pos ⟨xB_t h1, xB_t h2⟩, if_neg hz])
  repeat' refine xV.step rfl ?_
  refine xV.cM rfl rfl g_mM_pay_249 mM_isProper_ok (Nat.le_of_ble_eq_true rfl) (Nat.le_of_ble_eq_true rfl) c_M_isProper ?_
  refine xV.br rfl (fun h3 => two (fun z => by rw [xB_f h3] at z; cases z.1)) (fun h3 => ?_)
  repeat' refine xV.step rfl ?_
  refine xV.cS rfl rfl g_mM_pay_140 mM_isIn_ok (Nat.le_of_ble_eq_true rfl) (Nat.le_of_ble_eq_true rfl) c_M_isIn ?_
  refine xV.br rfl (fun h4 => two (fun z => of_decide_eq_false (xB_f h4) z.2)) (fun h4 => ?_)
  have hok : ispr fr to am = true ∧ 0 ≤ dl ∧ dl ≤ 1000000000 := ⟨xB_t h3, of_decide_eq_true (xB_t h4)⟩
  refine xV.step rfl ?_
  refine xV.mget rfl rfl ?_
  refine xV.step rfl ?_
  refine xV.br rfl (fun h5 => ?_) (fun h5 => ?_)
  · refine xV.step rfl ?_
    refine xV.step rfl ?_
    exact tl 3 (Or.inr (Or.inr rfl)) (by unfold tPay; rw [if_pos ⟨xB_t h1, xB_t h2⟩, if_pos hok, if_pos h5])
  have hT : tPay A fr to am dl = 0 := by unfold tPay; rw [if_pos ⟨xB_t h1, xB_t h2⟩, if_pos hok, if_neg h5]
  have hP3 : P < 16 := by
    rcases Nat.lt_or_ge P 16 with hz | hz
    · exact hz
    · obtain rfl : P = 16 := by omega
      exact absurd hP h5
  have ham : 0 ≤ am.toInt := by
    have hz := (of_decide_eq_true (xB_t h3)).2.1
    rw [Int32.le_iff_toInt_le] at hz
    have : (1 : Int32).toInt = 1 := rfl
    omega
  refine xV.step rfl ?_
  refine xV.mput rfl rfl rfl (Nat.le_of_ble_eq_true rfl) ?_
  repeat' refine xV.step rfl ?_
  refine xV.mget (v := .int 0) rfl rfl ?_
  refine xV.br rfl (fun h4 => ?_) (fun h4 => absurd (by decide) h4)
  repeat' refine xV.step rfl ?_
  refine xV.cE rfl rfl g_mM_pay_252 mM_search_ok (Nat.le_of_ble_eq_true rfl) (Nat.le_of_ble_eq_true rfl) (c_M_search (A := mF A 0 0) hA ham) (fun A2 c1 c2 => ?_)
  have hg : sgood (mF A 0 0) C to am.toInt64 (sres (mF A 0 0) L C fr to am) := sgood_res
  refine xV.step rfl ?_
  refine xV.mget rfl rfl ?_
  rw [c2.1]
  generalize hS : sres (mF A 0 0) L C fr to am = S at *
  have hN := c2.2.1
  have hP' : A2.1 34 = nI P := by rw [c1.1 34 (by omega) (by omega)]; exact hP
  by_cases hS0 : S = []
  · rw [hS0]
    refine xV.br rfl (fun h5 => ?_) (fun h5 => absurd rfl h5)
    repeat' refine xV.step rfl ?_
    exact xV.iret rfl rfl rfl (Or.inr ⟨hT, A2, c1, by rw [← hS0]; exact c2, Or.inl ⟨rfl, rfl, rfl⟩⟩)
  · have hl : S.length ≠ 0 := fun z => hS0 (List.eq_nil_of_length_eq_zero z)
    refine xV.br rfl (fun h5 => ?_) (fun h5 => ?_)
    · rw [show (0 : Int32) = nI 0 from rfl, xn_inj (by omega) (by omega)] at h5
      exact absurd h5 hl
    have key := c_M_pay_loop (D := D) (N0 := N0) (d := d) (m := m) (h := h) (am := am) (to := to) (A := mF A 0 0) (L := L) (C := C) hA hP3 hN (S := S) (lo := lo) (v1 := fr) (v3 := am) (dl := dl) rfl hg (A0 := mJ (mI (mI (mF A2 34 (nI P + 1)) 34 P (nI S.length)) 35 P to) 36 P lo) (fun k h1 h2 h3 h4 => by
      show (mI (mI (mF A2 34 (nI P + 1)) 34 P (nI S.length)) 35 P to).2.1 k = _
      rw [mI_oth (by omega), mI_oth (by omega)]
      exact c1.2.1 k h2 h3 h4) c2.2.2.1 S.reverse [] (nI S.length - 1) none none (by simp) (by
        rw [List.length_reverse]
        generalize nI S.length = x
        rw [Int32.sub_add_cancel])
    have key2 : xV D N0 mM_pay (d + 4) 150 [some (.ref m), some (.int fr), some (.int to), some (.int am), some (.long lo), none, some (.int dl), some (.int (nI P)), some (.long am.toInt64), none, some (.int dl), some (.int to), some (.int (nI S.length - 1)), none, none] [] (hm m (mJ (mI (mI (mF A2 34 (nI P + 1)) 34 P (nI S.length)) 35 P to) 36 P lo) h) (xTe (tPay A fr to am dl) (.returned (some (.int 0))) (hm m (mF A 0 (tPay A fr to am dl)) h) (pEnd m h (mF A 0 0) S P to lo dl)) :=
      xV.mono (fun o u hz => Or.inr ⟨hT, A2, c1, c2, Or.inr ⟨hS0, hz.1, hz.2⟩⟩) key
    refine xV.step rfl ?_
    refine xV.mget rfl rfl ?_
    rw [hP']
    refine xV.step rfl ?_
    show xV D N0 mM_pay (d + 4) 93 [some (.ref m), some (.int fr), some (.int to), some (.int am), some (.long lo), none, some (.int dl), some (.int (nI P)), none, none, none, none, none, none, none] [] _ _
    refine xV.step rfl ?_
    refine xV.step rfl ?_
    refine xV.mget rfl rfl ?_
    rw [hP']
    refine xV.step rfl ?_
    refine xV.step rfl ?_
    refine xV.mput rfl rfl rfl (Nat.le_of_ble_eq_true rfl) ?_
    refine xV.step rfl ?_
    refine xV.mget rfl rfl ?_
    refine xV.step rfl ?_
    refine xV.step rfl ?_
    refine xV.mget rfl rfl ?_
    rw [show (mF A2 34 (nI P + 1)).1 28 = nI S.length from c2.1]
    refine xV.si (n := 16) (j := P) rfl rfl rfl rfl hP3 ?_
    refine xV.step rfl ?_
    refine xV.mget rfl rfl ?_
    refine xV.step rfl ?_
    refine xV.step rfl ?_
    refine xV.si (n := 16) (j := P) rfl rfl rfl rfl hP3 ?_
    refine xV.step rfl ?_
    refine xV.mget rfl rfl ?_
    refine xV.step rfl ?_
    refine xV.step rfl ?_
    refine xV.sj (n := 16) (j := P) rfl rfl rfl rfl hP3 ?_
    refine xV.step rfl ?_
    refine xV.step rfl ?_
    refine xV.step rfl ?_
    show xV D N0 mM_pay (d + 4) 135 [some (.ref m), some (.int fr), some (.int to), some (.int am), some (.long lo), none, some (.int dl), some (.int (nI P)), some (.long am.toInt64), none, none, none, none, none, none] [] _ _
    refine xV.step rfl ?_
    refine xV.step rfl ?_
    show xV D N0 mM_pay (d + 4) 139 [some (.ref m), some (.int fr), some (.int to), some (.int am), some (.long lo), none, some (.int dl), some (.int (nI P)), some (.long am.toInt64), none, some (.int dl), none, none, none, none] [] _ _
    refine xV.step rfl ?_
    refine xV.step rfl ?_
    show xV D N0 mM_pay (d + 4) 142 [some (.ref m), some (.int fr), some (.int to), some (.int am), some (.long lo), none, some (.int dl), some (.int (nI P)), some (.long am.toInt64), none, some (.int dl), some (.int to), none, none, none] [] _ _
    refine xV.step rfl ?_
    refine xV.mget rfl rfl ?_
    rw [show (mJ (mI (mI (mF A2 34 (nI P + 1)) 34 P (nI S.length)) 35 P to) 36 P lo).1 28 = nI S.length from c2.1]
    refine xV.step rfl ?_
    refine xV.step rfl ?_
    refine xV.step rfl ?_
    exact key2
end X39
end
section
/- Part 40: new arrays; the model's constructor. -/
theorem w_arrI : xW (.arrayClass .int) := xW_tab (i := 47) rfl rfl
theorem w_arrZ : xW (.arrayClass .boolean) := xW_tab (i := 48) rfl rfl
theorem w_arrJ : xW (.arrayClass .long) := xW_tab (i := 49) rfl rfl
def msum : Nat → Nat
  | 0 => 0
  | k + 1 => msum k + mlen (k + 1)
def hk (m k : Nat) (A : MS) (fs : List Value) (h : XH) : XH := (h.1 + k, h.2.1 + k, h.2.2.1 + msum k, fun q => if q = m then some (.inr (7, fs)) else if m < q ∧ q ≤ m + k then some (mcell m A (q - m)) else h.2.2.2 q)
def rk (m k j : Nat) : Value := bif Nat.ble j k then .ref (m + j) else .null
def fsk (m k : Nat) : List Value := [.int 0, rk m k 1, rk m k 2, rk m k 3, rk m k 4, rk m k 5, .int 0, .int 0, rk m k 6, rk m k 7, rk m k 8, rk m k 9, rk m k 10, rk m k 11, rk m k 12, rk m k 13, rk m k 14, rk m k 15, rk m k 16, rk m k 17, rk m k 18, rk m k 19, rk m k 20, rk m k 21, rk m k 22, .int 0, rk m k 23, rk m k 24, .int 0, rk m k 25, .int 0, rk m k 26, rk m k 27, rk m k 28, .int 0, rk m k 29, rk m k 30, rk m k 31, rk m k 32, rk m k 33, rk m k 34, rk m k 35, rk m k 36, rk m k 37, rk m k 38, rk m k 39, rk m k 40, rk m k 41]
def mZero : MS := (fun _ => 0, fun _ _ => 0, fun _ _ => 0)
def mInit : MS := mI (mI (mI (mI (mI (mI (mI (mI (mI (mI (mI (mI (mI (mI (mI (mI (mI (mI (mI (mI (mI (mI (mI (mI (mI (mI (mI (mI (mZero) 1 0 1000000) 1 1 1000000) 1 2 1000000) 1 3 1000000) 1 4 1000000) 1 5 1000000) 4 0 1) 4 1 1) 4 2 1) 4 3 1) 4 4 1) 4 5 1) 18 0 (-1)) 18 1 (-1)) 18 2 (-1)) 18 3 (-1)) 18 4 (-1)) 18 5 (-1)) 18 6 (-1)) 18 7 (-1)) 20 0 (-1)) 20 1 (-1)) 20 2 (-1)) 20 3 (-1)) 20 4 (-1)) 20 5 (-1)) 20 6 (-1)) 20 7 (-1)
theorem hk_new {m k N : Nat} {A : MS} {fs : List Value} {h : XH} {c : XC} (hh : h.1 = m + 1) (hc : mcell m A (k + 1) = c) (hN : mlen (k + 1) = N) : xnew (hk m k A fs h) c N = hk m (k + 1) A fs h := by
  unfold xnew hk
  refine Prod.ext rfl (Prod.ext rfl (Prod.ext ?_ ?_))
  · show h.2.2.1 + msum k + N = h.2.2.1 + (msum k + mlen (k + 1))
    omega
  · funext q
    simp only
    by_cases h1 : q = h.1 + k
    · have : q - m = k + 1 := by omega
      rw [if_pos h1, if_neg (by omega), if_pos (by omega), this, hc]
    · rw [if_neg h1]
      by_cases h2 : q = m
      · rw [if_pos h2, if_pos h2]
      · rw [if_neg h2, if_neg h2]
        by_cases h3 : m < q ∧ q ≤ m + k
        · rw [if_pos h3, if_pos (by omega)]
        · rw [if_neg h3, if_neg (by omega)]
theorem hk_get {m k j : Nat} {A : MS} {fs : List Value} {h : XH} (hj : j < k) : xget (hk m k A fs h) (m + (j + 1)) = some (mcell m A (j + 1)) := by
  unfold xget hk
  simp only
  rw [if_neg (by omega), if_pos (by omega)]
  congr 2
  omega
theorem hk_put {m k j : Nat} {A A' : MS} {fs : List Value} {h : XH} {c : XC} (hj : j < k) (h1 : mcell m A' (j + 1) = c) (h2 : ∀ i, i ≠ j + 1 → mcell m A' i = mcell m A i) : xput (hk m k A fs h) (m + (j + 1)) c = hk m k A' fs h := by
  unfold xput hk
  refine Prod.ext rfl (Prod.ext rfl (Prod.ext rfl ?_))
  funext q
  simp only
  by_cases hq : q = m + (j + 1)
  · subst hq
    rw [if_pos rfl, if_neg (by omega), if_pos (by omega), show m + (j + 1) - m = j + 1 by omega, h1]
  · rw [if_neg hq]
    by_cases h3 : q = m
    · rw [if_pos h3, if_pos h3]
    · rw [if_neg h3, if_neg h3]
      by_cases hr : m < q ∧ q ≤ m + k
      · rw [if_pos hr, if_pos hr, h2 (q - m) (by omega)]
      · rw [if_neg hr, if_neg hr]
theorem hk_fs {m k : Nat} {A : MS} {fs fs' : List Value} {h : XH} : xput (hk m k A fs h) m (.inr (7, fs')) = hk m k A fs' h := by
  unfold xput hk
  refine Prod.ext rfl (Prod.ext rfl (Prod.ext rfl ?_))
  funext q
  simp only
  by_cases hq : q = m
  · rw [if_pos hq, if_pos hq]
  · rw [if_neg hq, if_neg hq, if_neg hq]
section X40
variable {D : va_G} {N0 : Nat} {M : XM} {d pc m : Nat} {lv : XL} {st : List Value} {h : XH} {A : MS} {Q : Outcome → XH → Prop}
theorem xV.nwI {n : Int32} {N nx : Nat} {r : List Value} (hq : xon M pc = some (.newarray .int, nx)) (hn : n = nI N) (hN : N ≤ 1024) (hc1 : h.2.1 + 1 ≤ xCmax) (hc2 : h.2.2.1 + N ≤ xSmax) (k : xV D N0 M d nx lv (.ref h.1 :: r) (xnew h (.inl (false, .int, N, .inl fun _ => 0)) N) Q) : xV D N0 M d pc lv (.int n :: r) h Q :=
  xV.newa (A0 := (N, .inl fun _ => 0)) hq rfl w_arrI (fun _ => rfl) (fun _ _ hz => hz) (by rw [hn]; exact xn_nonneg (by omega)) (by rw [hn]; exact xn_clamp (by omega)) (by show N * 4 ≤ _; omega) hc1 hc2 k
theorem xV.nwZ {n : Int32} {N nx : Nat} {r : List Value} (hq : xon M pc = some (.newarray .boolean, nx)) (hn : n = nI N) (hN : N ≤ 1024) (hc1 : h.2.1 + 1 ≤ xCmax) (hc2 : h.2.2.1 + N ≤ xSmax) (k : xV D N0 M d nx lv (.ref h.1 :: r) (xnew h (.inl (false, .boolean, N, .inl fun _ => 0)) N) Q) : xV D N0 M d pc lv (.int n :: r) h Q :=
  xV.newa (A0 := (N, .inl fun _ => 0)) hq rfl w_arrZ (fun _ => rfl) (fun _ _ hz => hz) (by rw [hn]; exact xn_nonneg (by omega)) (by rw [hn]; exact xn_clamp (by omega)) (by show N * 1 ≤ _; omega) hc1 hc2 k
theorem xV.nwJ {n : Int32} {N nx : Nat} {r : List Value} (hq : xon M pc = some (.newarray .long, nx)) (hn : n = nI N) (hN : N ≤ 1024) (hc1 : h.2.1 + 1 ≤ xCmax) (hc2 : h.2.2.1 + N ≤ xSmax) (k : xV D N0 M d nx lv (.ref h.1 :: r) (xnew h (.inl (false, .long, N, .inr (.inl fun _ => 0))) N) Q) : xV D N0 M d pc lv (.int n :: r) h Q :=
  xV.newa (A0 := (N, .inr (.inl fun _ => 0))) hq rfl w_arrJ (fun _ => rfl) (fun _ _ hz => hz) (by rw [hn]; exact xn_nonneg (by omega)) (by rw [hn]; exact xn_clamp (by omega)) (by show N * 8 ≤ _; omega) hc1 hc2 k
def kok (m k : Nat) (h : XH) : Prop := h.1 = m + 1 ∧ h.2.1 + 41 ≤ xCmax ∧ h.2.2.1 + 4400 ≤ xSmax
theorem msum_le {k N : Nat} (hb : (Nat.ble k 40 && Nat.ble (msum k + N) 4400) = true) : k + 1 ≤ 41 ∧ msum k + N ≤ 4400 := by
  rw [Bool.and_eq_true] at hb
  have h1 := Nat.le_of_ble_eq_true hb.1
  have h2 := Nat.le_of_ble_eq_true hb.2
  omega
theorem xV.kI {k nx N : Nat} {n : Int32} {fs r : List Value} (hK : kok m k h) (hq : xon M pc = some (.newarray .int, nx)) (hc : mcell m A (k + 1) = .inl (false, .int, N, .inl fun _ => 0)) (hl : mlen (k + 1) = N) (hn : n = nI N) (hN : Nat.ble N 1024 = true) (hb : (Nat.ble k 40 && Nat.ble (msum k + N) 4400) = true) (kk : xV D N0 M d nx lv (.ref (m + (k + 1)) :: r) (hk m (k + 1) A fs h) Q) : xV D N0 M d pc lv (.int n :: r) (hk m k A fs h) Q := by
  obtain ⟨h1, h2, h3⟩ := hK
  obtain ⟨b1, b2⟩ := msum_le hb
  refine xV.nwI hq hn (Nat.le_of_ble_eq_true hN) (by show h.2.1 + k + 1 ≤ _; omega) (by show h.2.2.1 + msum k + N ≤ _; omega) ?_
  rw [hk_new h1 hc hl, show (hk m k A fs h).1 = m + (k + 1) by show h.1 + k = _; omega]
  exact kk
theorem xV.kZ {k nx N : Nat} {n : Int32} {fs r : List Value} (hK : kok m k h) (hq : xon M pc = some (.newarray .boolean, nx)) (hc : mcell m A (k + 1) = .inl (false, .boolean, N, .inl fun _ => 0)) (hl : mlen (k + 1) = N) (hn : n = nI N) (hN : Nat.ble N 1024 = true) (hb : (Nat.ble k 40 && Nat.ble (msum k + N) 4400) = true) (kk : xV D N0 M d nx lv (.ref (m + (k + 1)) :: r) (hk m (k + 1) A fs h) Q) : xV D N0 M d pc lv (.int n :: r) (hk m k A fs h) Q := by
  obtain ⟨h1, h2, h3⟩ := hK
  obtain ⟨b1, b2⟩ := msum_le hb
  refine xV.nwZ hq hn (Nat.le_of_ble_eq_true hN) (by show h.2.1 + k + 1 ≤ _; omega) (by show h.2.2.1 + msum k + N ≤ _; omega) ?_
  rw [hk_new h1 hc hl, show (hk m k A fs h).1 = m + (k + 1) by show h.1 + k = _; omega]
  exact kk
theorem xV.kJ {k nx N : Nat} {n : Int32} {fs r : List Value} (hK : kok m k h) (hq : xon M pc = some (.newarray .long, nx)) (hc : mcell m A (k + 1) = .inl (false, .long, N, .inr (.inl fun _ => 0))) (hl : mlen (k + 1) = N) (hn : n = nI N) (hN : Nat.ble N 1024 = true) (hb : (Nat.ble k 40 && Nat.ble (msum k + N) 4400) = true) (kk : xV D N0 M d nx lv (.ref (m + (k + 1)) :: r) (hk m (k + 1) A fs h) Q) : xV D N0 M d pc lv (.int n :: r) (hk m k A fs h) Q := by
  obtain ⟨h1, h2, h3⟩ := hK
  obtain ⟨b1, b2⟩ := msum_le hb
  refine xV.nwJ hq hn (Nat.le_of_ble_eq_true hN) (by show h.2.1 + k + 1 ≤ _; omega) (by show h.2.2.1 + msum k + N ≤ _; omega) ?_
  rw [hk_new h1 hc hl, show (hk m k A fs h).1 = m + (k + 1) by show h.1 + k = _; omega]
  exact kk
theorem xV.kP {k nx idx kf : Nat} {ty : FieldType} {v : Value} {fs fs' r : List Value} (hq : xfl M pc = some (.putfield idx, nx, 7, kf)) (hty : (xct 7)[kf]? = some ty) (hn : narrow ty v = v) (hft : fits ty v = true) (hl : Nat.blt kf fs.length = true) (hf : fs.set kf v = fs') (kk : xV D N0 M d nx lv r (hk m k A fs' h) Q) : xV D N0 M d pc lv (v :: .ref m :: r) (hk m k A fs h) Q := by
  refine xV.put xcl_ok hq (a := m) (fs := fs) ?_ hty hn hft (Nat.le_of_ble_eq_true hl) ?_
  · show (if m = m then _ else _) = _
    rw [if_pos rfl]
  · rw [hf, hk_fs]
    exact kk
theorem xV.kS {k j i nx N : Nat} {w x : Int32} {f : Nat → Int32} {fs r : List Value} (hq : xon M pc = some (.iastore, nx)) (hc : mcell m A (j + 1) = .inl (false, .int, N, .inl f)) (hc' : mcell m (mI A (j + 1) i x) (j + 1) = .inl (false, .int, N, .inl (upd f i x))) (hw : w = nI i) (hi : Nat.blt i N = true) (hN : Nat.ble N 1024 = true) (hj : Nat.blt j k = true) (kk : xV D N0 M d nx lv r (hk m k (mI A (j + 1) i x) fs h) Q) : xV D N0 M d pc lv (.int x :: .int w :: .ref (m + (j + 1)) :: r) (hk m k A fs h) Q := by
  subst hw
  have hi := Nat.le_of_ble_eq_true hi
  have hN := Nat.le_of_ble_eq_true hN
  have hj : j < k := Nat.le_of_ble_eq_true hj
  have e : (nI i).toNatClampNeg = i := xn_clamp (by omega)
  refine xV.iast hq (by rw [hk_get hj, hc]) (xn_in hi (by omega)) ?_
  rw [e, hk_put (A' := mI A (j + 1) i x) hj hc' (mcell_mI m A (j + 1) i x)]
  exact kk
end X40
section Y40
variable {D : va_G} {N0 : Nat} {d m : Nat} {h : XH}
set_option maxRecDepth 100000 in
theorem c_M_init_0 (hK : kok m 0 h) : xV D N0 mM_init (d + 1) 4 (xargs 1 [.ref m]) [] (hk m 0 mZero (fsk m 0) h) (xEq (.returned none) (hk m 41 mInit (fsk m 41) h)) := by
  refine xV.step rfl ?_
  refine xV.step rfl ?_
  refine xV.kI (k := 0) hK rfl rfl rfl rfl rfl rfl ?_
  refine xV.step rfl ?_
  refine xV.step rfl ?_
  refine xV.step rfl ?_
  refine xV.kS (k := 1) (j := 0) (i := 0) rfl rfl rfl rfl rfl rfl rfl ?_
  refine xV.step rfl ?_
  refine xV.step rfl ?_
  refine xV.step rfl ?_
  refine xV.kS (k := 1) (j := 0) (i := 1) rfl rfl rfl rfl rfl rfl rfl ?_
  refine xV.step rfl ?_
  refine xV.step rfl ?_
  refine xV.step rfl ?_
  refine xV.kS (k := 1) (j := 0) (i := 2) rfl rfl rfl rfl rfl rfl rfl ?_
  refine xV.step rfl ?_
  refine xV.step rfl ?_
  refine xV.step rfl ?_
  refine xV.kS (k := 1) (j := 0) (i := 3) rfl rfl rfl rfl rfl rfl rfl ?_
  refine xV.step rfl ?_
  refine xV.step rfl ?_
  refine xV.step rfl ?_
  refine xV.kS (k := 1) (j := 0) (i := 4) rfl rfl rfl rfl rfl rfl rfl ?_
  refine xV.step rfl ?_
  refine xV.step rfl ?_
  refine xV.step rfl ?_
  refine xV.kS (k := 1) (j := 0) (i := 5) rfl rfl rfl rfl rfl rfl rfl ?_
  refine xV.kP (k := 1) (fs' := fsk m 1) rfl rfl rfl rfl rfl rfl ?_
  refine xV.step rfl ?_
  refine xV.step rfl ?_
  refine xV.kI (k := 1) hK rfl rfl rfl rfl rfl rfl ?_
  refine xV.kP (k := 2) (fs' := fsk m 2) rfl rfl rfl rfl rfl rfl ?_
  refine xV.step rfl ?_
  refine xV.step rfl ?_
  refine xV.kI (k := 2) hK rfl rfl rfl rfl rfl rfl ?_
  refine xV.kP (k := 3) (fs' := fsk m 3) rfl rfl rfl rfl rfl rfl ?_
  refine xV.step rfl ?_
  refine xV.step rfl ?_
  refine xV.kI (k := 3) hK rfl rfl rfl rfl rfl rfl ?_
  refine xV.step rfl ?_
  refine xV.step rfl ?_
  refine xV.step rfl ?_
  refine xV.kS (k := 4) (j := 3) (i := 0) rfl rfl rfl rfl rfl rfl rfl ?_
  refine xV.step rfl ?_
  refine xV.step rfl ?_
  refine xV.step rfl ?_
  refine xV.kS (k := 4) (j := 3) (i := 1) rfl rfl rfl rfl rfl rfl rfl ?_
  refine xV.step rfl ?_
  refine xV.step rfl ?_
  refine xV.step rfl ?_
  refine xV.kS (k := 4) (j := 3) (i := 2) rfl rfl rfl rfl rfl rfl rfl ?_
  refine xV.step rfl ?_
  refine xV.step rfl ?_
  refine xV.step rfl ?_
  refine xV.kS (k := 4) (j := 3) (i := 3) rfl rfl rfl rfl rfl rfl rfl ?_
  refine xV.step rfl ?_
  refine xV.step rfl ?_
  refine xV.step rfl ?_
  refine xV.kS (k := 4) (j := 3) (i := 4) rfl rfl rfl rfl rfl rfl rfl ?_
  refine xV.step rfl ?_
  refine xV.step rfl ?_
  refine xV.step rfl ?_
  refine xV.kS (k := 4) (j := 3) (i := 5) rfl rfl rfl rfl rfl rfl rfl ?_
  refine xV.kP (k := 4) (fs' := fsk m 4) rfl rfl rfl rfl rfl rfl ?_
  refine xV.step rfl ?_
  refine xV.step rfl ?_
  refine xV.kZ (k := 4) hK rfl rfl rfl rfl rfl rfl ?_
  refine xV.kP (k := 5) (fs' := fsk m 5) rfl rfl rfl rfl rfl rfl ?_
  refine xV.step rfl ?_
  refine xV.step rfl ?_
  refine xV.kI (k := 5) hK rfl rfl rfl rfl rfl rfl ?_
  refine xV.kP (k := 6) (fs' := fsk m 6) rfl rfl rfl rfl rfl rfl ?_
  refine xV.step rfl ?_
  refine xV.step rfl ?_
  refine xV.kI (k := 6) hK rfl rfl rfl rfl rfl rfl ?_
  refine xV.kP (k := 7) (fs' := fsk m 7) rfl rfl rfl rfl rfl rfl ?_
  refine xV.step rfl ?_
  refine xV.step rfl ?_
  refine xV.kI (k := 7) hK rfl rfl rfl rfl rfl rfl ?_
  refine xV.kP (k := 8) (fs' := fsk m 8) rfl rfl rfl rfl rfl rfl ?_
  refine xV.step rfl ?_
  refine xV.step rfl ?_
  refine xV.kI (k := 8) hK rfl rfl rfl rfl rfl rfl ?_
  refine xV.kP (k := 9) (fs' := fsk m 9) rfl rfl rfl rfl rfl rfl ?_
  refine xV.step rfl ?_
  refine xV.step rfl ?_
  refine xV.kI (k := 9) hK rfl rfl rfl rfl rfl rfl ?_
  refine xV.kP (k := 10) (fs' := fsk m 10) rfl rfl rfl rfl rfl rfl ?_
  refine xV.step rfl ?_
  refine xV.step rfl ?_
  refine xV.kJ (k := 10) hK rfl rfl rfl rfl rfl rfl ?_
  refine xV.kP (k := 11) (fs' := fsk m 11) rfl rfl rfl rfl rfl rfl ?_
  refine xV.step rfl ?_
  refine xV.step rfl ?_
  refine xV.kI (k := 11) hK rfl rfl rfl rfl rfl rfl ?_
  refine xV.kP (k := 12) (fs' := fsk m 12) rfl rfl rfl rfl rfl rfl ?_
  refine xV.step rfl ?_
  refine xV.step rfl ?_
  refine xV.kI (k := 12) hK rfl rfl rfl rfl rfl rfl ?_
  refine xV.kP (k := 13) (fs' := fsk m 13) rfl rfl rfl rfl rfl rfl ?_
  refine xV.step rfl ?_
  refine xV.step rfl ?_
  refine xV.kI (k := 13) hK rfl rfl rfl rfl rfl rfl ?_
  refine xV.kP (k := 14) (fs' := fsk m 14) rfl rfl rfl rfl rfl rfl ?_
  refine xV.step rfl ?_
  refine xV.step rfl ?_
  refine xV.kI (k := 14) hK rfl rfl rfl rfl rfl rfl ?_
  refine xV.kP (k := 15) (fs' := fsk m 15) rfl rfl rfl rfl rfl rfl ?_
  refine xV.step rfl ?_
  refine xV.step rfl ?_
  refine xV.kJ (k := 15) hK rfl rfl rfl rfl rfl rfl ?_
  refine xV.kP (k := 16) (fs' := fsk m 16) rfl rfl rfl rfl rfl rfl ?_
  refine xV.step rfl ?_
  refine xV.step rfl ?_
  refine xV.kI (k := 16) hK rfl rfl rfl rfl rfl rfl ?_
  refine xV.kP (k := 17) (fs' := fsk m 17) rfl rfl rfl rfl rfl rfl ?_
  refine xV.step rfl ?_
  refine xV.step rfl ?_
  refine xV.kI (k := 17) hK rfl rfl rfl rfl rfl rfl ?_
  refine xV.step rfl ?_
  refine xV.step rfl ?_
  refine xV.step rfl ?_
  refine xV.kS (k := 18) (j := 17) (i := 0) rfl rfl rfl rfl rfl rfl rfl ?_
  refine xV.step rfl ?_
  refine xV.step rfl ?_
  refine xV.step rfl ?_
  refine xV.kS (k := 18) (j := 17) (i := 1) rfl rfl rfl rfl rfl rfl rfl ?_
  refine xV.step rfl ?_
  refine xV.step rfl ?_
  refine xV.step rfl ?_
  refine xV.kS (k := 18) (j := 17) (i := 2) rfl rfl rfl rfl rfl rfl rfl ?_
  refine xV.step rfl ?_
  refine xV.step rfl ?_
  refine xV.step rfl ?_
  refine xV.kS (k := 18) (j := 17) (i := 3) rfl rfl rfl rfl rfl rfl rfl ?_
  refine xV.step rfl ?_
  refine xV.step rfl ?_
  refine xV.step rfl ?_
  refine xV.kS (k := 18) (j := 17) (i := 4) rfl rfl rfl rfl rfl rfl rfl ?_
  refine xV.step rfl ?_
  refine xV.step rfl ?_
  refine xV.step rfl ?_
  refine xV.kS (k := 18) (j := 17) (i := 5) rfl rfl rfl rfl rfl rfl rfl ?_
  refine xV.step rfl ?_
  refine xV.step rfl ?_
  refine xV.step rfl ?_
  refine xV.kS (k := 18) (j := 17) (i := 6) rfl rfl rfl rfl rfl rfl rfl ?_
  refine xV.step rfl ?_
  refine xV.step rfl ?_
  refine xV.step rfl ?_
  refine xV.kS (k := 18) (j := 17) (i := 7) rfl rfl rfl rfl rfl rfl rfl ?_
  refine xV.kP (k := 18) (fs' := fsk m 18) rfl rfl rfl rfl rfl rfl ?_
  refine xV.step rfl ?_
  refine xV.step rfl ?_
  refine xV.kI (k := 18) hK rfl rfl rfl rfl rfl rfl ?_
  refine xV.kP (k := 19) (fs' := fsk m 19) rfl rfl rfl rfl rfl rfl ?_
  refine xV.step rfl ?_
  refine xV.step rfl ?_
  refine xV.kI (k := 19) hK rfl rfl rfl rfl rfl rfl ?_
  refine xV.step rfl ?_
  refine xV.step rfl ?_
  refine xV.step rfl ?_
  refine xV.kS (k := 20) (j := 19) (i := 0) rfl rfl rfl rfl rfl rfl rfl ?_
  refine xV.step rfl ?_
  refine xV.step rfl ?_
  refine xV.step rfl ?_
  refine xV.kS (k := 20) (j := 19) (i := 1) rfl rfl rfl rfl rfl rfl rfl ?_
  refine xV.step rfl ?_
  refine xV.step rfl ?_
  refine xV.step rfl ?_
  refine xV.kS (k := 20) (j := 19) (i := 2) rfl rfl rfl rfl rfl rfl rfl ?_
  refine xV.step rfl ?_
  refine xV.step rfl ?_
  refine xV.step rfl ?_
  refine xV.kS (k := 20) (j := 19) (i := 3) rfl rfl rfl rfl rfl rfl rfl ?_
  refine xV.step rfl ?_
  refine xV.step rfl ?_
  refine xV.step rfl ?_
  refine xV.kS (k := 20) (j := 19) (i := 4) rfl rfl rfl rfl rfl rfl rfl ?_
  refine xV.step rfl ?_
  refine xV.step rfl ?_
  refine xV.step rfl ?_
  refine xV.kS (k := 20) (j := 19) (i := 5) rfl rfl rfl rfl rfl rfl rfl ?_
  refine xV.step rfl ?_
  refine xV.step rfl ?_
  refine xV.step rfl ?_
  refine xV.kS (k := 20) (j := 19) (i := 6) rfl rfl rfl rfl rfl rfl rfl ?_
  refine xV.step rfl ?_
  refine xV.step rfl ?_
  refine xV.step rfl ?_
  refine xV.kS (k := 20) (j := 19) (i := 7) rfl rfl rfl rfl rfl rfl rfl ?_
  refine xV.kP (k := 20) (fs' := fsk m 20) rfl rfl rfl rfl rfl rfl ?_
  refine xV.step rfl ?_
  refine xV.step rfl ?_
  refine xV.kJ (k := 20) hK rfl rfl rfl rfl rfl rfl ?_
  refine xV.kP (k := 21) (fs' := fsk m 21) rfl rfl rfl rfl rfl rfl ?_
  refine xV.step rfl ?_
  refine xV.step rfl ?_
  refine xV.kZ (k := 21) hK rfl rfl rfl rfl rfl rfl ?_
  refine xV.kP (k := 22) (fs' := fsk m 22) rfl rfl rfl rfl rfl rfl ?_
  refine xV.step rfl ?_
  refine xV.step rfl ?_
  refine xV.kJ (k := 22) hK rfl rfl rfl rfl rfl rfl ?_
  refine xV.kP (k := 23) (fs' := fsk m 23) rfl rfl rfl rfl rfl rfl ?_
  refine xV.step rfl ?_
  refine xV.step rfl ?_
  refine xV.kI (k := 23) hK rfl rfl rfl rfl rfl rfl ?_
  refine xV.kP (k := 24) (fs' := fsk m 24) rfl rfl rfl rfl rfl rfl ?_
  refine xV.step rfl ?_
  refine xV.step rfl ?_
  refine xV.kI (k := 24) hK rfl rfl rfl rfl rfl rfl ?_
  refine xV.kP (k := 25) (fs' := fsk m 25) rfl rfl rfl rfl rfl rfl ?_
  refine xV.step rfl ?_
  refine xV.step rfl ?_
  refine xV.kI (k := 25) hK rfl rfl rfl rfl rfl rfl ?_
  refine xV.kP (k := 26) (fs' := fsk m 26) rfl rfl rfl rfl rfl rfl ?_
  refine xV.step rfl ?_
  refine xV.step rfl ?_
  refine xV.kJ (k := 26) hK rfl rfl rfl rfl rfl rfl ?_
  refine xV.kP (k := 27) (fs' := fsk m 27) rfl rfl rfl rfl rfl rfl ?_
  refine xV.step rfl ?_
  refine xV.step rfl ?_
  refine xV.kI (k := 27) hK rfl rfl rfl rfl rfl rfl ?_
  refine xV.kP (k := 28) (fs' := fsk m 28) rfl rfl rfl rfl rfl rfl ?_
  refine xV.step rfl ?_
  refine xV.step rfl ?_
  refine xV.kI (k := 28) hK rfl rfl rfl rfl rfl rfl ?_
  refine xV.kP (k := 29) (fs' := fsk m 29) rfl rfl rfl rfl rfl rfl ?_
  refine xV.step rfl ?_
  refine xV.step rfl ?_
  refine xV.kI (k := 29) hK rfl rfl rfl rfl rfl rfl ?_
  refine xV.kP (k := 30) (fs' := fsk m 30) rfl rfl rfl rfl rfl rfl ?_
  refine xV.step rfl ?_
  refine xV.step rfl ?_
  refine xV.kI (k := 30) hK rfl rfl rfl rfl rfl rfl ?_
  refine xV.kP (k := 31) (fs' := fsk m 31) rfl rfl rfl rfl rfl rfl ?_
  refine xV.step rfl ?_
  refine xV.step rfl ?_
  refine xV.kI (k := 31) hK rfl rfl rfl rfl rfl rfl ?_
  refine xV.kP (k := 32) (fs' := fsk m 32) rfl rfl rfl rfl rfl rfl ?_
  refine xV.step rfl ?_
  refine xV.step rfl ?_
  refine xV.kI (k := 32) hK rfl rfl rfl rfl rfl rfl ?_
  refine xV.kP (k := 33) (fs' := fsk m 33) rfl rfl rfl rfl rfl rfl ?_
  refine xV.step rfl ?_
  refine xV.step rfl ?_
  refine xV.kI (k := 33) hK rfl rfl rfl rfl rfl rfl ?_
  refine xV.kP (k := 34) (fs' := fsk m 34) rfl rfl rfl rfl rfl rfl ?_
  refine xV.step rfl ?_
  refine xV.step rfl ?_
  refine xV.kI (k := 34) hK rfl rfl rfl rfl rfl rfl ?_
  refine xV.kP (k := 35) (fs' := fsk m 35) rfl rfl rfl rfl rfl rfl ?_
  refine xV.step rfl ?_
  refine xV.step rfl ?_
  refine xV.kJ (k := 35) hK rfl rfl rfl rfl rfl rfl ?_
  refine xV.kP (k := 36) (fs' := fsk m 36) rfl rfl rfl rfl rfl rfl ?_
  refine xV.step rfl ?_
  refine xV.step rfl ?_
  refine xV.kI (k := 36) hK rfl rfl rfl rfl rfl rfl ?_
  refine xV.kP (k := 37) (fs' := fsk m 37) rfl rfl rfl rfl rfl rfl ?_
  refine xV.step rfl ?_
  refine xV.step rfl ?_
  refine xV.kI (k := 37) hK rfl rfl rfl rfl rfl rfl ?_
  refine xV.kP (k := 38) (fs' := fsk m 38) rfl rfl rfl rfl rfl rfl ?_
  refine xV.step rfl ?_
  refine xV.step rfl ?_
  refine xV.kI (k := 38) hK rfl rfl rfl rfl rfl rfl ?_
  refine xV.kP (k := 39) (fs' := fsk m 39) rfl rfl rfl rfl rfl rfl ?_
  refine xV.step rfl ?_
  refine xV.step rfl ?_
  refine xV.kI (k := 39) hK rfl rfl rfl rfl rfl rfl ?_
  refine xV.kP (k := 40) (fs' := fsk m 40) rfl rfl rfl rfl rfl rfl ?_
  refine xV.step rfl ?_
  refine xV.step rfl ?_
  refine xV.kI (k := 40) hK rfl rfl rfl rfl rfl rfl ?_
  refine xV.kP (k := 41) (fs' := fsk m 41) rfl rfl rfl rfl rfl rfl ?_
  exact xV.vret rfl rfl ⟨rfl, rfl⟩
theorem c_M_init (hK : kok m 0 h) (hx : h.2.2.2 m = some (.inr (7, xdf 7))) : xV D N0 mM_init (d + 1) 0 (xargs 1 [.ref m]) [] h (xEq (.returned none) (hm m mInit (h.1 + 41, h.2.1 + 41, h.2.2.1 + msum 41, h.2.2.2))) := by
  have e0 : h = hk m 0 mZero (fsk m 0) h := by
    refine Prod.ext rfl (Prod.ext rfl (Prod.ext rfl ?_))
    funext q
    show h.2.2.2 q = if q = m then some (.inr (7, fsk m 0)) else if m < q ∧ q ≤ m + 0 then _ else h.2.2.2 q
    by_cases hq : q = m
    · rw [if_pos hq, hq, hx]
      rfl
    · rw [if_neg hq, if_neg (by omega)]
  have e1 : hk m 41 mInit (fsk m 41) h = hm m mInit (h.1 + 41, h.2.1 + 41, h.2.2.1 + msum 41, h.2.2.2) := by
    refine Prod.ext rfl (Prod.ext rfl (Prod.ext rfl ?_))
    funext q
    show (if q = m then some (.inr (7, fsk m 41)) else if m < q ∧ q ≤ m + 41 then some (mcell m mInit (q - m)) else h.2.2.2 q) = if m ≤ q ∧ q ≤ m + 41 then some (mcell m mInit (q - m)) else h.2.2.2 q
    by_cases hq : q = m
    · rw [if_pos hq, if_pos (by omega), show q - m = 0 by omega]
      rfl
    · rw [if_neg hq]
      by_cases hr : m < q ∧ q ≤ m + 41
      · rw [if_pos hr, if_pos (by omega)]
      · rw [if_neg hr, if_neg (by omega)]
  have key := c_M_init_0 (D := D) (N0 := N0) (d := d) hK
  rw [e1, ← e0] at key
  refine xV.step rfl ?_
  refine xV.obj rfl g_mM_init_1 (Nat.le_of_ble_eq_true rfl) ?_
  exact key
end Y40
end
section
/- Part 41: the class's checks: they throw or go on. -/
def xsup : List String := ["java/lang/RuntimeException", "java/lang/Exception"]
def xin (w : Jvm.Cond) : Bool := decide (w ∈ lw_tbl) && xgw w
theorem xin_W {l : List Jvm.Cond} (h : l.all xin = true) : ∀ w ∈ l, xW w := fun w hw => by
  have h1 := List.all_eq_true.mp h w hw
  unfold xin at h1
  rw [Bool.and_eq_true] at h1
  exact ⟨of_decide_eq_true h1.1, h1.2⟩
theorem thr_io : (vx_atS "ChannelNet" 289 "java/lang/IndexOutOfBoundsException" xsup).all xin = true := by decide +kernel
theorem thr_ia : (vx_atS "ChannelNet" 174 "java/lang/IllegalArgumentException" xsup).all xin = true := by decide +kernel
theorem thr_is : (vx_atS "ChannelNet" 296 "java/lang/IllegalStateException" xsup).all xin = true := by decide +kernel
theorem lnk_io : [Jvm.Cond.classLink "ChannelNet" 285 "java/lang/IndexOutOfBoundsException", .initialized "java/lang/IndexOutOfBoundsException"].all xin = true := by decide +kernel
theorem lnk_ia : [Jvm.Cond.classLink "ChannelNet" 170 "java/lang/IllegalArgumentException", .initialized "java/lang/IllegalArgumentException"].all xin = true := by decide +kernel
theorem lnk_is : [Jvm.Cond.classLink "ChannelNet" 292 "java/lang/IllegalStateException", .initialized "java/lang/IllegalStateException"].all xin = true := by decide +kernel
/-- the end of a check: on, or the exception ci thrown -/
def xCk (b : Bool) (ci : Nat) (h : XH) : Outcome → XH → Prop := fun o u => (b = true ∧ o = .returned none ∧ u = h) ∨ (b = false ∧ o = .threw h.1 ∧ u = xnew h (.inr (ci, [])) 6)
def xrm (h : XH) : Prop := h.2.1 + 1 ≤ xCmax ∧ h.2.2.1 + 6 ≤ xSmax
/-- an exception's end, or another one -/
def xEd (c : Option Nat) (h : XH) (Q0 : Outcome → XH → Prop) : Outcome → XH → Prop := fun o u => match c with
  | none => Q0 o u
  | some ci => o = .threw h.1 ∧ u = xnew h (.inr (ci, [])) 6
section W41
variable {D : va_G} {N0 : Nat} {M : XM} {d pc : Nat} {lv : XL} {h : XH} {Q : Outcome → XH → Prop}
theorem xV.ck {M2 : XM} {idx nx ci : Nat} {b : Bool} {v : Int32} {rest : List Value} (hq : xon M pc = some (.invokestatic idx, nx)) (hw : xcs M M2 idx 1) (hok2 : xOK M2 = true) (hsz : (lg_sl [.int v]).length ≤ M2.2.2.1) (hcat : (rest.map fun v => v.category).sum + (M2.2.2.1 + 11) ≤ 64)
    (hout : (tableOf M.2.2.2.2.1).all (fun x => !covers x pc) = true) (hcon : xV D N0 M2 d 0 (xargs M2.2.2.1 [.int v]) [] h (xCk b ci h)) (k2 : b = false → Q (.threw h.1) (xnew h (.inr (ci, [])) 6)) (k1 : b = true → xV D N0 M (d + 1) nx lv rest h Q) : xV D N0 M (d + 1) pc lv (.int v :: rest) h Q :=
  xV.callS (as := [.int v]) (rest := rest) hq rfl hw hok2 hsz hcat hcon (fun w u hz => by
    rcases hz with ⟨hb, e, rfl⟩ | ⟨_, e, _⟩
    · cases e; exact k1 hb
    · cases e) (fun a u hz => by
    rcases hz with ⟨_, e, _⟩ | ⟨hb, e, rfl⟩
    · cases e
    · cases e; exact xT.out hout (k2 hb))
end W41
section X41
variable {D : va_G} {N0 : Nat} {d : Nat} {h : XH}
theorem c_N_checkIndex {b : Bool} (hr : xrm h) : xV D N0 mN_checkIndex (d + 6) 0 (xargs 1 [.int (xB b)]) [] h (xCk b 8 h) := by
  refine xV.step rfl ?_
  refine xV.br rfl (fun h1 => ?_) (fun h1 => ?_)
  · have hb : b = false := xB_f h1
    refine xV.throw (names := xsup) (ci := 8) (text := "there is no such thing") rfl rfl (Or.inr rfl) rfl rfl rfl (by decide +kernel) (by decide +kernel) (xin_W lnk_io _ List.mem_cons_self) (xin_W lnk_io _ (List.mem_cons_of_mem _ List.mem_cons_self)) (xin_W thr_io) rfl (by decide) rfl (by simp [xsup]) (Nat.le_of_ble_eq_true rfl) hr.1 hr.2 (Or.inr ⟨hb, rfl, rfl⟩)
  · exact xV.vret rfl rfl (Or.inl ⟨xB_t h1, rfl, rfl⟩)
theorem c_N_checkArgument {b : Bool} (hr : xrm h) : xV D N0 mN_checkArgument (d + 6) 0 (xargs 1 [.int (xB b)]) [] h (xCk b 9 h) := by
  refine xV.step rfl ?_
  refine xV.br rfl (fun h1 => ?_) (fun h1 => ?_)
  · have hb : b = false := xB_f h1
    refine xV.throw (names := xsup) (ci := 9) (text := "a number is not as said") rfl rfl (Or.inr rfl) rfl rfl rfl (by decide +kernel) (by decide +kernel) (xin_W lnk_ia _ List.mem_cons_self) (xin_W lnk_ia _ (List.mem_cons_of_mem _ List.mem_cons_self)) (xin_W thr_ia) rfl (by decide) rfl (by simp [xsup]) (Nat.le_of_ble_eq_true rfl) hr.1 hr.2 (Or.inr ⟨hb, rfl, rfl⟩)
  · exact xV.vret rfl rfl (Or.inl ⟨xB_t h1, rfl, rfl⟩)
theorem c_N_checkState {b : Bool} (hr : xrm h) : xV D N0 mN_checkState (d + 6) 0 (xargs 1 [.int (xB b)]) [] h (xCk b 10 h) := by
  refine xV.step rfl ?_
  refine xV.br rfl (fun h1 => ?_) (fun h1 => ?_)
  · have hb : b = false := xB_f h1
    refine xV.throw (names := xsup) (ci := 10) (text := "it can't be done as things are") rfl rfl (Or.inr rfl) rfl rfl rfl (by decide +kernel) (by decide +kernel) (xin_W lnk_is _ List.mem_cons_self) (xin_W lnk_is _ (List.mem_cons_of_mem _ List.mem_cons_self)) (xin_W thr_is) rfl (by decide) rfl (by simp [xsup]) (Nat.le_of_ble_eq_true rfl) hr.1 hr.2 (Or.inr ⟨hb, rfl, rfl⟩)
  · exact xV.vret rfl rfl (Or.inl ⟨xB_t h1, rfl, rfl⟩)
theorem c_N_lockOf {s : Int64} : xV D N0 mN_lockOf d 0 (xargs 4 [.long s]) [] h (xEq (.returned (some (.long (lk s)))) h) := by
  repeat' refine xV.step rfl ?_
  exact xV.lret rfl rfl ⟨rfl, rfl⟩
theorem c_N_checkNode {v : Int32} (hr : xrm h) : xV D N0 mN_checkNode (d + 7) 0 (xargs 1 [.int v]) [] h (xCk (nd v) 8 h) := by
  have go : ∀ b : Bool, nd v = b → xV D N0 mN_checkNode (d + 7) 15 (xargs 1 [.int v]) [.int (xB b)] h (xCk (nd v) 8 h) := fun b hb => by
    refine xV.ck rfl g_mN_checkNode_106 mN_checkIndex_ok (Nat.le_of_ble_eq_true rfl) (Nat.le_of_ble_eq_true rfl) rfl (c_N_checkIndex (b := b) hr) (fun z => Or.inr ⟨by rw [hb]; exact z, rfl, rfl⟩) (fun z => ?_)
    exact xV.vret rfl rfl (Or.inl ⟨by rw [hb]; exact z, rfl, rfl⟩)
  refine xV.step rfl ?_
  refine xV.br rfl (fun h1 => ?_) (fun h1 => ?_)
  · refine xV.step rfl ?_
    refine go false (decide_eq_false ?_)
    simp only [Int32.lt_iff_toInt_lt, Int32.le_iff_toInt_le] at *
    omega
  repeat' refine xV.step rfl ?_
  refine xV.br rfl (fun h2 => ?_) (fun h2 => ?_)
  · refine xV.step rfl ?_
    refine go false (decide_eq_false ?_)
    simp only [Int32.lt_iff_toInt_lt, Int32.le_iff_toInt_le] at *
    have e5 : (5 : Int32).toInt = 5 := rfl
    have e6 : (6 : Int32).toInt = 6 := rfl
    omega
  · refine xV.step rfl ?_
    refine xV.step rfl ?_
    refine go true (decide_eq_true ?_)
    simp only [Int32.lt_iff_toInt_lt, Int32.le_iff_toInt_le] at *
    have e5 : (5 : Int32).toInt = 5 := rfl
    have e6 : (6 : Int32).toInt = 6 := rfl
    omega
def eEnds (f t a : Int32) : Option Nat := if nd f = true ∧ nd t = true then (if ispr f t a = true then none else some 9) else some 8
theorem c_N_checkEnds {f t a : Int32} (hr : xrm h) : xV D N0 mN_checkEnds (d + 8) 0 (xargs 3 [.int f, .int t, .int a]) [] h (xEd (eEnds f t a) h (xEq (.returned none) h)) := by
  have ex : ∀ ci, eEnds f t a = some ci → xEd (eEnds f t a) h (xEq (.returned none) h) (.threw h.1) (xnew h (.inr (ci, [])) 6) := fun ci hz => by
    rw [hz]; exact ⟨rfl, rfl⟩
  refine xV.step rfl ?_
  refine xV.ck rfl g_mN_checkEnds_58 mN_checkNode_ok (Nat.le_of_ble_eq_true rfl) (Nat.le_of_ble_eq_true rfl) rfl (c_N_checkNode hr) (fun z => ex 8 (by unfold eEnds; rw [if_neg (fun y => by rw [z] at y; cases y.1)])) (fun z1 => ?_)
  refine xV.step rfl ?_
  refine xV.ck rfl g_mN_checkEnds_58 mN_checkNode_ok (Nat.le_of_ble_eq_true rfl) (Nat.le_of_ble_eq_true rfl) rfl (c_N_checkNode hr) (fun z => ex 8 (by unfold eEnds; rw [if_neg (fun y => by rw [z] at y; cases y.2)])) (fun z2 => ?_)
  have g2 : ∀ b : Bool, ispr f t a = b → f ≠ t → xV D N0 mN_checkEnds (d + 8) 38 (xargs 3 [.int f, .int t, .int a]) [.int (xB b)] h (xEd (eEnds f t a) h (xEq (.returned none) h)) := fun b hb hne => by
    refine xV.ck rfl g_mN_checkEnds_62 mN_checkArgument_ok (Nat.le_of_ble_eq_true rfl) (Nat.le_of_ble_eq_true rfl) rfl (c_N_checkArgument (b := b) hr) (fun z => ex 9 (by unfold eEnds; rw [if_pos ⟨z1, z2⟩, if_neg (by rw [hb, z]; decide)])) (fun z => ?_)
    refine xV.vret rfl rfl ?_
    rw [show eEnds f t a = none by unfold eEnds; rw [if_pos ⟨z1, z2⟩, if_pos (by rw [hb, z])]]
    exact ⟨rfl, rfl⟩
  have g1 : ∀ b : Bool, decide (f ≠ t) = b → xV D N0 mN_checkEnds (d + 8) 18 (xargs 3 [.int f, .int t, .int a]) [.int (xB b)] h (xEd (eEnds f t a) h (xEq (.returned none) h)) := fun b hb => by
    refine xV.ck rfl g_mN_checkEnds_62 mN_checkArgument_ok (Nat.le_of_ble_eq_true rfl) (Nat.le_of_ble_eq_true rfl) rfl (c_N_checkArgument (b := b) hr) (fun z => ex 9 ?_) (fun z => ?_)
    · have hne : ¬ f ≠ t := of_decide_eq_false (hb.trans z)
      unfold eEnds
      rw [if_pos ⟨z1, z2⟩, if_neg (fun y => hne (of_decide_eq_true y).1)]
    have hne : f ≠ t := of_decide_eq_true (hb.trans z)
    repeat' refine xV.step rfl ?_
    refine xV.br rfl (fun h3 => ?_) (fun h3 => ?_)
    · refine xV.step rfl ?_
      exact g2 false (decide_eq_false (fun y => by
        have := y.2.1
        simp only [Int32.lt_iff_toInt_lt, Int32.le_iff_toInt_le] at *
        omega)) hne
    repeat' refine xV.step rfl ?_
    refine xV.br rfl (fun h4 => ?_) (fun h4 => ?_)
    · refine xV.step rfl ?_
      exact g2 false (decide_eq_false (fun y => by
        have := y.2.2
        simp only [Int32.lt_iff_toInt_lt, Int32.le_iff_toInt_le] at *
        omega)) hne
    · refine xV.step rfl ?_
      refine xV.step rfl ?_
      exact g2 true (decide_eq_true ⟨hne, by simp only [Int32.lt_iff_toInt_lt, Int32.le_iff_toInt_le] at *; omega, by simp only [Int32.lt_iff_toInt_lt, Int32.le_iff_toInt_le] at *; omega⟩) hne
  repeat' refine xV.step rfl ?_
  refine xV.br rfl (fun h1 => ?_) (fun h1 => ?_)
  · refine xV.step rfl ?_
    exact g1 false (decide_eq_false (fun y => y h1))
  · refine xV.step rfl ?_
    refine xV.step rfl ?_
    exact g1 true (decide_eq_true h1)
end X41
end
section
/- Part 42: small methods of Channel and Promise. -/
def chF (f s : Int32) (b1 b2 pl : Nat) (la st he pu pd pa : Int32) (se : Bool) : List Value := [.int f, .int s, .ref b1, .ref b2, .ref pl, .int la, .int st, .int he, .int pu, .int pd, .int pa, .int (xB se)]
def prF (p q am : Int32) (lo : Int64) (dl mi gi : Int32) (po : Bool) : List Value := [.int p, .int q, .int am, .long lo, .int dl, .int mi, .int gi, .int (xB po)]
def isIn0 (mi gi l : Int32) : Bool := decide (mi ≤ l ∧ (gi = -1 ∨ l < gi))
section X42
variable {D : va_G} {N0 : Nat} {d a : Nat} {h : XH} {f s la st he pu pd pa p q am dl mi gi : Int32} {b1 b2 pl : Nat} {se po : Bool} {lo : Int64}
theorem c_C_joins (ha : xget h a = some (.inr (4, chF f s b1 b2 pl la st he pu pd pa se))) {n : Int32} :
    xV D N0 mC_joins d 0 (xargs 2 [.ref a, .int n]) [] h (xEq (.returned (some (.int (xB (decide (n = f ∨ n = s)))))) h) := by
  repeat' first
    | refine xV.step rfl ?_
    | refine xV.get xcl_ok rfl ha rfl ?_
    | refine xV.br rfl (fun _ => ?_) (fun _ => ?_)
  all_goals refine xV.iret rfl rfl rfl ⟨?_, rfl⟩
  all_goals first
    | exact xB1 (by simp_all)
    | exact xB0 (by simp_all)
theorem c_C_partnerOf (ha : xget h a = some (.inr (4, chF f s b1 b2 pl la st he pu pd pa se))) {n : Int32} :
    xV D N0 mC_partnerOf d 0 (xargs 2 [.ref a, .int n]) [] h (xEq (.returned (some (.int (if n = f then s else f)))) h) := by
  repeat' first
    | refine xV.step rfl ?_
    | refine xV.get xcl_ok rfl ha rfl ?_
    | refine xV.br rfl (fun _ => ?_) (fun _ => ?_)
  all_goals refine xV.iret rfl rfl rfl ⟨?_, rfl⟩
  all_goals simp_all
theorem c_C_hasState (ha : xget h a = some (.inr (4, chF f s b1 b2 pl la st he pu pd pa se))) {n : Int32} :
    xV D N0 mC_hasState d 0 (xargs 2 [.ref a, .int n]) [] h (xEq (.returned (some (.int (xB (decide (0 ≤ n ∧ n ≤ la)))))) h) := by
  repeat' first
    | refine xV.step rfl ?_
    | refine xV.get xcl_ok rfl ha rfl ?_
    | refine xV.br rfl (fun _ => ?_) (fun _ => ?_)
  all_goals refine xV.iret rfl rfl rfl ⟨?_, rfl⟩
  all_goals first
    | exact xB1 (by simp only [Int32.lt_iff_toInt_lt, Int32.le_iff_toInt_le] at *; omega)
    | exact xB0 (by simp only [Int32.lt_iff_toInt_lt, Int32.le_iff_toInt_le] at *; omega)
theorem c_C_hasRoomForState (ha : xget h a = some (.inr (4, chF f s b1 b2 pl la st he pu pd pa se))) :
    xV D N0 mC_hasRoomForState d 0 (xargs 1 [.ref a]) [] h (xEq (.returned (some (.int (xB (decide (la < 63)))))) h) := by
  repeat' first
    | refine xV.step rfl ?_
    | refine xV.get xcl_ok rfl ha rfl ?_
    | refine xV.br rfl (fun _ => ?_) (fun _ => ?_)
  all_goals refine xV.iret rfl rfl rfl ⟨?_, rfl⟩
  all_goals first
    | exact xB1 (by simp only [Int32.lt_iff_toInt_lt, Int32.le_iff_toInt_le] at *; omega)
    | exact xB0 (by simp only [Int32.lt_iff_toInt_lt, Int32.le_iff_toInt_le] at *; omega)
theorem c_C_punisher (ha : xget h a = some (.inr (4, chF f s b1 b2 pl la st he pu pd pa se))) :
    xV D N0 mC_punisher (d + 1) 0 (xargs 1 [.ref a]) [] h (xEq (.returned (some (.int (if pu = f then s else f)))) h) := by
  repeat' first
    | refine xV.step rfl ?_
    | refine xV.get xcl_ok rfl ha rfl ?_
  refine xV.cV rfl rfl ha rfl g_mC_punisher_79 mC_partnerOf_ok (Nat.le_of_ble_eq_true rfl) (Nat.le_of_ble_eq_true rfl) (c_C_partnerOf ha) ?_
  exact xV.iret rfl rfl rfl ⟨rfl, rfl⟩
def cpun (st pd la pa hg : Int32) : Bool := decide (st = 1 ∧ pd < la ∧ hg < pa + 10)
theorem c_C_isPunishable (ha : xget h a = some (.inr (4, chF f s b1 b2 pl la st he pu pd pa se))) {hg : Int32} :
    xV D N0 mC_isPunishable d 0 (xargs 2 [.ref a, .int hg]) [] h (xEq (.returned (some (.int (xB (cpun st pd la pa hg))))) h) := by
  unfold cpun
  repeat' first
    | refine xV.step rfl ?_
    | refine xV.get xcl_ok rfl ha rfl ?_
    | refine xV.br rfl (fun _ => ?_) (fun _ => ?_)
  all_goals refine xV.iret rfl rfl rfl ⟨?_, rfl⟩
  all_goals first
    | exact xB1 (by simp only [Int32.lt_iff_toInt_lt, Int32.le_iff_toInt_le, ← Int32.toInt_inj] at *; omega)
    | exact xB0 (by simp only [Int32.lt_iff_toInt_lt, Int32.le_iff_toInt_le, ← Int32.toInt_inj] at *; omega)
def cspent (st he : Int32) (se : Bool) : Int32 := if se = true ∧ he = 0 then 2 else st
theorem c_C_closeIfSpent (ha : xget h a = some (.inr (4, chF f s b1 b2 pl la st he pu pd pa se))) :
    xV D N0 mC_closeIfSpent d 0 (xargs 1 [.ref a]) [] h (fun o u => o = .returned none ∧ (u = xput h a (.inr (4, chF f s b1 b2 pl la (cspent st he se) he pu pd pa se)))) := by
  have same : cspent st he se = st → xput h a (.inr (4, chF f s b1 b2 pl la (cspent st he se) he pu pd pa se)) = h := fun e => by
    rw [e]
    refine Prod.ext rfl (Prod.ext rfl (Prod.ext rfl ?_))
    funext x
    show (if x = a then _ else h.2.2.2 x) = h.2.2.2 x
    by_cases hx : x = a
    · rw [if_pos hx, hx]; exact ha.symm
    · rw [if_neg hx]
  refine xV.step rfl ?_
  refine xV.get xcl_ok rfl ha rfl ?_
  refine xV.br rfl (fun h1 => ?_) (fun h1 => ?_)
  · exact xV.vret rfl rfl ⟨rfl, (same (by unfold cspent; rw [if_neg (fun z => by rw [xB_f h1] at z; cases z.1)])).symm⟩
  refine xV.step rfl ?_
  refine xV.get xcl_ok rfl ha rfl ?_
  refine xV.br rfl (fun h2 => ?_) (fun h2 => ?_)
  · refine xV.step rfl ?_
    refine xV.step rfl ?_
    refine xV.put xcl_ok rfl ha rfl rfl rfl (Nat.le_of_ble_eq_true rfl) ?_
    refine xV.vret rfl rfl ⟨rfl, ?_⟩
    unfold cspent
    rw [if_pos ⟨xB_t h1, h2⟩]
    rfl
  · exact xV.vret rfl rfl ⟨rfl, (same (by unfold cspent; rw [if_neg (fun z => h2 z.2)])).symm⟩
theorem c_P_isIn (ha : xget h a = some (.inr (5, prF p q am lo dl mi gi po))) {l : Int32} :
    xV D N0 mP_isIn d 0 (xargs 2 [.ref a, .int l]) [] h (xEq (.returned (some (.int (xB (isIn0 mi gi l))))) h) := by
  unfold isIn0
  repeat' first
    | refine xV.step rfl ?_
    | refine xV.get xcl_ok rfl ha rfl ?_
    | refine xV.br rfl (fun _ => ?_) (fun _ => ?_)
  all_goals refine xV.iret rfl rfl rfl ⟨?_, rfl⟩
  all_goals first
    | exact xB1 (by simp only [Int32.lt_iff_toInt_lt, Int32.le_iff_toInt_le, ← Int32.toInt_inj] at *; omega)
    | exact xB0 (by simp only [Int32.lt_iff_toInt_lt, Int32.le_iff_toInt_le, ← Int32.toInt_inj] at *; omega)
end X42
end
section
/- Part 43: arrays by natural indices; Secrets. -/
section X43
variable {D : va_G} {N0 : Nat} {M : XM} {d pc a n nx j : Nat} {lv : XL} {h : XH} {Q : Outcome → XH → Prop} {i x : Int32} {r : List Value} {f : Nat → Int32} {g : Nat → Int64}
theorem xV.ii (hq : xon M pc = some (.iaload, nx)) (ha : xget h a = some (.inl (false, .int, n, .inl f))) (hi : i = nI j) (hj : j < n) (hn : n ≤ 1024) (k : xV D N0 M d nx lv (.int (f j) :: r) h Q) : xV D N0 M d pc lv (.int i :: .ref a :: r) h Q := by
  subst hi
  refine xV.iald hq ha (xn_in hj (by omega)) ?_
  rw [xn_clamp (by omega)]
  exact k
theorem xV.ij (hq : xon M pc = some (.laload, nx)) (ha : xget h a = some (.inl (false, .long, n, .inr (.inl g)))) (hi : i = nI j) (hj : j < n) (hn : n ≤ 1024) (k : xV D N0 M d nx lv (.long (g j) :: r) h Q) : xV D N0 M d pc lv (.int i :: .ref a :: r) h Q := by
  subst hi
  refine xV.lald hq ha (xn_in hj (by omega)) ?_
  rw [xn_clamp (by omega)]
  exact k
theorem xV.is (hq : xon M pc = some (.iastore, nx)) (ha : xget h a = some (.inl (false, .int, n, .inl f))) (hi : i = nI j) (hj : j < n) (hn : n ≤ 1024) (k : xV D N0 M d nx lv r (xput h a (.inl (false, .int, n, .inl (upd f j x)))) Q) : xV D N0 M d pc lv (.int x :: .int i :: .ref a :: r) h Q := by
  subst hi
  refine xV.iast hq ha (xn_in hj (by omega)) ?_
  rw [xn_clamp (by omega)]
  exact k
theorem xV.js {y : Int64} (hq : xon M pc = some (.lastore, nx)) (ha : xget h a = some (.inl (false, .long, n, .inr (.inl g)))) (hi : i = nI j) (hj : j < n) (hn : n ≤ 1024) (k : xV D N0 M d nx lv r (xput h a (.inl (false, .long, n, .inr (.inl (vp_updL g j y))))) Q) : xV D N0 M d pc lv (.long y :: .int i :: .ref a :: r) h Q := by
  subst hi
  refine xV.last hq ha (xn_in hj (by omega)) ?_
  rw [xn_clamp (by omega)]
  exact k
end X43
theorem xput_get {h : XH} {a : Nat} {c : XC} : xget (xput h a c) a = some c := by
  show (if a = a then some c else _) = _
  rw [if_pos rfl]
theorem xput_ne {h : XH} {a b : Nat} {c : XC} (hne : b ≠ a) : xget (xput h a c) b = xget h b := by
  show (if b = a then some c else h.2.2.2 b) = h.2.2.2 b
  rw [if_neg hne]
theorem mfind_none {f : Nat → Int64} {k : Int64} : ∀ {n : Nat}, (∀ i, i < n → f i ≠ k) → mfind f k n = none
  | 0, _ => rfl
  | n + 1, hn => by
    unfold mfind
    rw [if_neg (hn n (by omega))]
    exact mfind_none (fun i hi => hn i (by omega))
theorem mfind_some {f : Nat → Int64} {k : Int64} {j : Nat} : ∀ {n : Nat}, j < n → f j = k → (∀ i, i < n → f i = k → i = j) → mfind f k n = some j
  | 0, hj, _, _ => by omega
  | n + 1, hj, hf, hu => by
    unfold mfind
    by_cases hn : f n = k
    · rw [if_pos hn, hu n (by omega) hn]
    · rw [if_neg hn]
      have : j ≠ n := fun z => hn (by rw [← z]; exact hf)
      exact mfind_some (by omega) hf (fun i hi hz => hu i (by omega) hz)
section Y43
variable {D : va_G} {N0 : Nat} {d a l g : Nat} {h : XH} {f : Nat → Int64} {w : Nat → Int32} {K : Nat}
theorem c_S_find_loop (ha : xget h a = some (.inr (1, [.ref l, .ref g, .int (nI K)]))) (hl : xget h l = some (.inl (false, .long, 24, .inr (.inl f)))) (hK : K ≤ 24) (hd : ∀ i j, i < K → j < K → f i = f j → i = j) {k : Int64} : ∀ n j, j + n = K → (∀ i, i < j → f i ≠ k) →
    xV D N0 mS_find d 2 [some (.ref a), some (.long k), none, some (.int (nI j))] [] h (xEq (.returned (some (.int (oi (mfind f k K))))) h) := by
  intro n
  induction n with
  | zero =>
    intro j hj hno
    obtain rfl : j = K := by omega
    repeat' first
      | refine xV.step rfl ?_
      | refine xV.get xcl_ok rfl ha rfl ?_
    refine xV.br rfl (fun h1 => ?_) (fun h1 => ?_)
    · repeat' refine xV.step rfl ?_
      refine xV.iret rfl rfl rfl ⟨?_, rfl⟩
      rw [mfind_none hno]
      rfl
    · rw [xn_le (by omega) (by omega)] at h1
      omega
  | succ n ih =>
    intro j hj hno
    repeat' first
      | refine xV.step rfl ?_
      | refine xV.get xcl_ok rfl ha rfl ?_
    refine xV.br rfl (fun h1 => ?_) (fun h1 => ?_)
    · rw [xn_le (by omega) (by omega)] at h1
      omega
    repeat' first
      | refine xV.step rfl ?_
      | refine xV.get xcl_ok rfl ha rfl ?_
    refine xV.ij (j := j) rfl hl rfl (by omega) (by omega) ?_
    repeat' refine xV.step rfl ?_
    refine xV.br rfl (fun h2 => ?_) (fun h2 => ?_)
    · rw [lg_cmp_eq0] at h2
      repeat' refine xV.step rfl ?_
      refine xV.iret rfl rfl rfl ⟨?_, rfl⟩
      rw [mfind_some (j := j) (by omega) h2 (fun i hi hz => hd i j hi (by omega) (by rw [hz, h2]))]
      rfl
    · rw [lg_cmp_eq0] at h2
      refine xV.step rfl ?_
      refine xV.step rfl ?_
      show xV D N0 mS_find d 2 [some (.ref a), some (.long k), none, some (.int (nI j + 1))] [] _ _
      rw [xn_succ]
      refine ih (j + 1) (by omega) (fun i hi => ?_)
      rcases Nat.lt_or_ge i j with hz | hz
      · exact hno i hz
      · obtain rfl : i = j := by omega
        exact h2
theorem c_S_find (ha : xget h a = some (.inr (1, [.ref l, .ref g, .int (nI K)]))) (hl : xget h l = some (.inl (false, .long, 24, .inr (.inl f)))) (hK : K ≤ 24) (hd : ∀ i j, i < K → j < K → f i = f j → i = j) {k : Int64} :
    xV D N0 mS_find d 0 (xargs 4 [.ref a, .long k]) [] h (xEq (.returned (some (.int (oi (mfind f k K))))) h) := by
  refine xV.step rfl ?_
  refine xV.step rfl ?_
  exact c_S_find_loop ha hl hK hd K 0 (by omega) (fun i hi => by omega)
def sknows (f : Nat → Int64) (w : Nat → Int32) (K : Nat) (n : Int32) (k : Int64) : Bool := match mfind f k K with
  | some j => decide (¬ w j >>> (n &&& 31) &&& 1 = 0)
  | none => false
theorem c_S_isKnown (ha : xget h a = some (.inr (1, [.ref l, .ref g, .int (nI K)]))) (hl : xget h l = some (.inl (false, .long, 24, .inr (.inl f)))) (hg : xget h g = some (.inl (false, .int, 24, .inl w))) (hK : K ≤ 24) (hd : ∀ i j, i < K → j < K → f i = f j → i = j) {n : Int32} {k : Int64} :
    xV D N0 mS_isKnown (d + 1) 0 (xargs 5 [.ref a, .int n, .long k]) [] h (xEq (.returned (some (.int (xB (sknows f w K n k))))) h) := by
  repeat' refine xV.step rfl ?_
  refine xV.cV rfl rfl ha rfl g_mS_isKnown_23 mS_find_ok (Nat.le_of_ble_eq_true rfl) (Nat.le_of_ble_eq_true rfl) (c_S_find ha hl hK hd) ?_
  unfold sknows
  cases hf : mfind f k K with
  | none =>
    repeat' refine xV.step rfl ?_
    refine xV.br rfl (fun h1 => ?_) (fun h1 => absurd rfl h1)
    repeat' refine xV.step rfl ?_
    exact xV.iret rfl rfl rfl ⟨rfl, rfl⟩
  | some j =>
    have hj : j < 24 := by have := (mfind_lt hf).1; omega
    repeat' refine xV.step rfl ?_
    refine xV.br rfl (fun h1 => ?_) (fun h1 => ?_)
    · have h2 := (oi_none (o := some j) (fun n hn => by cases hn; omega)).mp h1
      cases h2
    repeat' first
      | refine xV.step rfl ?_
      | refine xV.get xcl_ok rfl ha rfl ?_
    refine xV.ii (j := j) rfl hg rfl hj (by omega) ?_
    repeat' refine xV.step rfl ?_
    refine xV.br rfl (fun h2 => ?_) (fun h2 => ?_)
    · repeat' refine xV.step rfl ?_
      exact xV.iret rfl rfl rfl ⟨xB0 (fun z => z h2), rfl⟩
    · repeat' refine xV.step rfl ?_
      exact xV.iret rfl rfl rfl ⟨xB1 h2, rfl⟩
def shas (f : Nat → Int64) (K : Nat) (k : Int64) : Bool := (mfind f k K).isSome || decide (K < 24)
theorem c_S_hasRoomFor (ha : xget h a = some (.inr (1, [.ref l, .ref g, .int (nI K)]))) (hl : xget h l = some (.inl (false, .long, 24, .inr (.inl f)))) (hK : K ≤ 24) (hd : ∀ i j, i < K → j < K → f i = f j → i = j) {k : Int64} :
    xV D N0 mS_hasRoomFor (d + 1) 0 (xargs 3 [.ref a, .long k]) [] h (xEq (.returned (some (.int (xB (shas f K k))))) h) := by
  refine xV.step rfl ?_
  refine xV.get xcl_ok rfl ha rfl ?_
  refine xV.step rfl ?_
  refine xV.br rfl (fun h1 => ?_) (fun h1 => ?_)
  · rw [show (24 : Int32) = nI 24 from rfl, xn_lt (by omega) (by omega)] at h1
    repeat' refine xV.step rfl ?_
    refine xV.iret rfl rfl rfl ⟨?_, rfl⟩
    simp [shas, h1, xB]
  rw [show (24 : Int32) = nI 24 from rfl, xn_lt (by omega) (by omega)] at h1
  repeat' refine xV.step rfl ?_
  refine xV.cV rfl rfl ha rfl g_mS_hasRoomFor_23 mS_find_ok (Nat.le_of_ble_eq_true rfl) (Nat.le_of_ble_eq_true rfl) (c_S_find ha hl hK hd) ?_
  refine xV.step rfl ?_
  refine xV.br rfl (fun h2 => ?_) (fun h2 => ?_)
  · rw [oi_none (mfind_small hK)] at h2
    repeat' refine xV.step rfl ?_
    refine xV.iret rfl rfl rfl ⟨?_, rfl⟩
    simp [shas, h1, h2, xB]
  · rw [oi_none (mfind_small hK)] at h2
    repeat' refine xV.step rfl ?_
    refine xV.iret rfl rfl rfl ⟨?_, rfl⟩
    cases hf : mfind f k K with
    | none => exact absurd hf h2
    | some j => simp [shas, hf, xB]
end Y43
end
section
/- Part 44: Secrets.learn; Payment; Route's small methods. -/
def pyF (re : Int32) (lo : Int64) (ln : Int32) (ch py am de pr : Nat) (st ou ma le en : Int32) : List Value := [.int re, .long lo, .int ln, .ref ch, .ref py, .ref am, .ref de, .ref pr, .int st, .int ou, .int ma, .int le, .int en]
def roF (ch py am : Nat) (ln : Int32) : List Value := [.ref ch, .ref py, .ref am, .int ln]
theorem xput_put {h : XH} {a : Nat} {c c' : XC} : xput (xput h a c) a c' = xput h a c' := by
  refine Prod.ext rfl (Prod.ext rfl (Prod.ext rfl ?_))
  funext x
  show (if x = a then some c' else if x = a then some c else h.2.2.2 x) = if x = a then some c' else h.2.2.2 x
  by_cases hx : x = a
  · rw [if_pos hx, if_pos hx]
  · rw [if_neg hx, if_neg hx, if_neg hx]
def slearn (h : XH) (a l g : Nat) (f : Nat → Int64) (w : Nat → Int32) (K : Nat) (k : Int64) (z : Int32) : XH := match mfind f k K with
  | some j => xput h g (.inl (false, .int, 24, .inl (upd w j (w j ||| z))))
  | none => xput (xput (xput h l (.inl (false, .long, 24, .inr (.inl (vp_updL f K k))))) g (.inl (false, .int, 24, .inl (upd w K z)))) a (.inr (1, [.ref l, .ref g, .int (nI (K + 1))]))
section X44
variable {D : va_G} {N0 : Nat} {d a l g : Nat} {h : XH} {f : Nat → Int64} {w : Nat → Int32} {K : Nat}
theorem c_S_learn (ha : xget h a = some (.inr (1, [.ref l, .ref g, .int (nI K)]))) (hl : xget h l = some (.inl (false, .long, 24, .inr (.inl f)))) (hg : xget h g = some (.inl (false, .int, 24, .inl w))) (hK : K ≤ 24) (hd : ∀ i j, i < K → j < K → f i = f j → i = j) (n1 : l ≠ a) (n2 : g ≠ a) (n3 : g ≠ l) {k : Int64} {z : Int32} (hr : shas f K k = true) :
    xV D N0 mS_learn (d + 1) 0 (xargs 5 [.ref a, .long k, .int z]) [] h (xEq (.returned none) (slearn h a l g f w K k z)) := by
  repeat' refine xV.step rfl ?_
  refine xV.cV rfl rfl ha rfl g_mS_learn_23 mS_find_ok (Nat.le_of_ble_eq_true rfl) (Nat.le_of_ble_eq_true rfl) (c_S_find ha hl hK hd) ?_
  unfold slearn
  cases hf : mfind f k K with
  | none =>
    have hK3 : K < 24 := by
      unfold shas at hr
      rw [hf] at hr
      simpa using hr
    repeat' refine xV.step rfl ?_
    refine xV.br rfl (fun h1 => ?_) (fun h1 => absurd rfl h1)
    refine xV.step rfl ?_
    refine xV.get xcl_ok rfl ha rfl ?_
    refine xV.step rfl ?_
    refine xV.br rfl (fun h2 => ?_) (fun h2 => ?_)
    · rw [show (24 : Int32) = nI 24 from rfl, xn_le (by omega) (by omega)] at h2
      omega
    repeat' first
      | refine xV.step rfl ?_
      | refine xV.get xcl_ok rfl ha rfl ?_
    refine xV.js (j := K) rfl hl rfl hK3 (by omega) ?_
    have ha1 : xget (xput h l (.inl (false, .long, 24, .inr (.inl (vp_updL f K k))))) a = some (.inr (1, [.ref l, .ref g, .int (nI K)])) := by rw [xput_ne (fun e => n1 e.symm)]; exact ha
    repeat' first
      | refine xV.step rfl ?_
      | refine xV.get xcl_ok rfl ha1 rfl ?_
    refine xV.is (f := w) (n := 24) (j := K) rfl (by rw [xput_ne n3]; exact hg) rfl hK3 (by omega) ?_
    have ha2 : xget (xput (xput h l (.inl (false, .long, 24, .inr (.inl (vp_updL f K k))))) g (.inl (false, .int, 24, .inl (upd w K z)))) a = some (.inr (1, [.ref l, .ref g, .int (nI K)])) := by rw [xput_ne (fun e => n2 e.symm)]; exact ha1
    repeat' first
      | refine xV.step rfl ?_
      | refine xV.get xcl_ok rfl ha2 rfl ?_
    rw [xn_succ]
    refine xV.put xcl_ok rfl ha2 rfl rfl rfl (Nat.le_of_ble_eq_true rfl) ?_
    exact xV.vret rfl rfl ⟨rfl, rfl⟩
  | some j =>
    have hj : j < 24 := by have := (mfind_lt hf).1; omega
    repeat' refine xV.step rfl ?_
    refine xV.br rfl (fun h1 => ?_) (fun h1 => ?_)
    · have h2 := (oi_none (o := some j) (fun n hn => by cases hn; omega)).mp h1
      cases h2
    repeat' first
      | refine xV.step rfl ?_
      | refine xV.get xcl_ok rfl ha rfl ?_
    refine xV.ii (j := j) rfl hg rfl hj (by omega) ?_
    repeat' refine xV.step rfl ?_
    refine xV.is (j := j) rfl hg rfl hj (by omega) ?_
    refine xV.step rfl ?_
    exact xV.vret rfl rfl ⟨rfl, rfl⟩
end X44
section Y44
variable {D : va_G} {N0 : Nat} {d a : Nat} {h : XH} {re ln st ou ma le en : Int32} {lo : Int64} {ch py am de pr : Nat}
theorem c_Y_turnBack (ha : xget h a = some (.inr (6, pyF re lo ln ch py am de pr st ou ma le en))) {w : Int32} :
    xV D N0 mY_turnBack d 0 (xargs 2 [.ref a, .int w]) [] h (xEq (.returned none) (xput h a (.inr (6, pyF re lo ln ch py am de pr (if ma = 0 then 3 else w) w ma ma en)))) := by
  repeat' refine xV.step rfl ?_
  refine xV.put xcl_ok rfl ha rfl rfl rfl (Nat.le_of_ble_eq_true rfl) ?_
  refine xV.step rfl ?_
  refine xV.step rfl ?_
  refine xV.get xcl_ok rfl xput_get rfl ?_
  refine xV.put xcl_ok rfl xput_get rfl rfl rfl (Nat.le_of_ble_eq_true rfl) ?_
  rw [xput_put]
  refine xV.step rfl ?_
  refine xV.step rfl ?_
  refine xV.get (v := .int ma) xcl_ok rfl xput_get rfl ?_
  refine xV.br rfl (fun h1 => ?_) (fun h1 => ?_)
  · rw [if_pos h1]
    repeat' refine xV.step rfl ?_
    refine xV.put xcl_ok rfl xput_get rfl rfl rfl (Nat.le_of_ble_eq_true rfl) ?_
    rw [xput_put]
    exact xV.vret rfl rfl ⟨rfl, rfl⟩
  · rw [if_neg h1]
    repeat' refine xV.step rfl ?_
    refine xV.put xcl_ok rfl xput_get rfl rfl rfl (Nat.le_of_ble_eq_true rfl) ?_
    rw [xput_put]
    exact xV.vret rfl rfl ⟨rfl, rfl⟩
theorem c_Y_goneBack (ha : xget h a = some (.inr (6, pyF re lo ln ch py am de pr st ou ma le en))) :
    xV D N0 mY_goneBack d 0 (xargs 1 [.ref a]) [] h (xEq (.returned none) (xput h a (.inr (6, pyF re lo ln ch py am de pr (if le - 1 = 0 then 3 else st) ou ma (le - 1) en)))) := by
  refine xV.step rfl ?_
  refine xV.step rfl ?_
  refine xV.get xcl_ok rfl ha rfl ?_
  refine xV.step rfl ?_
  refine xV.step rfl ?_
  refine xV.put xcl_ok rfl ha rfl rfl rfl (Nat.le_of_ble_eq_true rfl) ?_
  refine xV.step rfl ?_
  refine xV.get (v := .int (le - 1)) xcl_ok rfl xput_get rfl ?_
  refine xV.br rfl (fun h1 => ?_) (fun h1 => ?_)
  · rw [if_pos h1]
    repeat' refine xV.step rfl ?_
    refine xV.put xcl_ok rfl xput_get rfl rfl rfl (Nat.le_of_ble_eq_true rfl) ?_
    rw [xput_put]
    exact xV.vret rfl rfl ⟨rfl, rfl⟩
  · rw [if_neg h1]
    exact xV.vret rfl rfl ⟨rfl, rfl⟩
end Y44
section Z44
variable {D : va_G} {N0 : Nat} {d a : Nat} {h : XH} {ln : Int32} {ch py am : Nat} {c p m : Nat → Int32} {N : Nat}
theorem c_R_slot (ha : xget h a = some (.inr (3, roF ch py am ln))) {i : Int32} : xV D N0 mR_slot d 0 (xargs 2 [.ref a, .int i]) [] h (xEq (.returned (some (.int (ln - 1 - i)))) h) := by
  repeat' first
    | refine xV.step rfl ?_
    | refine xV.get xcl_ok rfl ha rfl ?_
  exact xV.iret rfl rfl rfl ⟨rfl, rfl⟩
theorem c_R_firstAmount (ha : xget h a = some (.inr (3, roF ch py am (nI (N + 1))))) (hm : xget h am = some (.inl (false, .int, 5, .inl m))) (hN : N < 5) : xV D N0 mR_firstAmount (d + 1) 0 (xargs 1 [.ref a]) [] h (xEq (.returned (some (.int (m N)))) h) := by
  repeat' first
    | refine xV.step rfl ?_
    | refine xV.get xcl_ok rfl ha rfl ?_
  refine xV.cV rfl rfl ha rfl g_mR_firstAmount_25 mR_slot_ok (Nat.le_of_ble_eq_true rfl) (Nat.le_of_ble_eq_true rfl) (c_R_slot ha) ?_
  refine xV.ii (j := N) rfl hm (by rw [xn_pred, show (0 : Int32) = nI 0 from rfl, xn_sub (by omega)]; rfl) hN (by omega) ?_
  exact xV.iret rfl rfl rfl ⟨rfl, rfl⟩
theorem c_R_put (ha : xget h a = some (.inr (3, roF ch py am ln))) (hc : xget h ch = some (.inl (false, .int, 5, .inl c))) (hp : xget h py = some (.inl (false, .int, 5, .inl p))) (hm : xget h am = some (.inl (false, .int, 5, .inl m))) (n1 : a ≠ ch) (n2 : a ≠ py) (n3 : a ≠ am) (n4 : py ≠ ch) (n5 : am ≠ ch) (n6 : am ≠ py) (hN : N < 5) {x y z : Int32} :
    xV D N0 mR_put d 0 (xargs 5 [.ref a, .int (nI N), .int x, .int y, .int z]) [] h (xEq (.returned none) (xput (xput (xput (xput h ch (.inl (false, .int, 5, .inl (upd c N x)))) py (.inl (false, .int, 5, .inl (upd p N y)))) am (.inl (false, .int, 5, .inl (upd m N z)))) a (.inr (3, roF ch py am (nI (N + 1)))))) := by
  repeat' first
    | refine xV.step rfl ?_
    | refine xV.get xcl_ok rfl ha rfl ?_
  refine xV.is (j := N) rfl hc rfl hN (by omega) ?_
  have ha1 : xget (xput h ch (.inl (false, .int, 5, .inl (upd c N x)))) a = some (.inr (3, roF ch py am ln)) := by rw [xput_ne n1]; exact ha
  repeat' first
    | refine xV.step rfl ?_
    | refine xV.get xcl_ok rfl ha1 rfl ?_
  refine xV.is (f := p) (n := 5) (j := N) rfl (by rw [xput_ne n4]; exact hp) rfl hN (by omega) ?_
  have ha2 : xget (xput (xput h ch (.inl (false, .int, 5, .inl (upd c N x)))) py (.inl (false, .int, 5, .inl (upd p N y)))) a = some (.inr (3, roF ch py am ln)) := by rw [xput_ne n2]; exact ha1
  repeat' first
    | refine xV.step rfl ?_
    | refine xV.get xcl_ok rfl ha2 rfl ?_
  refine xV.is (f := m) (n := 5) (j := N) rfl (by rw [xput_ne n6, xput_ne n5]; exact hm) rfl hN (by omega) ?_
  have ha3 : xget (xput (xput (xput h ch (.inl (false, .int, 5, .inl (upd c N x)))) py (.inl (false, .int, 5, .inl (upd p N y)))) am (.inl (false, .int, 5, .inl (upd m N z)))) a = some (.inr (3, roF ch py am ln)) := by rw [xput_ne n3]; exact ha2
  repeat' refine xV.step rfl ?_
  rw [xn_succ]
  refine xV.put xcl_ok rfl ha3 rfl rfl rfl (Nat.le_of_ble_eq_true rfl) ?_
  exact xV.vret rfl rfl ⟨rfl, rfl⟩
end Z44
end
section
/- Part 45: lists: size and get; a channel's promises in a state. -/
/-- at a lies a list of the n objects q -/
def aL (h : XH) (a : Nat) (q : Nat → Nat) (n : Nat) : Prop := ∃ (e : Nat) (mo : Int32) (cap : Nat) (ro : Bool) (g : Nat → Option Nat), xget h a = some (.inr (2, [.ref e, .int (nI n), .int mo])) ∧ n ≤ cap ∧ cap ≤ 1024 ∧ xget h e = some (.inl (ro, .object "java/lang/Object", cap, .inr (.inr (.inr (.inr g))))) ∧ ∀ j, j < n → g j = some (q j)
section X45
variable {D : va_G} {N0 : Nat} {M : XM} {d a n j pc nx idx : Nat} {h : XH} {q : Nat → Nat} {lv : XL} {Q : Outcome → XH → Prop}
theorem c_A_size {e : Nat} {mo : Int32} (ha : xget h a = some (.inr (2, [.ref e, .int (nI n), .int mo]))) : xV D N0 mA_size d 0 (xargs 1 [.ref a]) [] h (xEq (.returned (some (.int (nI n)))) h) := by
  refine xV.step rfl ?_
  refine xV.get xcl_ok rfl ha rfl ?_
  exact xV.iret rfl rfl rfl ⟨rfl, rfl⟩
theorem c_pre_checkIndex (hj : j < n) (hn : n ≤ 1024) : xV D N0 mPreconditions_checkIndex d 0 (xargs 3 [.int (nI j), .int (nI n), .null]) [] h (xEq (.returned (some (.int (nI j)))) h) := by
  refine xV.step rfl ?_
  refine xV.br rfl (fun h1 => absurd h1 (xn_nonneg (by omega))) (fun h1 => ?_)
  repeat' refine xV.step rfl ?_
  refine xV.br rfl (fun h2 => ?_) (fun h2 => ?_)
  · refine xV.step rfl ?_
    exact xV.iret rfl rfl rfl ⟨rfl, rfl⟩
  · rw [xn_lt (by omega) (by omega)] at h2
    omega
theorem c_obj_checkIndex (hj : j < n) (hn : n ≤ 1024) : xV D N0 mObjects_checkIndex (d + 1) 0 (xargs 2 [.int (nI j), .int (nI n)]) [] h (xEq (.returned (some (.int (nI j)))) h) := by
  repeat' refine xV.step rfl ?_
  refine xV.cS rfl rfl g_mObjects_checkIndex_105 mPreconditions_checkIndex_ok (Nat.le_of_ble_eq_true rfl) (Nat.le_of_ble_eq_true rfl) (c_pre_checkIndex hj hn) ?_
  exact xV.iret rfl rfl rfl ⟨rfl, rfl⟩
theorem c_A_get (ha : aL h a q n) (hj : j < n) : xV D N0 mA_get (d + 2) 0 (xargs 2 [.ref a, .int (nI j)]) [] h (xEq (.returned (some (.ref (q j)))) h) := by
  obtain ⟨e, mo, cap, ro, g, h1, h2, h3, h4, h5⟩ := ha
  have he : xV D N0 mA_elementData (d + 1) 0 (xargs 2 [.ref a, .int (nI j)]) [] h (xEq (.returned (some (.ref (q j)))) h) := by
    refine xV.step rfl ?_
    refine xV.get xcl_ok rfl h1 rfl ?_
    refine xV.step rfl ?_
    refine xV.aald rfl h4 (xn_in (by omega) (by omega)) ?_
    rw [xn_clamp (by omega), h5 j hj]
    exact xV.aret rfl rfl (Or.inl ⟨_, rfl⟩) (Or.inr ⟨_, rfl⟩) ⟨rfl, rfl⟩
  repeat' first
    | refine xV.step rfl ?_
    | refine xV.get xcl_ok rfl h1 rfl ?_
  refine xV.cS rfl rfl g_mA_get_118 mObjects_checkIndex_ok (Nat.le_of_ble_eq_true rfl) (Nat.le_of_ble_eq_true rfl) (c_obj_checkIndex hj (by omega)) ?_
  repeat' refine xV.step rfl ?_
  refine xV.cV rfl rfl h1 rfl g_mA_get_123 mA_elementData_ok (Nat.le_of_ble_eq_true rfl) (Nat.le_of_ble_eq_true rfl) he ?_
  exact xV.aret rfl rfl (Or.inl ⟨_, rfl⟩) (Or.inr ⟨_, rfl⟩) ⟨rfl, rfl⟩
/-- a list's size, in a method -/
theorem xV.lsz {r : List Value} (hL : aL h a q n) (hq : xon M pc = some (.invokevirtual idx, nx)) (hw : xcv "java/util/ArrayList" M mA_size idx 0) (hcat : (r.map fun v => v.category).sum + (mA_size.2.2.1 + 11) ≤ 64) (k : xV D N0 M (d + 1) nx lv (.int (nI n) :: r) h Q) : xV D N0 M (d + 1) pc lv (.ref a :: r) h Q := by
  obtain ⟨e, mo, cap, ro, g, h1, h2, h3, h4, h5⟩ := hL
  exact xV.cV (as := []) (rest := r) hq rfl h1 rfl hw mA_size_ok (Nat.le_of_ble_eq_true rfl) hcat (c_A_size h1) k
/-- a list's element, in a method -/
theorem xV.lgt {r : List Value} {i : Int32} (hL : aL h a q n) (hi : i = nI j) (hj : j < n) (hq : xon M pc = some (.invokevirtual idx, nx)) (hw : xcv "java/util/ArrayList" M mA_get idx 1) (hcat : (r.map fun v => v.category).sum + (mA_get.2.2.1 + 11) ≤ 64) (k : xV D N0 M (d + 3) nx lv (.ref (q j) :: r) h Q) : xV D N0 M (d + 3) pc lv (.int i :: .ref a :: r) h Q := by
  subst hi
  obtain ⟨e, mo, cap, ro, g, h1, -⟩ := id hL
  exact xV.cV (as := [.int (nI j)]) (rest := r) hq rfl h1 rfl hw mA_get_ok (Nat.le_of_ble_eq_true rfl) hcat (c_A_get hL hj) k
end X45
def cpr (mi gi : Nat → Int32) (l : Int32) : Nat → Int32
  | 0 => 0
  | k + 1 => if isIn0 (mi k) (gi k) l = true then cpr mi gi l k + 1 else cpr mi gi l k
def spr (am mi gi : Nat → Int32) (l : Int32) : Nat → Int32
  | 0 => 0
  | k + 1 => if isIn0 (mi k) (gi k) l = true then spr am mi gi l k + am k else spr am mi gi l k
def aP (h : XH) (q : Nat → Nat) (n : Nat) (am mi gi : Nat → Int32) : Prop := ∀ k, k < n → ∃ (p p' : Int32) (lo : Int64) (dl : Int32) (po : Bool), xget h (q k) = some (.inr (5, prF p p' (am k) lo dl (mi k) (gi k) po))
section Y45
variable {D : va_G} {N0 : Nat} {d a n : Nat} {h : XH} {f s la st he pu pd pa : Int32} {b1 b2 pl : Nat} {se : Bool} {q : Nat → Nat} {am mi gi : Nat → Int32} {l : Int32}
theorem c_C_promisesIn_loop (ha : xget h a = some (.inr (4, chF f s b1 b2 pl la st he pu pd pa se))) (hL : aL h pl q n) (hn : n ≤ 64) (hP : aP h q n am mi gi) : ∀ m j, j + m = n →
    xV D N0 mC_promisesIn (d + 3) 4 [some (.ref a), some (.int l), some (.int (cpr mi gi l j)), some (.int (nI j))] [] h (xEq (.returned (some (.int (cpr mi gi l n)))) h) := by
  intro m
  induction m with
  | zero =>
    intro j hj
    obtain rfl : j = n := by omega
    refine xV.step rfl ?_
    refine xV.step rfl ?_
    refine xV.get xcl_ok rfl ha rfl ?_
    refine xV.lsz hL rfl g_mC_promisesIn_54 (Nat.le_of_ble_eq_true rfl) ?_
    refine xV.br rfl (fun h1 => ?_) (fun h1 => ?_)
    · refine xV.step rfl ?_
      exact xV.iret rfl rfl rfl ⟨rfl, rfl⟩
    · rw [xn_le (by omega) (by omega)] at h1
      omega
  | succ m ih =>
    intro j hj
    refine xV.step rfl ?_
    refine xV.step rfl ?_
    refine xV.get xcl_ok rfl ha rfl ?_
    refine xV.lsz hL rfl g_mC_promisesIn_54 (Nat.le_of_ble_eq_true rfl) ?_
    refine xV.br rfl (fun h1 => ?_) (fun h1 => ?_)
    · rw [xn_le (by omega) (by omega)] at h1
      omega
    obtain ⟨p, p', lo, dl, po, hk⟩ := hP j (by omega)
    refine xV.step rfl ?_
    refine xV.get xcl_ok rfl ha rfl ?_
    refine xV.step rfl ?_
    refine xV.lgt hL rfl (by omega) rfl g_mC_promisesIn_58 (Nat.le_of_ble_eq_true rfl) ?_
    refine xV.cast rfl hk rfl k_mC_promisesIn_62 ?_
    refine xV.step rfl ?_
    refine xV.cV rfl rfl hk rfl g_mC_promisesIn_64 mP_isIn_ok (Nat.le_of_ble_eq_true rfl) (Nat.le_of_ble_eq_true rfl) (c_P_isIn hk) ?_
    have ih := ih (j + 1) (by omega)
    rw [← xn_succ, cpr] at ih
    refine xV.br rfl (fun h2 => ?_) (fun h2 => ?_)
    · rw [if_neg (by rw [xB_f h2]; decide)] at ih
      refine xV.step rfl ?_
      refine xV.step rfl ?_
      exact ih
    · rw [if_pos (xB_t h2)] at ih
      refine xV.step rfl ?_
      refine xV.step rfl ?_
      refine xV.step rfl ?_
      exact ih
theorem c_C_promisesIn (ha : xget h a = some (.inr (4, chF f s b1 b2 pl la st he pu pd pa se))) (hL : aL h pl q n) (hn : n ≤ 64) (hP : aP h q n am mi gi) :
    xV D N0 mC_promisesIn (d + 3) 0 (xargs 4 [.ref a, .int l]) [] h (xEq (.returned (some (.int (cpr mi gi l n)))) h) := by
  refine xV.step rfl ?_
  refine xV.step rfl ?_
  refine xV.step rfl ?_
  refine xV.step rfl ?_
  exact c_C_promisesIn_loop ha hL hn hP n 0 (by omega)
theorem c_C_promisedIn_loop (ha : xget h a = some (.inr (4, chF f s b1 b2 pl la st he pu pd pa se))) (hL : aL h pl q n) (hn : n ≤ 64) (hP : aP h q n am mi gi) : ∀ m j, j + m = n →
    xV D N0 mC_promisedIn (d + 3) 4 [some (.ref a), some (.int l), some (.int (spr am mi gi l j)), some (.int (nI j))] [] h (xEq (.returned (some (.int (spr am mi gi l n)))) h) := by
  intro m
  induction m with
  | zero =>
    intro j hj
    obtain rfl : j = n := by omega
    refine xV.step rfl ?_
    refine xV.step rfl ?_
    refine xV.get xcl_ok rfl ha rfl ?_
    refine xV.lsz hL rfl g_mC_promisedIn_54 (Nat.le_of_ble_eq_true rfl) ?_
    refine xV.br rfl (fun h1 => ?_) (fun h1 => ?_)
    · refine xV.step rfl ?_
      exact xV.iret rfl rfl rfl ⟨rfl, rfl⟩
    · rw [xn_le (by omega) (by omega)] at h1
      omega
  | succ m ih =>
    intro j hj
    refine xV.step rfl ?_
    refine xV.step rfl ?_
    refine xV.get xcl_ok rfl ha rfl ?_
    refine xV.lsz hL rfl g_mC_promisedIn_54 (Nat.le_of_ble_eq_true rfl) ?_
    refine xV.br rfl (fun h1 => ?_) (fun h1 => ?_)
    · rw [xn_le (by omega) (by omega)] at h1
      omega
    obtain ⟨p, p', lo, dl, po, hk⟩ := hP j (by omega)
    refine xV.step rfl ?_
    refine xV.get xcl_ok rfl ha rfl ?_
    refine xV.step rfl ?_
    refine xV.lgt hL rfl (by omega) rfl g_mC_promisedIn_58 (Nat.le_of_ble_eq_true rfl) ?_
    refine xV.cast rfl hk rfl k_mC_promisedIn_62 ?_
    refine xV.step rfl ?_
    refine xV.cV rfl rfl hk rfl g_mC_promisedIn_64 mP_isIn_ok (Nat.le_of_ble_eq_true rfl) (Nat.le_of_ble_eq_true rfl) (c_P_isIn hk) ?_
    have ih := ih (j + 1) (by omega)
    rw [← xn_succ, spr] at ih
    refine xV.br rfl (fun h2 => ?_) (fun h2 => ?_)
    · rw [if_neg (by rw [xB_f h2]; decide)] at ih
      refine xV.step rfl ?_
      refine xV.step rfl ?_
      exact ih
    · rw [if_pos (xB_t h2)] at ih
      refine xV.step rfl ?_
      refine xV.step rfl ?_
      refine xV.get xcl_ok rfl ha rfl ?_
      refine xV.step rfl ?_
      refine xV.lgt hL rfl (by omega) rfl g_mC_promisedIn_58 (Nat.le_of_ble_eq_true rfl) ?_
      refine xV.cast rfl hk rfl k_mC_promisedIn_62 ?_
      refine xV.get xcl_ok rfl hk rfl ?_
      refine xV.step rfl ?_
      refine xV.step rfl ?_
      refine xV.step rfl ?_
      refine xV.step rfl ?_
      exact ih
theorem c_C_promisedIn (ha : xget h a = some (.inr (4, chF f s b1 b2 pl la st he pu pd pa se))) (hL : aL h pl q n) (hn : n ≤ 64) (hP : aP h q n am mi gi) :
    xV D N0 mC_promisedIn (d + 3) 0 (xargs 4 [.ref a, .int l]) [] h (xEq (.returned (some (.int (spr am mi gi l n)))) h) := by
  refine xV.step rfl ?_
  refine xV.step rfl ?_
  refine xV.step rfl ?_
  refine xV.step rfl ?_
  exact c_C_promisedIn_loop ha hL hn hP n 0 (by omega)
def ccar (f la st x y : Int32) (n : Nat) (mi gi : Nat → Int32) (p v : Int32) : Bool := decide (st = 0 ∧ v ≤ (if p = f then x else y) ∧ cpr mi gi la n < 6)
theorem c_C_canCarry {c1 c2 : Nat → Int32} {L : Nat} {p v : Int32} (ha : xget h a = some (.inr (4, chF f s b1 b2 pl (nI L) st he pu pd pa se))) (h1 : xget h b1 = some (.inl (false, .int, 64, .inl c1))) (h2 : xget h b2 = some (.inl (false, .int, 64, .inl c2))) (hl : L < 64) (hL : aL h pl q n) (hn : n ≤ 64) (hP : aP h q n am mi gi) :
    xV D N0 mC_canCarry (d + 4) 0 (xargs 4 [.ref a, .int p, .int v]) [] h (xEq (.returned (some (.int (xB (ccar f (nI L) st (c1 L) (c2 L) n mi gi p v))))) h) := by
  have go : ∀ z : Int32, (if p = f then c1 L else c2 L) = z → xV D N0 mC_canCarry (d + 4) 29 (xargs 4 [.ref a, .int p, .int v]) [.int z] h (xEq (.returned (some (.int (xB (ccar f (nI L) st (c1 L) (c2 L) n mi gi p v))))) h) := by
    intro z hz
    unfold ccar
    rw [hz]
    refine xV.step rfl ?_
    refine xV.step rfl ?_
    refine xV.get xcl_ok rfl ha rfl ?_
    refine xV.br rfl (fun k1 => ?_) (fun k1 => ?_)
    case refine_2 =>
      refine xV.step rfl ?_
      exact xV.iret rfl rfl rfl ⟨xB0 (fun y => k1 y.1), rfl⟩
    repeat' refine xV.step rfl ?_
    refine xV.br rfl (fun k2 => ?_) (fun k2 => ?_)
    · refine xV.step rfl ?_
      exact xV.iret rfl rfl rfl ⟨xB0 (fun y => by have := y.2.1; simp only [Int32.lt_iff_toInt_lt, Int32.le_iff_toInt_le] at *; omega), rfl⟩
    repeat' first
      | refine xV.step rfl ?_
      | refine xV.get xcl_ok rfl ha rfl ?_
    refine xV.cV rfl rfl ha rfl g_mC_canCarry_71 mC_promisesIn_ok (Nat.le_of_ble_eq_true rfl) (Nat.le_of_ble_eq_true rfl) (c_C_promisesIn ha hL hn hP) ?_
    refine xV.step rfl ?_
    refine xV.br rfl (fun k3 => ?_) (fun k3 => ?_)
    · refine xV.step rfl ?_
      exact xV.iret rfl rfl rfl ⟨xB0 (fun y => by have := y.2.2; simp only [Int32.lt_iff_toInt_lt, Int32.le_iff_toInt_le] at *; omega), rfl⟩
    · refine xV.step rfl ?_
      refine xV.step rfl ?_
      exact xV.iret rfl rfl rfl ⟨xB1 ⟨k1, by simp only [Int32.lt_iff_toInt_lt, Int32.le_iff_toInt_le] at *; omega, by simp only [Int32.lt_iff_toInt_lt, Int32.le_iff_toInt_le] at *; omega⟩, rfl⟩
  repeat' first
    | refine xV.step rfl ?_
    | refine xV.get xcl_ok rfl ha rfl ?_
  refine xV.br rfl (fun k1 => ?_) (fun k1 => ?_)
  · repeat' first
      | refine xV.step rfl ?_
      | refine xV.get xcl_ok rfl ha rfl ?_
    refine xV.ii (j := L) rfl h1 rfl hl (by omega) ?_
    refine xV.step rfl ?_
    exact go _ (if_pos k1)
  · repeat' first
      | refine xV.step rfl ?_
      | refine xV.get xcl_ok rfl ha rfl ?_
    refine xV.ii (j := L) rfl h2 rfl hl (by omega) ?_
    exact go _ (if_neg k1)
end Y45
end
section
/- Part 46: a channel's new state; a promise's end; which route is better. -/
section X46
variable {D : va_G} {N0 : Nat} {d a : Nat} {h : XH} {f s st he pu pd pa : Int32} {b1 b2 pl : Nat} {se : Bool} {c1 c2 : Nat → Int32} {L : Nat}
/-- the heap with a channel's next state -/
def hst (h : XH) (a : Nat) (f s : Int32) (b1 b2 pl : Nat) (L : Nat) (st he pu pd pa : Int32) (se : Bool) (c1 c2 : Nat → Int32) (nd0 ch : Int32) : XH :=
  xput (xput (xput h b1 (.inl (false, .int, 64, .inl (upd c1 (L + 1) (c1 L + if nd0 = f then ch else 0))))) b2 (.inl (false, .int, 64, .inl (upd c2 (L + 1) (c2 L + if nd0 = s then ch else 0))))) a (.inr (4, chF f s b1 b2 pl (nI (L + 1)) st he pu pd pa se))
theorem c_C_makeState (ha : xget h a = some (.inr (4, chF f s b1 b2 pl (nI L) st he pu pd pa se))) (h1 : xget h b1 = some (.inl (false, .int, 64, .inl c1))) (h2 : xget h b2 = some (.inl (false, .int, 64, .inl c2))) (hl : L < 63) (n1 : a ≠ b1) (n2 : a ≠ b2) (n3 : b2 ≠ b1) {nd0 ch : Int32} :
    xV D N0 mC_makeState d 0 (xargs 3 [.ref a, .int nd0, .int ch]) [] h (xEq (.returned none) (hst h a f s b1 b2 pl L st he pu pd pa se c1 c2 nd0 ch)) := by
  unfold hst
  have t2 : ∀ X : XC, ∀ z : Int32, (if nd0 = s then ch else 0) = z → xV D N0 mC_makeState d 66 (xargs 3 [.ref a, .int nd0, .int ch]) [.int z, .int (c2 L), .int (nI L + 1), .ref b2] (xput h b1 X) (xEq (.returned none) (xput (xput (xput h b1 X) b2 (.inl (false, .int, 64, .inl (upd c2 (L + 1) (c2 L + if nd0 = s then ch else 0))))) a (.inr (4, chF f s b1 b2 pl (nI (L + 1)) st he pu pd pa se)))) := by
    intro X z hz
    refine xV.step rfl ?_
    refine xV.is (f := c2) (n := 64) (j := L + 1) rfl (by rw [xput_ne n3]; exact h2) (xn_succ L) (by omega) (by omega) ?_
    have ha2 : xget (xput (xput h b1 X) b2 (.inl (false, .int, 64, .inl (upd c2 (L + 1) (c2 L + z))))) a = some (.inr (4, chF f s b1 b2 pl (nI L) st he pu pd pa se)) := by rw [xput_ne n2, xput_ne n1]; exact ha
    repeat' first
      | refine xV.step rfl ?_
      | refine xV.get xcl_ok rfl ha2 rfl ?_
    rw [xn_succ]
    refine xV.put xcl_ok rfl ha2 rfl rfl rfl (Nat.le_of_ble_eq_true rfl) ?_
    rw [hz]
    exact xV.vret rfl rfl ⟨rfl, rfl⟩
  have t1 : ∀ z : Int32, (if nd0 = f then ch else 0) = z → xV D N0 mC_makeState d 32 (xargs 3 [.ref a, .int nd0, .int ch]) [.int z, .int (c1 L), .int (nI L + 1), .ref b1] h (xEq (.returned none) (xput (xput (xput h b1 (.inl (false, .int, 64, .inl (upd c1 (L + 1) (c1 L + if nd0 = f then ch else 0))))) b2 (.inl (false, .int, 64, .inl (upd c2 (L + 1) (c2 L + if nd0 = s then ch else 0))))) a (.inr (4, chF f s b1 b2 pl (nI (L + 1)) st he pu pd pa se)))) := by
    intro z hz
    rw [hz]
    refine xV.step rfl ?_
    refine xV.is (j := L + 1) rfl h1 (xn_succ L) (by omega) (by omega) ?_
    have ha1 : xget (xput h b1 (.inl (false, .int, 64, .inl (upd c1 (L + 1) (c1 L + z))))) a = some (.inr (4, chF f s b1 b2 pl (nI L) st he pu pd pa se)) := by rw [xput_ne n1]; exact ha
    repeat' first
      | refine xV.step rfl ?_
      | refine xV.get xcl_ok rfl ha1 rfl ?_
    refine xV.ii (f := c2) (n := 64) (j := L) rfl (by rw [xput_ne n3]; exact h2) rfl (by omega) (by omega) ?_
    repeat' first
      | refine xV.step rfl ?_
      | refine xV.get xcl_ok rfl ha1 rfl ?_
    refine xV.br rfl (fun k1 => ?_) (fun k1 => ?_)
    · refine xV.step rfl ?_
      refine xV.step rfl ?_
      exact t2 _ _ (if_pos k1)
    · refine xV.step rfl ?_
      exact t2 _ _ (if_neg k1)
  repeat' first
    | refine xV.step rfl ?_
    | refine xV.get xcl_ok rfl ha rfl ?_
  refine xV.ii (j := L) rfl h1 rfl (by omega) (by omega) ?_
  repeat' first
    | refine xV.step rfl ?_
    | refine xV.get xcl_ok rfl ha rfl ?_
  refine xV.br rfl (fun k1 => ?_) (fun k1 => ?_)
  · refine xV.step rfl ?_
    refine xV.step rfl ?_
    exact t1 _ (if_pos k1)
  · refine xV.step rfl ?_
    exact t1 _ (if_neg k1)
theorem c_C_endPromise {o : Nat} {p q am dl mi gi : Int32} {lo : Int64} {po : Bool} (ha : xget h a = some (.inr (4, chF f s b1 b2 pl (nI L) st he pu pd pa se))) (h1 : xget h b1 = some (.inl (false, .int, 64, .inl c1))) (h2 : xget h b2 = some (.inl (false, .int, 64, .inl c2))) (ho : xget h o = some (.inr (5, prF p q am lo dl mi gi po))) (hl : L < 63) (n1 : a ≠ b1) (n2 : a ≠ b2) (n3 : b2 ≠ b1) (n4 : o ≠ a) (n5 : o ≠ b1) (n6 : o ≠ b2) {rc : Int32} :
    xV D N0 mC_endPromise (d + 1) 0 (xargs 3 [.ref a, .ref o, .int rc]) [] h (xEq (.returned none) (xput (hst h a f s b1 b2 pl L st he pu pd pa se c1 c2 rc am) o (.inr (5, prF p q am lo dl mi (nI (L + 1)) po)))) := by
  repeat' refine xV.step rfl ?_
  refine xV.get xcl_ok rfl ho rfl ?_
  refine xV.cV rfl rfl ha rfl g_mC_endPromise_75 mC_makeState_ok (Nat.le_of_ble_eq_true rfl) (Nat.le_of_ble_eq_true rfl) (c_C_makeState ha h1 h2 hl n1 n2 n3) ?_
  refine xV.step rfl ?_
  refine xV.step rfl ?_
  refine xV.get xcl_ok rfl (fs := chF f s b1 b2 pl (nI (L + 1)) st he pu pd pa se) xput_get rfl ?_
  refine xV.put xcl_ok rfl (fs := prF p q am lo dl mi gi po) ?_ rfl rfl rfl (Nat.le_of_ble_eq_true rfl) ?_
  · unfold hst
    rw [xput_ne n4, xput_ne n6, xput_ne n5]
    exact ho
  · exact xV.vret rfl rfl ⟨rfl, rfl⟩
end X46
section Y46
variable {D : va_G} {N0 : Nat} {d a b : Nat} {h : XH} {ch py am ch' py' am' : Nat} {c m c' m' : Nat → Int32}
theorem i64_inj {x y : Int32} : x.toInt64 = y.toInt64 ↔ x = y := by
  rw [← Int64.toInt_inj, ← Int32.toInt_inj, Int32.toInt_toInt64, Int32.toInt_toInt64]
theorem i64_lt {x y : Int32} : x.toInt64 < y.toInt64 ↔ x < y := by
  rw [Int64.lt_iff_toInt_lt, Int32.lt_iff_toInt_lt, Int32.toInt_toInt64, Int32.toInt_toInt64]
theorem c_R_isBetter_loop {l1 l2 : Int32} (ha : xget h a = some (.inr (3, roF ch py am l1))) (hb : xget h b = some (.inr (3, roF ch' py' am' l2))) (hc : xget h ch = some (.inl (false, .int, 5, .inl c))) (hc' : xget h ch' = some (.inl (false, .int, 5, .inl c'))) : ∀ (T B : SP) (x : Int32), B.length = T.length → T.length ≤ 5 → x + 1 = nI T.length → RepW c T → RepW c' B →
    xV D N0 mR_isBetterThan d 72 [some (.ref a), some (.ref b), some (.int x)] [] h (xEq (.returned (some (.int (xB (slex T B))))) h) := by
  intro T
  induction T with
  | nil =>
    intro B x hB _ hx _ _
    have hx' : x = -1 := by
      have : x + 1 + (-1) = nI 0 + (-1) := by rw [hx]; rfl
      rw [xi_sub] at this
      exact this
    subst hx'
    refine xV.step rfl ?_
    refine xV.br rfl (fun _ => ?_) (fun h1 => absurd (by decide) h1)
    refine xV.step rfl ?_
    exact xV.iret rfl rfl rfl ⟨rfl, rfl⟩
  | cons e T ih =>
    intro B x hB hT hx hW hW'
    cases B with
    | nil => cases hB
    | cons f B =>
    have hT' : T.length < 5 := hT
    have hB' : B.length = T.length := by simpa using hB
    have hx' : x = nI T.length := by
      have h1 : x + 1 + (-1) = nI (T.length + 1) + (-1) := by rw [hx]; rfl
      rw [xi_sub, xn_dec] at h1
      exact h1
    subst hx'
    obtain ⟨w1, w2, w3⟩ := hW
    obtain ⟨v1, v2, v3⟩ := hW'
    rw [hB'] at v1
    refine xV.step rfl ?_
    refine xV.br rfl (fun h1 => absurd h1 (xn_nonneg (by omega))) (fun h1 => ?_)
    refine xV.step rfl ?_
    refine xV.get xcl_ok rfl ha rfl ?_
    refine xV.step rfl ?_
    refine xV.ii (j := T.length) rfl hc rfl hT' (by omega) ?_
    refine xV.step rfl ?_
    refine xV.get xcl_ok rfl hb rfl ?_
    refine xV.step rfl ?_
    refine xV.ii (j := T.length) rfl hc' rfl hT' (by omega) ?_
    rw [w1, v1]
    refine xV.br rfl (fun h2 => ?_) (fun h2 => ?_)
    · rw [xn_inj (by omega) (by omega)] at h2
      refine xV.step rfl ?_
      refine xV.step rfl ?_
      rw [slex, if_pos h2]
      refine ih B _ hB' (by omega) ?_ w3 v3
      rw [Int32.add_assoc]
      exact Int32.add_zero _
    · rw [xn_inj (by omega) (by omega)] at h2
      rw [slex, if_neg h2]
      refine xV.step rfl ?_
      refine xV.get xcl_ok rfl ha rfl ?_
      refine xV.step rfl ?_
      refine xV.ii (j := T.length) rfl hc rfl hT' (by omega) ?_
      refine xV.step rfl ?_
      refine xV.get xcl_ok rfl hb rfl ?_
      refine xV.step rfl ?_
      refine xV.ii (j := T.length) rfl hc' rfl hT' (by omega) ?_
      rw [w1, v1]
      refine xV.br rfl (fun h3 => ?_) (fun h3 => ?_)
      · rw [xn_le (by omega) (by omega)] at h3
        repeat' refine xV.step rfl ?_
        exact xV.iret rfl rfl rfl ⟨xB0 (by omega), rfl⟩
      · rw [xn_le (by omega) (by omega)] at h3
        repeat' refine xV.step rfl ?_
        exact xV.iret rfl rfl rfl ⟨xB1 (by omega), rfl⟩
theorem c_R_isBetterThan {e : Nat × Int32 × Int64} {T B : SP} (ha : xget h a = some (.inr (3, roF ch py am (nI (T.length + 1))))) (hb : xget h b = some (.inr (3, roF ch' py' am' (nI B.length)))) (hc : xget h ch = some (.inl (false, .int, 5, .inl c))) (hc' : xget h ch' = some (.inl (false, .int, 5, .inl c'))) (hm : xget h am = some (.inl (false, .int, 5, .inl m))) (hm' : xget h am' = some (.inl (false, .int, 5, .inl m'))) (hT : T.length < 5) (hB : B.length ≤ 5) (hW : RepW c (e :: T)) (hW' : RepW c' B) (he : (m T.length).toInt64 = e.2.2) (he' : ∀ f B', B = f :: B' → (m' B'.length).toInt64 = f.2.2) :
    xV D N0 mR_isBetterThan (d + 2) 0 (xargs 3 [.ref a, .ref b]) [] h (xEq (.returned (some (.int (xB (sbet e.2.2 (e :: T) B))))) h) := by
  refine xV.step rfl ?_
  refine xV.get xcl_ok rfl hb rfl ?_
  cases B with
  | nil =>
    refine xV.br rfl (fun h1 => ?_) (fun h1 => absurd rfl h1)
    refine xV.step rfl ?_
    exact xV.iret rfl rfl rfl ⟨rfl, rfl⟩
  | cons f B =>
    have hl : (f :: B).length = B.length + 1 := rfl
    rw [hl] at hb hB
    rw [hl]
    have he2 := he' f B rfl
    refine xV.br rfl (fun z => ?_) (fun h1 => ?_)
    · rw [show (0 : Int32) = nI 0 from rfl, xn_inj (by omega) (by omega)] at z
      omega
    refine xV.step rfl ?_
    refine xV.cV rfl rfl ha rfl g_mR_isBetterThan_35 mR_firstAmount_ok (Nat.le_of_ble_eq_true rfl) (Nat.le_of_ble_eq_true rfl) (c_R_firstAmount ha hm hT) ?_
    refine xV.step rfl ?_
    refine xV.cV rfl rfl hb rfl g_mR_isBetterThan_35 mR_firstAmount_ok (Nat.le_of_ble_eq_true rfl) (Nat.le_of_ble_eq_true rfl) (c_R_firstAmount hb hm' (by omega)) ?_
    refine xV.br rfl (fun h2 => ?_) (fun h2 => ?_)
    · have h2' : e.2.2 = f.2.2 := by rw [← he, ← he2, i64_inj]; exact h2
      rw [sbet, if_pos h2', show (e :: T).length = T.length + 1 from rfl]
      repeat' first
        | refine xV.step rfl ?_
        | refine xV.get xcl_ok rfl ha rfl ?_
        | refine xV.get xcl_ok rfl hb rfl ?_
      refine xV.br rfl (fun h3 => ?_) (fun h3 => ?_)
      · rw [xn_inj (by omega) (by omega)] at h3
        rw [if_pos h3]
        refine xV.step rfl ?_
        refine xV.get xcl_ok rfl ha rfl ?_
        refine xV.step rfl ?_
        refine xV.step rfl ?_
        refine xV.step rfl ?_
        refine c_R_isBetter_loop ha hb hc hc' (e :: T) (f :: B) _ (by simp; omega) (by simp; omega) ?_ hW hW'
        rw [show (e :: T).length = T.length + 1 from rfl]
        generalize nI (T.length + 1) = y
        rw [Int32.sub_add_cancel]
      · rw [xn_inj (by omega) (by omega)] at h3
        rw [if_neg h3]
        repeat' first
          | refine xV.step rfl ?_
          | refine xV.get xcl_ok rfl ha rfl ?_
          | refine xV.get xcl_ok rfl hb rfl ?_
        refine xV.br rfl (fun h4 => ?_) (fun h4 => ?_)
        · rw [xn_le (by omega) (by omega)] at h4
          repeat' refine xV.step rfl ?_
          exact xV.iret rfl rfl rfl ⟨xB0 (by omega), rfl⟩
        · rw [xn_le (by omega) (by omega)] at h4
          repeat' refine xV.step rfl ?_
          exact xV.iret rfl rfl rfl ⟨xB1 (by omega), rfl⟩
    · have h2' : ¬ e.2.2 = f.2.2 := fun z => h2 (by rw [← he, ← he2, i64_inj] at z; exact z)
      rw [sbet, if_neg h2']
      refine xV.step rfl ?_
      refine xV.cV rfl rfl ha rfl g_mR_isBetterThan_35 mR_firstAmount_ok (Nat.le_of_ble_eq_true rfl) (Nat.le_of_ble_eq_true rfl) (c_R_firstAmount ha hm hT) ?_
      refine xV.step rfl ?_
      refine xV.cV rfl rfl hb rfl g_mR_isBetterThan_35 mR_firstAmount_ok (Nat.le_of_ble_eq_true rfl) (Nat.le_of_ble_eq_true rfl) (c_R_firstAmount hb hm' (by omega)) ?_
      refine xV.br rfl (fun h4 => ?_) (fun h4 => ?_)
      · repeat' refine xV.step rfl ?_
        refine xV.iret rfl rfl rfl ⟨xB0 (fun z => ?_), rfl⟩
        rw [← he, ← he2, i64_lt] at z
        simp only [Int32.lt_iff_toInt_lt, Int32.le_iff_toInt_le] at *
        omega
      · repeat' refine xV.step rfl ?_
        refine xV.iret rfl rfl rfl ⟨xB1 ?_, rfl⟩
        rw [← he, ← he2, i64_lt]
        simp only [Int32.lt_iff_toInt_lt, Int32.le_iff_toInt_le] at *
        omega
end Y46
end
section
/- Part 47: copying a stretch of an array of ints; Route.copy. -/
set_option maxRecDepth 100000 in
theorem w_cpR : xW (.methodLink mR_copy.1.cls 29 arraycopyName) ∧ xW (.native arraycopyName) ∧ xW (.static arraycopyName) ∧ xW (.initialized "java/lang/System") := ⟨xW_tab (i := 617) rfl rfl, xW_tab (i := 391) rfl rfl, xW_tab (i := 390) rfl rfl, xW_tab (i := 18) rfl rfl⟩
section X47
variable {D : va_G} {N0 : Nat} {M : XM} {d pc : Nat} {lv : XL} {h : XH} {Q : Outcome → XH → Prop}
theorem xV.cpI {idx nx a b n0 n1 sp dp n : Nat} {ro : Bool} {f g : Nat → Int32} {rest : List Value} (hq : xon M pc = some (.invokestatic idx, nx)) (hw : xW (.methodLink M.1.cls idx arraycopyName) ∧ xW (.native arraycopyName) ∧ xW (.static arraycopyName) ∧ xW (.initialized "java/lang/System")) (ha : xget h a = some (.inl (ro, .int, n0, .inl f))) (hb : xget h b = some (.inl (false, .int, n1, .inl g)))
    (h4 : sp + n ≤ n0) (h5 : dp + n ≤ n1) (h6 : n0 ≤ 1024) (h7 : n1 ≤ 1024) (hcat : (rest.map fun v => v.category).sum + (nativeFrameWords "java/lang/System" "arraycopy" 5 + 11) ≤ 64)
    (k : xV D N0 M (d + 1) nx lv rest (xput h b (.inl (false, .int, n1, .inl (va_cpy f g sp dp n)))) Q) : xV D N0 M (d + 1) pc lv (.int (nI n) :: .int (nI dp) :: .ref b :: .int (nI sp) :: .ref a :: rest) h Q := by
  intro p l e R s m args below meth c H locs cells slots ls C hH hR hL T hT X
  obtain ⟨len, tg, cv, wi, hk⟩ := xon_spec C.2.2.2.2.2.2.2.2.2.2.2.2.1 hq
  obtain ⟨hd, hnx, hi⟩ := xchk_dec hk
  obtain rfl := Nat.eq_of_beq_eq_true hi
  obtain ⟨w1, w2, w3, w4⟩ := hw
  have hWS := C.2.2.2.2.2.2.2.2.1
  have hfr := C.2.2.2.2.2.2.2.2.2.2.1
  have hlo := C.2.2.2.2.2.2.2.2.2.2.2.1
  obtain ⟨⟨c0, a1, a2, a3⟩, -⟩ := hH.2.1 a _ ha
  obtain ⟨⟨c1, b1, b2, b3⟩, hN⟩ := hH.2.1 b _ hb
  have hN : N0 ≤ b := hN rfl
  obtain ⟨-, k0, hk0, cm0, hkk0⟩ := a2 n0 (fun j => .int (f j))
  obtain ⟨-, k1, hk1, cm1, hkk1⟩ := b2 n1 (fun j => .int (g j))
  have en : (nI n).toNatClampNeg = n := xn_clamp (by omega)
  have es : (nI sp).toNatClampNeg = sp := xn_clamp (by omega)
  have ed : (nI dp).toNatClampNeg = dp := xn_clamp (by omega)
  obtain ⟨vm', X', step⟩ := X.arraycopy C.1 C.2.2.2.2.2.2.2.1 (hWS _ w1 args) (hWS _ w2 args) (hWS _ w3 args) (hWS _ w4 args) (src := a) (dst := b) (cs := vp_cell c0 (n0, .inl f)) (cd := vp_cell c1 (n1, .inl g)) (srcPos := nI sp) (destPos := nI dp) (n := nI n) (by rw [hT]; exact a1) (by rw [hT]; exact b1)
    (fun _ z => by cases z) (fun _ z => by cases z) (fun z => by cases z) (fun z => by cases z) hk0 hk1 hkk0 hkk1 (by simp) (xn_nonneg (by omega)) (xn_nonneg (by omega)) (xn_nonneg (by omega))
    (by rw [xn_toInt (by omega), xn_toInt (by omega)]; show ¬ _ > ((arrV c0 n0 (fun j => .int (f j))).slots.size : Int); rw [arrV_size]; omega)
    (by rw [xn_toInt (by omega), xn_toInt (by omega)]; show ¬ _ > ((arrV c1 n1 (fun j => .int (g j))).slots.size : Int); rw [arrV_size]; omega)
    (fun vm₁ _ i hi => by
      have e1 : (vp_cell c0 (n0, .inl f)).slots.getD ((nI sp).toNatClampNeg + i) .null = .int (f (sp + i)) := by
        show (arrV c0 n0 (fun j => .int (f j))).slots.getD _ _ = _
        rw [Array.getD_eq_getD_getElem?, es, arrV_read _ _ (by omega)]
        rfl
      rw [e1]
      exact ⟨rfl, trivial⟩)
    (g := F0 m pc ls (.int (nI n) :: .int (nI dp) :: .ref b :: .int (nI sp) :: .ref a :: rest)) rfl (by rw [C.2.2.1]; exact hL.2.1) (rest := rest) rfl (by rw [C.2.1]; exact hd) (by omega) (by show 2 * 0 + _ + _ ≤ _; omega)
  have e1 : copied (vp_cell c0 (n0, .inl f)) (vp_cell c1 (n1, .inl g)) (nI sp) (nI dp) (nI n) = vp_cell c1 (n1, .inl (va_cpy f g sp dp n)) := by
    have := va_copied (fun z => Value.int z) c0 c1 (n1 := n1) (dp := dp) f g h4
    unfold copied
    rw [en, es, ed]
    exact this
  rw [e1] at X' step
  have hl : b < H.size := (Array.getElem?_eq_some_iff.mp b1).1
  have hheap : ((T.setVm vm').setCell b (vp_cell c1 (n1, .inl (va_cpy f g sp dp n)))).heap = H.setIfInBounds b (vp_cell c1 (n1, .inl (va_cpy f g sp dp n))) := by rw [← hT]; rfl
  have oq : ∀ q : Nat, q ≠ b → (H.setIfInBounds b (vp_cell c1 (n1, .inl (va_cpy f g sp dp n))))[q]? = H[q]? := fun q hq => by simp [Array.getElem?_setIfInBounds, Ne.symm hq]
  subst hnx
  obtain ⟨t, t1, t2⟩ := k p l e R s m args below meth c _ _ cells slots ls C
    (hH.put (a := b) (c := .inl (false, .int, n1, .inl (va_cpy f g sp dp n))) (by simp) oq ⟨c1, by simp [Array.getElem?_setIfInBounds, hl], b2, b3⟩ hN)
    ⟨fun q hq => by
      rcases List.mem_append.mp hq with z | z
      · exact hR.1 q z
      · obtain ⟨y, -, hy⟩ := List.mem_map.mp z
        rw [← hy]
        exact hN, hR.2⟩ hL _ hheap X'
  exact ⟨t, step t t1, t2⟩
end X47
section Y47
variable {D : va_G} {N0 : Nat} {d a b : Nat} {h : XH} {ln ln' : Int32} {ch py am ch' py' am' : Nat} {c p m c' p' m' : Nat → Int32}
theorem c_R_copy (ha : xget h a = some (.inr (3, roF ch py am ln))) (hb : xget h b = some (.inr (3, roF ch' py' am' ln'))) (hc : xget h ch = some (.inl (false, .int, 5, .inl c))) (hp : xget h py = some (.inl (false, .int, 5, .inl p))) (hm : xget h am = some (.inl (false, .int, 5, .inl m))) (hc' : xget h ch' = some (.inl (false, .int, 5, .inl c'))) (hp' : xget h py' = some (.inl (false, .int, 5, .inl p'))) (hm' : xget h am' = some (.inl (false, .int, 5, .inl m')))
    (n1 : a ≠ ch) (n2 : a ≠ py) (n3 : a ≠ am) (n4 : b ≠ ch) (n5 : b ≠ py) (n6 : b ≠ am) (n7 : py ≠ ch) (n8 : am ≠ ch) (n9 : am ≠ py) (m1 : py' ≠ ch) (m2 : am' ≠ ch) (m3 : am' ≠ py) :
    xV D N0 mR_copy (d + 1) 0 (xargs 2 [.ref a, .ref b]) [] h (xEq (.returned none) (xput (xput (xput (xput h ch (.inl (false, .int, 5, .inl (va_cpy c' c 0 0 5)))) py (.inl (false, .int, 5, .inl (va_cpy p' p 0 0 5)))) am (.inl (false, .int, 5, .inl (va_cpy m' m 0 0 5)))) a (.inr (3, roF ch py am ln')))) := by
  refine xV.step rfl ?_
  refine xV.get xcl_ok rfl hb rfl ?_
  refine xV.step rfl ?_
  refine xV.step rfl ?_
  refine xV.get xcl_ok rfl ha rfl ?_
  refine xV.step rfl ?_
  refine xV.step rfl ?_
  refine xV.cpI (sp := 0) (dp := 0) (n := 5) rfl w_cpR hc' hc (by omega) (by omega) (by omega) (by omega) (by decide +kernel) ?_
  have ha1 : xget (xput h ch (.inl (false, .int, 5, .inl (va_cpy c' c 0 0 5)))) a = some (.inr (3, roF ch py am ln)) := by rw [xput_ne n1]; exact ha
  have hb1 : xget (xput h ch (.inl (false, .int, 5, .inl (va_cpy c' c 0 0 5)))) b = some (.inr (3, roF ch' py' am' ln')) := by rw [xput_ne n4]; exact hb
  refine xV.step rfl ?_
  refine xV.get xcl_ok rfl hb1 rfl ?_
  refine xV.step rfl ?_
  refine xV.step rfl ?_
  refine xV.get xcl_ok rfl ha1 rfl ?_
  refine xV.step rfl ?_
  refine xV.step rfl ?_
  refine xV.cpI (sp := 0) (dp := 0) (n := 5) (f := p') (g := p) (n0 := 5) (n1 := 5) (ro := false) rfl w_cpR (by rw [xput_ne m1]; exact hp') (by rw [xput_ne n7]; exact hp) (by omega) (by omega) (by omega) (by omega) (by decide +kernel) ?_
  have ha2 : xget (xput (xput h ch (.inl (false, .int, 5, .inl (va_cpy c' c 0 0 5)))) py (.inl (false, .int, 5, .inl (va_cpy p' p 0 0 5)))) a = some (.inr (3, roF ch py am ln)) := by rw [xput_ne n2]; exact ha1
  have hb2 : xget (xput (xput h ch (.inl (false, .int, 5, .inl (va_cpy c' c 0 0 5)))) py (.inl (false, .int, 5, .inl (va_cpy p' p 0 0 5)))) b = some (.inr (3, roF ch' py' am' ln')) := by rw [xput_ne n5]; exact hb1
  refine xV.step rfl ?_
  refine xV.get xcl_ok rfl hb2 rfl ?_
  refine xV.step rfl ?_
  refine xV.step rfl ?_
  refine xV.get xcl_ok rfl ha2 rfl ?_
  refine xV.step rfl ?_
  refine xV.step rfl ?_
  refine xV.cpI (sp := 0) (dp := 0) (n := 5) (f := m') (g := m) (n0 := 5) (n1 := 5) (ro := false) rfl w_cpR (by rw [xput_ne m3, xput_ne m2]; exact hm') (by rw [xput_ne n9, xput_ne n8]; exact hm) (by omega) (by omega) (by omega) (by omega) (by decide +kernel) ?_
  have ha3 : xget (xput (xput (xput h ch (.inl (false, .int, 5, .inl (va_cpy c' c 0 0 5)))) py (.inl (false, .int, 5, .inl (va_cpy p' p 0 0 5)))) am (.inl (false, .int, 5, .inl (va_cpy m' m 0 0 5)))) a = some (.inr (3, roF ch py am ln)) := by rw [xput_ne n3]; exact ha2
  have hb3 : xget (xput (xput (xput h ch (.inl (false, .int, 5, .inl (va_cpy c' c 0 0 5)))) py (.inl (false, .int, 5, .inl (va_cpy p' p 0 0 5)))) am (.inl (false, .int, 5, .inl (va_cpy m' m 0 0 5)))) b = some (.inr (3, roF ch' py' am' ln')) := by rw [xput_ne n6]; exact hb2
  refine xV.step rfl ?_
  refine xV.step rfl ?_
  refine xV.get xcl_ok rfl hb3 rfl ?_
  refine xV.put xcl_ok rfl ha3 rfl rfl rfl (Nat.le_of_ble_eq_true rfl) ?_
  exact xV.vret rfl rfl ⟨rfl, rfl⟩
end Y47
end
section
/- Part 48: constructors without lists; fees; whether a promise can end. -/
def neF (co ba pa de wa se ch py la tr : Nat) (hg : Int32) : List Value := [.ref co, .ref ba, .ref pa, .ref de, .ref wa, .ref se, .ref ch, .ref py, .ref la, .ref tr, .int hg]
section X48
variable {D : va_G} {N0 : Nat} {d a : Nat} {h : XH}
theorem c_P_init (ha : xget h a = some (.inr (5, xdf 5))) {p q am dl mi : Int32} {lo : Int64} :
    xV D N0 mP_init (d + 1) 0 (xargs 8 [.ref a, .int p, .int q, .int am, .long lo, .int dl, .int mi]) [] h (xEq (.returned none) (xput h a (.inr (5, prF p q am lo dl mi (-1) false)))) := by
  refine xV.step rfl ?_
  refine xV.obj rfl g_mP_init_3 (Nat.le_of_ble_eq_true rfl) ?_
  refine xV.step rfl ?_
  refine xV.step rfl ?_
  refine xV.put xcl_ok rfl ha rfl rfl rfl (Nat.le_of_ble_eq_true rfl) ?_
  refine xV.step rfl ?_
  refine xV.step rfl ?_
  refine xV.put xcl_ok rfl xput_get rfl rfl rfl (Nat.le_of_ble_eq_true rfl) ?_
  rw [xput_put]
  refine xV.step rfl ?_
  refine xV.step rfl ?_
  refine xV.put xcl_ok rfl xput_get rfl rfl rfl (Nat.le_of_ble_eq_true rfl) ?_
  rw [xput_put]
  refine xV.step rfl ?_
  refine xV.step rfl ?_
  refine xV.put xcl_ok rfl xput_get rfl rfl rfl (Nat.le_of_ble_eq_true rfl) ?_
  rw [xput_put]
  refine xV.step rfl ?_
  refine xV.step rfl ?_
  refine xV.put xcl_ok rfl xput_get rfl rfl rfl (Nat.le_of_ble_eq_true rfl) ?_
  rw [xput_put]
  refine xV.step rfl ?_
  refine xV.step rfl ?_
  refine xV.put xcl_ok rfl xput_get rfl rfl rfl (Nat.le_of_ble_eq_true rfl) ?_
  rw [xput_put]
  refine xV.step rfl ?_
  refine xV.step rfl ?_
  refine xV.put xcl_ok rfl xput_get rfl rfl rfl (Nat.le_of_ble_eq_true rfl) ?_
  rw [xput_put]
  refine xV.step rfl ?_
  refine xV.step rfl ?_
  refine xV.put xcl_ok rfl xput_get rfl rfl rfl (Nat.le_of_ble_eq_true rfl) ?_
  rw [xput_put]
  exact xV.vret rfl rfl ⟨rfl, rfl⟩
theorem xnew_ne {h : XH} {a n : Nat} {c : XC} (hn : a ≠ h.1) : xget (xnew h c n) a = xget h a := by
  show (if a = h.1 then some c else h.2.2.2 a) = h.2.2.2 a
  rw [if_neg hn]
theorem c_N_feeOf {co ba pa de wa se ch py la tr v : Nat} {hg am : Int32} {b q : Nat → Int32} (ha : xget h a = some (.inr (0, neF co ba pa de wa se ch py la tr hg))) (hb : xget h ba = some (.inl (false, .int, 6, .inl b))) (hq : xget h pa = some (.inl (false, .int, 6, .inl q))) (hv : v < 6) :
    xV D N0 mN_feeOf d 0 (xargs 3 [.ref a, .int (nI v), .int am]) [] h (xEq (.returned (some (.int (b v + (am.toInt64 * (q v).toInt64 / 1000000).toInt32)))) h) := by
  refine xV.step rfl ?_
  refine xV.get xcl_ok rfl ha rfl ?_
  refine xV.step rfl ?_
  refine xV.ii (j := v) rfl hb rfl hv (by omega) ?_
  repeat' first
    | refine xV.step rfl ?_
    | refine xV.get xcl_ok rfl ha rfl ?_
  refine xV.ii (j := v) rfl hq rfl hv (by omega) ?_
  repeat' refine xV.step rfl ?_
  refine xV.ldiv rfl (by decide) ?_
  repeat' refine xV.step rfl ?_
  exact xV.iret rfl rfl rfl ⟨rfl, rfl⟩
def ecan (st la mi gi dl hg w : Int32) : Bool := decide (st = 0 ∧ isIn0 mi gi la = true ∧ (w = 2 ∨ hg < dl))
theorem c_N_canEnd {co ba pa de wa se ch py la tr o r b1 b2 pl : Nat} {hg w f s lt st he pu pd pb p q am dl mi gi : Int32} {sd po : Bool} {lo : Int64} (ha : xget h a = some (.inr (0, neF co ba pa de wa se ch py la tr hg))) (hc : xget h o = some (.inr (4, chF f s b1 b2 pl lt st he pu pd pb sd))) (hp : xget h r = some (.inr (5, prF p q am lo dl mi gi po))) :
    xV D N0 mN_canEnd (d + 1) 0 (xargs 4 [.ref a, .ref o, .ref r, .int w]) [] h (xEq (.returned (some (.int (xB (ecan st lt mi gi dl hg w))))) h) := by
  unfold ecan
  refine xV.step rfl ?_
  refine xV.get xcl_ok rfl hc rfl ?_
  refine xV.br rfl (fun h1 => ?_) (fun h1 => ?_)
  case refine_2 =>
    refine xV.step rfl ?_
    exact xV.iret rfl rfl rfl ⟨xB0 (fun z => h1 z.1), rfl⟩
  refine xV.step rfl ?_
  refine xV.step rfl ?_
  refine xV.get xcl_ok rfl hc rfl ?_
  refine xV.cV rfl rfl hp rfl g_mN_canEnd_195 mP_isIn_ok (Nat.le_of_ble_eq_true rfl) (Nat.le_of_ble_eq_true rfl) (c_P_isIn hp) ?_
  refine xV.br rfl (fun h2 => ?_) (fun h2 => ?_)
  · refine xV.step rfl ?_
    exact xV.iret rfl rfl rfl ⟨xB0 (fun z => by rw [xB_f h2] at z; cases z.2.1), rfl⟩
  refine xV.step rfl ?_
  refine xV.step rfl ?_
  refine xV.br rfl (fun h3 => ?_) (fun h3 => ?_)
  · refine xV.step rfl ?_
    refine xV.step rfl ?_
    exact xV.iret rfl rfl rfl ⟨xB1 ⟨h1, xB_t h2, Or.inl h3⟩, rfl⟩
  refine xV.step rfl ?_
  refine xV.get xcl_ok rfl hp rfl ?_
  refine xV.step rfl ?_
  refine xV.get xcl_ok rfl ha rfl ?_
  refine xV.br rfl (fun h4 => ?_) (fun h4 => ?_)
  · refine xV.step rfl ?_
    refine xV.iret rfl rfl rfl ⟨xB0 (fun z => ?_), rfl⟩
    rcases z.2.2 with y | y
    · exact h3 y
    · simp only [Int32.lt_iff_toInt_lt, Int32.le_iff_toInt_le] at *
      omega
  · refine xV.step rfl ?_
    refine xV.step rfl ?_
    refine xV.iret rfl rfl rfl ⟨xB1 ⟨h1, xB_t h2, Or.inr ?_⟩, rfl⟩
    simp only [Int32.lt_iff_toInt_lt, Int32.le_iff_toInt_le] at *
    omega
end X48
end
section
/- Part 49: the constructors of Secrets and Route; what the ledger pays. -/
theorem put_new {h : XH} {a n : Nat} {c c' : XC} (hn : a ≠ h.1) : xnew (xput h a c') c n = xput (xnew h c n) a c' := by
  refine Prod.ext rfl (Prod.ext rfl (Prod.ext rfl ?_))
  funext x
  show (if x = h.1 then some c else if x = a then some c' else h.2.2.2 x) = if x = a then some c' else if x = h.1 then some c else h.2.2.2 x
  by_cases h1 : x = a
  · rw [if_pos h1, if_neg (by omega), if_pos h1]
  · rw [if_neg h1, if_neg h1]
def zI (n : Nat) : XC := .inl (false, .int, n, .inl fun _ => 0)
def zJ (n : Nat) : XC := .inl (false, .long, n, .inr (.inl fun _ => 0))
section X49
variable {D : va_G} {N0 : Nat} {d a : Nat} {h : XH}
theorem c_S_init (ha : xget h a = some (.inr (1, xdf 1))) (hl : a < h.1) (hc1 : h.2.1 + 2 ≤ xCmax) (hc2 : h.2.2.1 + 48 ≤ xSmax) :
    xV D N0 mS_init (d + 1) 0 (xargs 1 [.ref a]) [] h (xEq (.returned none) (xput (xnew (xnew h (zJ 24) 24) (zI 24) 24) a (.inr (1, [.ref h.1, .ref (h.1 + 1), .int (nI 0)])))) := by
  refine xV.step rfl ?_
  refine xV.obj rfl g_mS_init_3 (Nat.le_of_ble_eq_true rfl) ?_
  refine xV.step rfl ?_
  refine xV.step rfl ?_
  refine xV.nwJ (N := 24) rfl rfl (by omega) (by omega) (by omega) ?_
  refine xV.put xcl_ok rfl (fs := xdf 1) (by rw [xnew_ne (by omega)]; exact ha) rfl rfl rfl (Nat.le_of_ble_eq_true rfl) ?_
  refine xV.step rfl ?_
  refine xV.step rfl ?_
  refine xV.nwI (N := 24) rfl rfl (by omega) (by show h.2.1 + 1 + 1 ≤ _; omega) (by show h.2.2.1 + 24 + 24 ≤ _; omega) ?_
  rw [put_new (by show a ≠ h.1 + 1; omega)]
  refine xV.put xcl_ok rfl xput_get rfl rfl rfl (Nat.le_of_ble_eq_true rfl) ?_
  rw [xput_put]
  refine xV.step rfl ?_
  refine xV.step rfl ?_
  refine xV.put xcl_ok rfl xput_get rfl rfl rfl (Nat.le_of_ble_eq_true rfl) ?_
  rw [xput_put]
  exact xV.vret rfl rfl ⟨rfl, rfl⟩
theorem c_R_init (ha : xget h a = some (.inr (3, xdf 3))) (hl : a < h.1) (hc1 : h.2.1 + 3 ≤ xCmax) (hc2 : h.2.2.1 + 15 ≤ xSmax) :
    xV D N0 mR_init (d + 1) 0 (xargs 1 [.ref a]) [] h (xEq (.returned none) (xput (xnew (xnew (xnew h (zI 5) 5) (zI 5) 5) (zI 5) 5) a (.inr (3, roF h.1 (h.1 + 1) (h.1 + 2) (nI 0))))) := by
  refine xV.step rfl ?_
  refine xV.obj rfl g_mR_init_3 (Nat.le_of_ble_eq_true rfl) ?_
  refine xV.step rfl ?_
  refine xV.step rfl ?_
  refine xV.nwI (N := 5) rfl rfl (by omega) (by omega) (by omega) ?_
  refine xV.put xcl_ok rfl (fs := xdf 3) (by rw [xnew_ne (by omega)]; exact ha) rfl rfl rfl (Nat.le_of_ble_eq_true rfl) ?_
  refine xV.step rfl ?_
  refine xV.step rfl ?_
  refine xV.nwI (N := 5) rfl rfl (by omega) (by show h.2.1 + 1 + 1 ≤ _; omega) (by show h.2.2.1 + 5 + 5 ≤ _; omega) ?_
  rw [put_new (by show a ≠ h.1 + 1; omega)]
  refine xV.put xcl_ok rfl xput_get rfl rfl rfl (Nat.le_of_ble_eq_true rfl) ?_
  rw [xput_put]
  refine xV.step rfl ?_
  refine xV.step rfl ?_
  refine xV.nwI (N := 5) rfl rfl (by omega) (by show h.2.1 + 1 + 1 + 1 ≤ _; omega) (by show h.2.2.1 + 5 + 5 + 5 ≤ _; omega) ?_
  rw [put_new (by show a ≠ h.1 + 1 + 1; omega)]
  refine xV.put xcl_ok rfl xput_get rfl rfl rfl (Nat.le_of_ble_eq_true rfl) ?_
  rw [xput_put]
  refine xV.step rfl ?_
  refine xV.step rfl ?_
  refine xV.put xcl_ok rfl xput_get rfl rfl rfl (Nat.le_of_ble_eq_true rfl) ?_
  rw [xput_put]
  exact xV.vret rfl rfl ⟨rfl, rfl⟩
end X49
section Y49
variable {D : va_G} {N0 : Nat} {d a : Nat} {h : XH} {co ba pa de wa se ch py la tr o b1 b2 pl : Nat} {hg f s lt st he pu pd pb : Int32} {sd : Bool} {c c1 c2 : Nat → Int32}
theorem c_N_payPunisher {v : Nat} (ha : xget h a = some (.inr (0, neF co ba pa de wa se ch py la tr hg))) (hc : xget h o = some (.inr (4, chF f s b1 b2 pl lt st he pu pd pb sd))) (hk : xget h co = some (.inl (false, .int, 6, .inl c))) (hv : (if pu = f then s else f) = nI v) (hv2 : v < 6) (n1 : o ≠ co) :
    xV D N0 mN_payPunisher (d + 2) 0 (xargs 2 [.ref a, .ref o]) [] h (xEq (.returned none) (xput (xput h co (.inl (false, .int, 6, .inl (upd c v (c v + he))))) o (.inr (4, chF f s b1 b2 pl lt 2 0 pu pd pb sd)))) := by
  refine xV.step rfl ?_
  refine xV.get xcl_ok rfl ha rfl ?_
  refine xV.step rfl ?_
  refine xV.cV rfl rfl hc rfl g_mN_payPunisher_265 mC_punisher_ok (Nat.le_of_ble_eq_true rfl) (Nat.le_of_ble_eq_true rfl) (c_C_punisher hc) ?_
  rw [hv]
  refine xV.step rfl ?_
  refine xV.ii (j := v) rfl hk rfl hv2 (by omega) ?_
  refine xV.step rfl ?_
  refine xV.get xcl_ok rfl hc rfl ?_
  refine xV.step rfl ?_
  refine xV.is (j := v) rfl hk rfl hv2 (by omega) ?_
  have hc1 : xget (xput h co (.inl (false, .int, 6, .inl (upd c v (c v + he))))) o = some (.inr (4, chF f s b1 b2 pl lt st he pu pd pb sd)) := by rw [xput_ne n1]; exact hc
  refine xV.step rfl ?_
  refine xV.step rfl ?_
  refine xV.put xcl_ok rfl hc1 rfl rfl rfl (Nat.le_of_ble_eq_true rfl) ?_
  refine xV.step rfl ?_
  refine xV.step rfl ?_
  refine xV.put xcl_ok rfl xput_get rfl rfl rfl (Nat.le_of_ble_eq_true rfl) ?_
  rw [xput_put]
  exact xV.vret rfl rfl ⟨rfl, rfl⟩
theorem c_N_payBalances {v w l : Nat} (ha : xget h a = some (.inr (0, neF co ba pa de wa se ch py la tr hg))) (hc : xget h o = some (.inr (4, chF (nI v) (nI w) b1 b2 pl lt st he pu pd pb sd))) (hk : xget h co = some (.inl (false, .int, 6, .inl c))) (h1 : xget h b1 = some (.inl (false, .int, 64, .inl c1))) (h2 : xget h b2 = some (.inl (false, .int, 64, .inl c2))) (hv : v < 6) (hw : w < 6) (hl : l < 64) (n1 : o ≠ co) (n2 : a ≠ co) (n3 : b1 ≠ co) (n4 : b2 ≠ co) :
    xV D N0 mN_payBalances d 0 (xargs 3 [.ref a, .ref o, .int (nI l)]) [] h (xEq (.returned none) (xput (xput h co (.inl (false, .int, 6, .inl (upd (upd c v (c v + c1 l)) w (upd c v (c v + c1 l) w + c2 l))))) o (.inr (4, chF (nI v) (nI w) b1 b2 pl lt st (he - (c1 l + c2 l)) pu pd pb sd)))) := by
  refine xV.step rfl ?_
  refine xV.get xcl_ok rfl ha rfl ?_
  refine xV.step rfl ?_
  refine xV.get xcl_ok rfl hc rfl ?_
  refine xV.step rfl ?_
  refine xV.ii (j := v) rfl hk rfl hv (by omega) ?_
  refine xV.step rfl ?_
  refine xV.get xcl_ok rfl hc rfl ?_
  refine xV.step rfl ?_
  refine xV.ii (j := l) rfl h1 rfl hl (by omega) ?_
  refine xV.step rfl ?_
  refine xV.is (j := v) rfl hk rfl hv (by omega) ?_
  have ha1 : xget (xput h co (.inl (false, .int, 6, .inl (upd c v (c v + c1 l))))) a = some (.inr (0, neF co ba pa de wa se ch py la tr hg)) := by rw [xput_ne n2]; exact ha
  have hc1 : xget (xput h co (.inl (false, .int, 6, .inl (upd c v (c v + c1 l))))) o = some (.inr (4, chF (nI v) (nI w) b1 b2 pl lt st he pu pd pb sd)) := by rw [xput_ne n1]; exact hc
  refine xV.step rfl ?_
  refine xV.get xcl_ok rfl ha1 rfl ?_
  refine xV.step rfl ?_
  refine xV.get xcl_ok rfl hc1 rfl ?_
  refine xV.step rfl ?_
  refine xV.ii (j := w) rfl xput_get rfl hw (by omega) ?_
  refine xV.step rfl ?_
  refine xV.get xcl_ok rfl hc1 rfl ?_
  refine xV.step rfl ?_
  refine xV.ii (f := c2) (n := 64) (j := l) rfl (by rw [xput_ne n4]; exact h2) rfl hl (by omega) ?_
  refine xV.step rfl ?_
  refine xV.is (j := w) rfl xput_get rfl hw (by omega) ?_
  rw [xput_put]
  have hc2 : xget (xput h co (.inl (false, .int, 6, .inl (upd (upd c v (c v + c1 l)) w (upd c v (c v + c1 l) w + c2 l))))) o = some (.inr (4, chF (nI v) (nI w) b1 b2 pl lt st he pu pd pb sd)) := by rw [xput_ne n1]; exact hc
  refine xV.step rfl ?_
  refine xV.step rfl ?_
  refine xV.get xcl_ok rfl hc2 rfl ?_
  refine xV.step rfl ?_
  refine xV.get xcl_ok rfl hc2 rfl ?_
  refine xV.step rfl ?_
  refine xV.ii (f := c1) (n := 64) (j := l) rfl (by rw [xput_ne n3]; exact h1) rfl hl (by omega) ?_
  refine xV.step rfl ?_
  refine xV.get xcl_ok rfl hc2 rfl ?_
  refine xV.step rfl ?_
  refine xV.ii (f := c2) (n := 64) (j := l) rfl (by rw [xput_ne n4]; exact h2) rfl hl (by omega) ?_
  refine xV.step rfl ?_
  refine xV.step rfl ?_
  refine xV.put xcl_ok rfl hc2 rfl rfl rfl (Nat.le_of_ble_eq_true rfl) ?_
  exact xV.vret rfl rfl ⟨rfl, rfl⟩
theorem c_N_payPromise {v r : Nat} {p q am dl mi gi : Int32} {lo : Int64} {po : Bool} (ha : xget h a = some (.inr (0, neF co ba pa de wa se ch py la tr hg))) (hc : xget h o = some (.inr (4, chF f s b1 b2 pl lt st he pu pd pb sd))) (hp : xget h r = some (.inr (5, prF p q am lo dl mi gi po))) (hk : xget h co = some (.inl (false, .int, 6, .inl c))) (hv : v < 6) (n1 : o ≠ co) (n2 : r ≠ co) (n3 : r ≠ o) :
    xV D N0 mN_payPromise (d + 1) 0 (xargs 4 [.ref a, .ref o, .ref r, .int (nI v)]) [] h (xEq (.returned none) (xput (xput (xput (xput h co (.inl (false, .int, 6, .inl (upd c v (c v + am))))) o (.inr (4, chF f s b1 b2 pl lt st (he - am) pu pd pb sd))) r (.inr (5, prF p q am lo dl mi gi true))) o (.inr (4, chF f s b1 b2 pl lt (cspent st (he - am) sd) (he - am) pu pd pb sd)))) := by
  refine xV.step rfl ?_
  refine xV.get xcl_ok rfl ha rfl ?_
  refine xV.step rfl ?_
  refine xV.step rfl ?_
  refine xV.ii (j := v) rfl hk rfl hv (by omega) ?_
  refine xV.step rfl ?_
  refine xV.get xcl_ok rfl hp rfl ?_
  refine xV.step rfl ?_
  refine xV.is (j := v) rfl hk rfl hv (by omega) ?_
  have hc1 : xget (xput h co (.inl (false, .int, 6, .inl (upd c v (c v + am))))) o = some (.inr (4, chF f s b1 b2 pl lt st he pu pd pb sd)) := by rw [xput_ne n1]; exact hc
  have hp1 : xget (xput h co (.inl (false, .int, 6, .inl (upd c v (c v + am))))) r = some (.inr (5, prF p q am lo dl mi gi po)) := by rw [xput_ne n2]; exact hp
  refine xV.step rfl ?_
  refine xV.step rfl ?_
  refine xV.get xcl_ok rfl hc1 rfl ?_
  refine xV.step rfl ?_
  refine xV.get xcl_ok rfl hp1 rfl ?_
  refine xV.step rfl ?_
  refine xV.put xcl_ok rfl hc1 rfl rfl rfl (Nat.le_of_ble_eq_true rfl) ?_
  refine xV.step rfl ?_
  refine xV.step rfl ?_
  refine xV.put xcl_ok rfl (fs := prF p q am lo dl mi gi po) (by rw [xput_ne n3]; exact hp1) rfl rfl rfl (Nat.le_of_ble_eq_true rfl) ?_
  refine xV.step rfl ?_
  have hc3 : xget (xput (xput (xput h co (.inl (false, .int, 6, .inl (upd c v (c v + am))))) o (.inr (4, chF f s b1 b2 pl lt st (he - am) pu pd pb sd))) r (.inr (5, prF p q am lo dl mi gi true))) o = some (.inr (4, chF f s b1 b2 pl lt st (he - am) pu pd pb sd)) := by rw [xput_ne (fun z => n3 z.symm)]; exact xput_get
  refine xV.cV rfl rfl hc3 rfl g_mN_payPromise_279 mC_closeIfSpent_ok (Nat.le_of_ble_eq_true rfl) (Nat.le_of_ble_eq_true rfl) (c_C_closeIfSpent hc3) ?_
  exact xV.vret rfl rfl ⟨rfl, rfl⟩
end Y49
end
section
/- Part 50: things by their numbers: printed by wip/whole/tools/gen50.py -/
def xGt (b : Bool) (v : Value) (h : XH) : Outcome → XH → Prop := fun o u => (b = true ∧ o = .returned (some v) ∧ u = h) ∨ (b = false ∧ o = .threw h.1 ∧ u = xnew h (.inr (8, [])) 6)
def inr0 (n : Int32) (C : Nat) : Bool := decide (0 ≤ n ∧ n < nI C)
section X50
variable {D : va_G} {N0 : Nat} {d a : Nat} {h : XH}
theorem c_N_channelAt {co ba pa de wa se ch py la tr : Nat} {hg : Int32} {q : Nat → Nat} {C j : Nat} {n : Int32} (ha : xget h a = some (.inr (0, neF co ba pa de wa se ch py la tr hg))) (hL : aL h ch q C) (hn : inr0 n C = true → n = nI j ∧ j < C) (hq : inr0 n C = true → ∃ fs, xget h (q j) = some (.inr (4, fs))) (hr : xrm h) :
    xV D N0 mN_channelAt (d + 7) 0 (xargs 2 [.ref a, .int n]) [] h (xGt (inr0 n C) (.ref (q j)) h) := by
  have go : ∀ b : Bool, inr0 n C = b → xV D N0 mN_channelAt (d + 7) 20 (xargs 2 [.ref a, .int n]) [.int (xB b)] h (xGt (inr0 n C) (.ref (q j)) h) := fun b hb => by
    refine xV.ck rfl g_mN_channelAt_106 mN_checkIndex_ok (Nat.le_of_ble_eq_true rfl) (Nat.le_of_ble_eq_true rfl) rfl (c_N_checkIndex (b := b) hr) (fun z => Or.inr ⟨by rw [hb]; exact z, rfl, rfl⟩) (fun z => ?_)
    have hi : inr0 n C = true := by rw [hb]; exact z
    obtain ⟨e, hj⟩ := hn hi
    obtain ⟨fs, hf⟩ := hq hi
    refine xV.step rfl ?_
    refine xV.get xcl_ok rfl ha rfl ?_
    refine xV.step rfl ?_
    refine xV.lgt hL e hj rfl g_mN_channelAt_298 (Nat.le_of_ble_eq_true rfl) ?_
    refine xV.cast rfl hf rfl k_mN_channelAt_89 ?_
    exact xV.aret rfl rfl (Or.inl ⟨_, rfl⟩) (Or.inr ⟨_, rfl⟩) (Or.inl ⟨hi, rfl, rfl⟩)
  refine xV.step rfl ?_
  refine xV.br rfl (fun h1 => ?_) (fun h1 => ?_)
  · refine xV.step rfl ?_
    refine go false (decide_eq_false (fun z => ?_))
    have := z.1
    simp only [Int32.lt_iff_toInt_lt, Int32.le_iff_toInt_le] at *
    omega
  refine xV.step rfl ?_
  refine xV.step rfl ?_
  refine xV.get xcl_ok rfl ha rfl ?_
  refine xV.lsz hL rfl g_mN_channelAt_85 (Nat.le_of_ble_eq_true rfl) ?_
  refine xV.br rfl (fun h2 => ?_) (fun h2 => ?_)
  · refine xV.step rfl ?_
    refine go false (decide_eq_false (fun z => ?_))
    have := z.2
    simp only [Int32.lt_iff_toInt_lt, Int32.le_iff_toInt_le] at *
    omega
  · refine xV.step rfl ?_
    refine xV.step rfl ?_
    refine go true (decide_eq_true ?_)
    simp only [Int32.lt_iff_toInt_lt, Int32.le_iff_toInt_le] at *
    omega
theorem c_N_paymentAt {co ba pa de wa se ch py la tr : Nat} {hg : Int32} {q : Nat → Nat} {C j : Nat} {n : Int32} (ha : xget h a = some (.inr (0, neF co ba pa de wa se ch py la tr hg))) (hL : aL h py q C) (hn : inr0 n C = true → n = nI j ∧ j < C) (hq : inr0 n C = true → ∃ fs, xget h (q j) = some (.inr (6, fs))) (hr : xrm h) :
    xV D N0 mN_paymentAt (d + 7) 0 (xargs 2 [.ref a, .int n]) [] h (xGt (inr0 n C) (.ref (q j)) h) := by
  have go : ∀ b : Bool, inr0 n C = b → xV D N0 mN_paymentAt (d + 7) 20 (xargs 2 [.ref a, .int n]) [.int (xB b)] h (xGt (inr0 n C) (.ref (q j)) h) := fun b hb => by
    refine xV.ck rfl g_mN_paymentAt_106 mN_checkIndex_ok (Nat.le_of_ble_eq_true rfl) (Nat.le_of_ble_eq_true rfl) rfl (c_N_checkIndex (b := b) hr) (fun z => Or.inr ⟨by rw [hb]; exact z, rfl, rfl⟩) (fun z => ?_)
    have hi : inr0 n C = true := by rw [hb]; exact z
    obtain ⟨e, hj⟩ := hn hi
    obtain ⟨fs, hf⟩ := hq hi
    refine xV.step rfl ?_
    refine xV.get xcl_ok rfl ha rfl ?_
    refine xV.step rfl ?_
    refine xV.lgt hL e hj rfl g_mN_paymentAt_298 (Nat.le_of_ble_eq_true rfl) ?_
    refine xV.cast rfl hf rfl k_mN_paymentAt_217 ?_
    exact xV.aret rfl rfl (Or.inl ⟨_, rfl⟩) (Or.inr ⟨_, rfl⟩) (Or.inl ⟨hi, rfl, rfl⟩)
  refine xV.step rfl ?_
  refine xV.br rfl (fun h1 => ?_) (fun h1 => ?_)
  · refine xV.step rfl ?_
    refine go false (decide_eq_false (fun z => ?_))
    have := z.1
    simp only [Int32.lt_iff_toInt_lt, Int32.le_iff_toInt_le] at *
    omega
  refine xV.step rfl ?_
  refine xV.step rfl ?_
  refine xV.get xcl_ok rfl ha rfl ?_
  refine xV.lsz hL rfl g_mN_paymentAt_85 (Nat.le_of_ble_eq_true rfl) ?_
  refine xV.br rfl (fun h2 => ?_) (fun h2 => ?_)
  · refine xV.step rfl ?_
    refine go false (decide_eq_false (fun z => ?_))
    have := z.2
    simp only [Int32.lt_iff_toInt_lt, Int32.le_iff_toInt_le] at *
    omega
  · refine xV.step rfl ?_
    refine xV.step rfl ?_
    refine go true (decide_eq_true ?_)
    simp only [Int32.lt_iff_toInt_lt, Int32.le_iff_toInt_le] at *
    omega
theorem c_N_promiseOf {f s lt st he pu pd pb : Int32} {b1 b2 pl : Nat} {sd : Bool} {q : Nat → Nat} {C j : Nat} {n : Int32} (ha : xget h a = some (.inr (4, chF f s b1 b2 pl lt st he pu pd pb sd))) (hL : aL h pl q C) (hn : inr0 n C = true → n = nI j ∧ j < C) (hq : inr0 n C = true → ∃ fs, xget h (q j) = some (.inr (5, fs))) (hr : xrm h) :
    xV D N0 mN_promiseOf (d + 7) 0 (xargs 2 [.ref a, .int n]) [] h (xGt (inr0 n C) (.ref (q j)) h) := by
  have go : ∀ b : Bool, inr0 n C = b → xV D N0 mN_promiseOf (d + 7) 20 (xargs 2 [.ref a, .int n]) [.int (xB b)] h (xGt (inr0 n C) (.ref (q j)) h) := fun b hb => by
    refine xV.ck rfl g_mN_promiseOf_106 mN_checkIndex_ok (Nat.le_of_ble_eq_true rfl) (Nat.le_of_ble_eq_true rfl) rfl (c_N_checkIndex (b := b) hr) (fun z => Or.inr ⟨by rw [hb]; exact z, rfl, rfl⟩) (fun z => ?_)
    have hi : inr0 n C = true := by rw [hb]; exact z
    obtain ⟨e, hj⟩ := hn hi
    obtain ⟨fs, hf⟩ := hq hi
    refine xV.step rfl ?_
    refine xV.get xcl_ok rfl ha rfl ?_
    refine xV.step rfl ?_
    refine xV.lgt hL e hj rfl g_mN_promiseOf_298 (Nat.le_of_ble_eq_true rfl) ?_
    refine xV.cast rfl hf rfl k_mN_promiseOf_126 ?_
    exact xV.aret rfl rfl (Or.inl ⟨_, rfl⟩) (Or.inr ⟨_, rfl⟩) (Or.inl ⟨hi, rfl, rfl⟩)
  refine xV.step rfl ?_
  refine xV.br rfl (fun h1 => ?_) (fun h1 => ?_)
  · refine xV.step rfl ?_
    refine go false (decide_eq_false (fun z => ?_))
    have := z.1
    simp only [Int32.lt_iff_toInt_lt, Int32.le_iff_toInt_le] at *
    omega
  refine xV.step rfl ?_
  refine xV.step rfl ?_
  refine xV.get xcl_ok rfl ha rfl ?_
  refine xV.lsz hL rfl g_mN_promiseOf_85 (Nat.le_of_ble_eq_true rfl) ?_
  refine xV.br rfl (fun h2 => ?_) (fun h2 => ?_)
  · refine xV.step rfl ?_
    refine go false (decide_eq_false (fun z => ?_))
    have := z.2
    simp only [Int32.lt_iff_toInt_lt, Int32.le_iff_toInt_le] at *
    omega
  · refine xV.step rfl ?_
    refine xV.step rfl ?_
    refine go true (decide_eq_true ?_)
    simp only [Int32.lt_iff_toInt_lt, Int32.le_iff_toInt_le] at *
    omega
theorem c_N_latestPromise {f s lt st he pu pd pb : Int32} {b1 b2 pl : Nat} {sd : Bool} {q : Nat → Nat} {C j : Nat} {n p p' am dl mi gi : Int32} {lo : Int64} {po : Bool} (ha : xget h a = some (.inr (4, chF f s b1 b2 pl lt st he pu pd pb sd))) (hL : aL h pl q C) (hn : inr0 n C = true → n = nI j ∧ j < C) (hq : inr0 n C = true → xget h (q j) = some (.inr (5, prF p p' am lo dl mi gi po))) (hr : xrm h) :
    xV D N0 mN_latestPromise (d + 8) 0 (xargs 3 [.ref a, .int n]) [] h (xGt (inr0 n C && isIn0 mi gi lt) (.ref (q j)) h) := by
  refine xV.step rfl ?_
  refine xV.step rfl ?_
  refine xV.callS rfl rfl g_mN_latestPromise_189 mN_promiseOf_ok (Nat.le_of_ble_eq_true rfl) (Nat.le_of_ble_eq_true rfl) (c_N_promiseOf ha hL hn (fun z => ⟨_, hq z⟩) hr) (fun w u hz => ?_) (fun w u hz => ?_)
  · rcases hz with ⟨hb, e, rfl⟩ | ⟨_, e, _⟩
    · cases e
      have hp := hq hb
      refine xV.step rfl ?_
      refine xV.step rfl ?_
      refine xV.step rfl ?_
      refine xV.get xcl_ok rfl ha rfl ?_
      refine xV.cV rfl rfl hp rfl g_mN_latestPromise_195 mP_isIn_ok (Nat.le_of_ble_eq_true rfl) (Nat.le_of_ble_eq_true rfl) (c_P_isIn hp) ?_
      refine xV.ck rfl g_mN_latestPromise_106 mN_checkIndex_ok (Nat.le_of_ble_eq_true rfl) (Nat.le_of_ble_eq_true rfl) rfl (c_N_checkIndex hr) (fun z => Or.inr ⟨by rw [hb, z]; rfl, rfl, rfl⟩) (fun z => ?_)
      refine xV.step rfl ?_
      exact xV.aret rfl rfl (Or.inl ⟨_, rfl⟩) (Or.inr ⟨_, rfl⟩) (Or.inl ⟨by rw [hb, z]; rfl, rfl, rfl⟩)
    · cases e
  · rcases hz with ⟨_, e, _⟩ | ⟨hb, e, rfl⟩
    · cases e
    · cases e
      exact xT.out rfl (Or.inr ⟨by rw [hb]; rfl, rfl, rfl⟩)
theorem c_N_ledgerPromise {f s lt st he pu pd pb : Int32} {b1 b2 pl : Nat} {sd : Bool} {q : Nat → Nat} {C j : Nat} {n p p' am dl mi gi : Int32} {lo : Int64} {po : Bool} (ha : xget h a = some (.inr (4, chF f s b1 b2 pl lt st he pu pd pb sd))) (hL : aL h pl q C) (hn : inr0 n C = true → n = nI j ∧ j < C) (hq : inr0 n C = true → xget h (q j) = some (.inr (5, prF p p' am lo dl mi gi po))) (hr : xrm h) :
    xV D N0 mN_ledgerPromise (d + 8) 0 (xargs 3 [.ref a, .int n]) [] h (xGt (inr0 n C && (decide (pd = -1) || (isIn0 mi gi pd && !po))) (.ref (q j)) h) := by
  refine xV.step rfl ?_
  refine xV.step rfl ?_
  refine xV.callS rfl rfl g_mN_ledgerPromise_189 mN_promiseOf_ok (Nat.le_of_ble_eq_true rfl) (Nat.le_of_ble_eq_true rfl) (c_N_promiseOf ha hL hn (fun z => ⟨_, hq z⟩) hr) (fun w u hz => ?_) (fun w u hz => ?_)
  · rcases hz with ⟨hb, e, rfl⟩ | ⟨_, e, _⟩
    · cases e
      have hp := hq hb
      rw [hb]
      have go : ∀ b : Bool, (decide (pd = -1) || (isIn0 mi gi pd && !po)) = b → xV D N0 mN_ledgerPromise (d + 8) 37 [some (.ref a), some (.int n), some (.ref (q j))] [.int (xB b)] u (xGt (true && (decide (pd = -1) || (isIn0 mi gi pd && !po))) (.ref (q j)) u) := fun b hb2 => by
        refine xV.ck rfl g_mN_ledgerPromise_106 mN_checkIndex_ok (Nat.le_of_ble_eq_true rfl) (Nat.le_of_ble_eq_true rfl) rfl (c_N_checkIndex (b := b) hr) (fun z => Or.inr ⟨by rw [hb2, z]; rfl, rfl, rfl⟩) (fun z => ?_)
        refine xV.step rfl ?_
        exact xV.aret rfl rfl (Or.inl ⟨_, rfl⟩) (Or.inr ⟨_, rfl⟩) (Or.inl ⟨by rw [hb2, z]; rfl, rfl, rfl⟩)
      refine xV.step rfl ?_
      refine xV.step rfl ?_
      refine xV.get xcl_ok rfl ha rfl ?_
      refine xV.step rfl ?_
      refine xV.br rfl (fun h1 => ?_) (fun h1 => ?_)
      · refine xV.step rfl ?_
        refine xV.step rfl ?_
        exact go true (by rw [decide_eq_true h1]; rfl)
      refine xV.step rfl ?_
      refine xV.step rfl ?_
      refine xV.get xcl_ok rfl ha rfl ?_
      refine xV.cV rfl rfl hp rfl g_mN_ledgerPromise_195 mP_isIn_ok (Nat.le_of_ble_eq_true rfl) (Nat.le_of_ble_eq_true rfl) (c_P_isIn hp) ?_
      refine xV.br rfl (fun h2 => ?_) (fun h2 => ?_)
      · refine xV.step rfl ?_
        exact go false (by rw [decide_eq_false h1, xB_f h2]; rfl)
      refine xV.step rfl ?_
      refine xV.get xcl_ok rfl hp rfl ?_
      refine xV.br rfl (fun h3 => ?_) (fun h3 => ?_)
      · refine xV.step rfl ?_
        refine xV.step rfl ?_
        exact go true (by rw [decide_eq_false h1, xB_t h2, xB_f h3]; rfl)
      · refine xV.step rfl ?_
        exact go false (by rw [decide_eq_false h1, xB_t h2, xB_t h3]; rfl)
    · cases e
  · rcases hz with ⟨_, e, _⟩ | ⟨hb, e, rfl⟩
    · cases e
    · cases e
      exact xT.out rfl (Or.inr ⟨by rw [hb]; rfl, rfl, rfl⟩)
end X50
end
