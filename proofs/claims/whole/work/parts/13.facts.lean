/- Part 13: words of calls, new objects and casts, printed by wip/whole/tools -/
set_option maxRecDepth 100000 in
theorem g_mN_init_3 : xW (.methodLink mN_init.1.cls 3 Lib.objectInit) ∧ xW (.instanceMethod Lib.objectInit) ∧ xW (.code Lib.objectInit ⟨#[0xb1]⟩ 1 none) := ⟨xW_tab (i := 28) rfl rfl, xW_tab (i := 29) rfl rfl, xW_tab (i := 30) rfl rfl⟩
set_option maxRecDepth 100000 in
theorem n_mN_init_26 : xW (.classLink mN_init.1.cls 26 "ChannelNet$Secrets") ∧ xW (.instantiable "ChannelNet$Secrets" 3) ∧ xW (.initialized "ChannelNet$Secrets") := ⟨xW_tab (i := 31) rfl rfl, xW_tab (i := 32) rfl rfl, xW_tab (i := 2) rfl rfl⟩
set_option maxRecDepth 100000 in
theorem g_mN_init_28 : xW (.methodLinkNest mN_init.1.cls 28 mS_init.1 "ChannelNet") ∧ xW (.instanceMethod mS_init.1) ∧ xW (.code mS_init.1 mS_init.2.1 mS_init.2.2.1 none) ∧ (mS_init.2.2.2.1 = none ∧ mS_init.2.2.2.2.1 = [] ∧ mS_init.1.name = "<init>") ∧ xnp mS_init.1 0 = true := ⟨xW_tab (i := 33) rfl rfl, xW_tab (i := 34) rfl rfl, xW_tab (i := 35) rfl rfl, ⟨rfl, rfl, rfl⟩, by decide +kernel⟩
set_option maxRecDepth 100000 in
theorem n_mN_init_33 : xW (.classLink mN_init.1.cls 33 "java/util/ArrayList") ∧ xW (.instantiable "java/util/ArrayList" 3) ∧ xW (.initialized "java/util/ArrayList") := ⟨xW_tab (i := 50) rfl rfl, xW_tab (i := 51) rfl rfl, xW_tab (i := 5) rfl rfl⟩
set_option maxRecDepth 100000 in
theorem g_mN_init_35 : xci mN_init mA_init 35 0 := ⟨xW_tab (i := 52) rfl rfl, xW_tab (i := 53) rfl rfl, xW_tab (i := 54) rfl rfl, ⟨rfl, rfl, rfl⟩, by decide +kernel⟩
set_option maxRecDepth 100000 in
theorem n_mN_init_43 : xW (.classLink mN_init.1.cls 43 "ChannelNet$Route") ∧ xW (.instantiable "ChannelNet$Route" 4) ∧ xW (.initialized "ChannelNet$Route") := ⟨xW_tab (i := 76) rfl rfl, xW_tab (i := 77) rfl rfl, xW_tab (i := 6) rfl rfl⟩
set_option maxRecDepth 100000 in
theorem g_mN_init_45 : xW (.methodLinkNest mN_init.1.cls 45 mR_init.1 "ChannelNet") ∧ xW (.instanceMethod mR_init.1) ∧ xW (.code mR_init.1 mR_init.2.1 mR_init.2.2.1 none) ∧ (mR_init.2.2.2.1 = none ∧ mR_init.2.2.2.2.1 = [] ∧ mR_init.1.name = "<init>") ∧ xnp mR_init.1 0 = true := ⟨xW_tab (i := 78) rfl rfl, xW_tab (i := 79) rfl rfl, xW_tab (i := 80) rfl rfl, ⟨rfl, rfl, rfl⟩, by decide +kernel⟩
set_option maxRecDepth 100000 in
theorem g_mS_init_3 : xW (.methodLink mS_init.1.cls 3 Lib.objectInit) ∧ xW (.instanceMethod Lib.objectInit) ∧ xW (.code Lib.objectInit ⟨#[0xb1]⟩ 1 none) := ⟨xW_tab (i := 36) rfl rfl, xW_tab (i := 29) rfl rfl, xW_tab (i := 30) rfl rfl⟩
set_option maxRecDepth 100000 in
theorem g_mA_init_1 : xci mA_init mAbstractList_init 1 0 := ⟨xW_tab (i := 55) rfl rfl, xW_tab (i := 56) rfl rfl, xW_tab (i := 57) rfl rfl, ⟨rfl, rfl, rfl⟩, by decide +kernel⟩
set_option maxRecDepth 100000 in
theorem g_mAbstractList_init_1 : xci mAbstractList_init mAbstractCollection_init 1 0 := ⟨xW_tab (i := 58) rfl rfl, xW_tab (i := 59) rfl rfl, xW_tab (i := 60) rfl rfl, ⟨rfl, rfl, rfl⟩, by decide +kernel⟩
set_option maxRecDepth 100000 in
theorem g_mAbstractCollection_init_1 : xW (.methodLink mAbstractCollection_init.1.cls 1 Lib.objectInit) ∧ xW (.instanceMethod Lib.objectInit) ∧ xW (.code Lib.objectInit ⟨#[0xb1]⟩ 1 none) := ⟨xW_tab (i := 61) rfl rfl, xW_tab (i := 29) rfl rfl, xW_tab (i := 30) rfl rfl⟩
set_option maxRecDepth 100000 in
theorem g_mR_init_3 : xW (.methodLink mR_init.1.cls 3 Lib.objectInit) ∧ xW (.instanceMethod Lib.objectInit) ∧ xW (.code Lib.objectInit ⟨#[0xb1]⟩ 1 none) := ⟨xW_tab (i := 81) rfl rfl, xW_tab (i := 29) rfl rfl, xW_tab (i := 30) rfl rfl⟩
set_option maxRecDepth 100000 in
theorem g_mN_lock_66 : xcs mN_lock mN_lockOf 66 1 := ⟨xW_tab (i := 140) rfl rfl, xW_tab (i := 141) rfl rfl, xW_tab (i := 1) rfl rfl, xW_tab (i := 142) rfl rfl, by decide +kernel⟩
set_option maxRecDepth 100000 in
theorem g_mN_channels_85 : xcv "java/util/ArrayList" mN_channels mA_size 85 0 := ⟨xW_tab (i := 149) rfl rfl, xW_tab (i := 150) rfl rfl, xW_tab (i := 151) rfl rfl, xW_tab (i := 152) rfl rfl, by decide +kernel⟩
set_option maxRecDepth 100000 in
theorem g_mL_open_7 : xcv "ChannelNet" mL_open mN_open 7 4 := ⟨xW_tab (i := 163) rfl rfl, xW_tab (i := 164) rfl rfl, xW_tab (i := 165) rfl rfl, xW_tab (i := 166) rfl rfl, by decide +kernel⟩
set_option maxRecDepth 100000 in
theorem g_mN_open_58 : xcs mN_open mN_checkNode 58 1 := ⟨xW_tab (i := 167) rfl rfl, xW_tab (i := 168) rfl rfl, xW_tab (i := 1) rfl rfl, xW_tab (i := 169) rfl rfl, by decide +kernel⟩
set_option maxRecDepth 100000 in
theorem g_mN_open_62 : xcs mN_open mN_checkArgument 62 1 := ⟨xW_tab (i := 241) rfl rfl, xW_tab (i := 242) rfl rfl, xW_tab (i := 1) rfl rfl, xW_tab (i := 243) rfl rfl, by decide +kernel⟩
set_option maxRecDepth 100000 in
theorem g_mN_open_85 : xcv "java/util/ArrayList" mN_open mA_size 85 0 := ⟨xW_tab (i := 149) rfl rfl, xW_tab (i := 150) rfl rfl, xW_tab (i := 151) rfl rfl, xW_tab (i := 152) rfl rfl, by decide +kernel⟩
set_option maxRecDepth 100000 in
theorem g_mN_open_74 : xcs mN_open mN_checkState 74 1 := ⟨xW_tab (i := 260) rfl rfl, xW_tab (i := 261) rfl rfl, xW_tab (i := 1) rfl rfl, xW_tab (i := 262) rfl rfl, by decide +kernel⟩
set_option maxRecDepth 100000 in
theorem n_mN_open_89 : xW (.classLink mN_open.1.cls 89 "ChannelNet$Channel") ∧ xW (.instantiable "ChannelNet$Channel" 12) ∧ xW (.initialized "ChannelNet$Channel") := ⟨xW_tab (i := 279) rfl rfl, xW_tab (i := 280) rfl rfl, xW_tab (i := 14) rfl rfl⟩
set_option maxRecDepth 100000 in
theorem g_mN_open_91 : xci mN_open mC_init 91 4 := ⟨xW_tab (i := 281) rfl rfl, xW_tab (i := 282) rfl rfl, xW_tab (i := 283) rfl rfl, ⟨rfl, rfl, rfl⟩, by decide +kernel⟩
set_option maxRecDepth 100000 in
theorem g_mN_open_94 : xcv "java/util/ArrayList" mN_open mA_add 94 1 := ⟨xW_tab (i := 336) rfl rfl, xW_tab (i := 337) rfl rfl, xW_tab (i := 338) rfl rfl, xW_tab (i := 339) rfl rfl, by decide +kernel⟩
set_option maxRecDepth 100000 in
theorem g_mN_checkNode_106 : xcs mN_checkNode mN_checkIndex 106 1 := ⟨xW_tab (i := 170) rfl rfl, xW_tab (i := 171) rfl rfl, xW_tab (i := 1) rfl rfl, xW_tab (i := 172) rfl rfl, by decide +kernel⟩
set_option maxRecDepth 100000 in
theorem n_mN_checkIndex_285 : xW (.classLink mN_checkIndex.1.cls 285 "java/lang/IndexOutOfBoundsException") ∧ xW (.initialized "java/lang/IndexOutOfBoundsException") := ⟨xW_tab (i := 173) rfl rfl, xW_tab (i := 11) rfl rfl⟩
-- no code mN_checkIndex 289 ('java/lang/IndexOutOfBoundsException', '<init>', '(Ljava/lang/String;)V')
set_option maxRecDepth 100000 in
theorem n_mN_checkArgument_170 : xW (.classLink mN_checkArgument.1.cls 170 "java/lang/IllegalArgumentException") ∧ xW (.initialized "java/lang/IllegalArgumentException") := ⟨xW_tab (i := 244) rfl rfl, xW_tab (i := 12) rfl rfl⟩
-- no code mN_checkArgument 174 ('java/lang/IllegalArgumentException', '<init>', '(Ljava/lang/String;)V')
set_option maxRecDepth 100000 in
theorem n_mN_checkState_292 : xW (.classLink mN_checkState.1.cls 292 "java/lang/IllegalStateException") ∧ xW (.initialized "java/lang/IllegalStateException") := ⟨xW_tab (i := 263) rfl rfl, xW_tab (i := 13) rfl rfl⟩
-- no code mN_checkState 296 ('java/lang/IllegalStateException', '<init>', '(Ljava/lang/String;)V')
set_option maxRecDepth 100000 in
theorem g_mC_init_3 : xW (.methodLink mC_init.1.cls 3 Lib.objectInit) ∧ xW (.instanceMethod Lib.objectInit) ∧ xW (.code Lib.objectInit ⟨#[0xb1]⟩ 1 none) := ⟨xW_tab (i := 284) rfl rfl, xW_tab (i := 29) rfl rfl, xW_tab (i := 30) rfl rfl⟩
set_option maxRecDepth 100000 in
theorem n_mC_init_18 : xW (.classLink mC_init.1.cls 18 "java/util/ArrayList") ∧ xW (.instantiable "java/util/ArrayList" 3) ∧ xW (.initialized "java/util/ArrayList") := ⟨xW_tab (i := 285) rfl rfl, xW_tab (i := 51) rfl rfl, xW_tab (i := 5) rfl rfl⟩
set_option maxRecDepth 100000 in
theorem g_mC_init_20 : xci mC_init mA_init 20 0 := ⟨xW_tab (i := 286) rfl rfl, xW_tab (i := 53) rfl rfl, xW_tab (i := 54) rfl rfl, ⟨rfl, rfl, rfl⟩, by decide +kernel⟩
set_option maxRecDepth 100000 in
theorem g_mA_add_131 : xcv "java/util/ArrayList" mA_add mA_add2 131 3 := ⟨xW_tab (i := 340) rfl rfl, xW_tab (i := 342) rfl rfl, xW_sel (i := 1) rfl rfl, xW_tab (i := 343) rfl rfl, by decide +kernel⟩
set_option maxRecDepth 100000 in
theorem g_mA_add2_129 : xcv "java/util/ArrayList" mA_add2 mA_grow 129 0 := ⟨xW_tab (i := 344) rfl rfl, xW_tab (i := 346) rfl rfl, xW_sel (i := 2) rfl rfl, xW_tab (i := 347) rfl rfl, by decide +kernel⟩
set_option maxRecDepth 100000 in
theorem g_mA_grow_69 : xcv "java/util/ArrayList" mA_grow mA_grow2 69 1 := ⟨xW_tab (i := 348) rfl rfl, xW_tab (i := 350) rfl rfl, xW_sel (i := 3) rfl rfl, xW_tab (i := 351) rfl rfl, by decide +kernel⟩
set_option maxRecDepth 100000 in
theorem g_mA_grow2_73 : xcs mA_grow2 mArraysSupport_newLength 73 3 := ⟨xW_tab (i := 352) rfl rfl, xW_tab (i := 353) rfl rfl, xW_tab (i := 15) rfl rfl, xW_tab (i := 354) rfl rfl, by decide +kernel⟩
set_option maxRecDepth 100000 in
theorem g_mA_grow2_66 : xcs mA_grow2 mArrays_copyOf 66 2 := ⟨xW_tab (i := 362) rfl rfl, xW_tab (i := 363) rfl rfl, xW_tab (i := 17) rfl rfl, xW_tab (i := 364) rfl rfl, by decide +kernel⟩
-- no code mA_grow2 79 ('java/lang/Math', 'max', '(II)I')
-- no code mArraysSupport_newLength 194 ('java/lang/Math', 'max', '(II)I')
set_option maxRecDepth 100000 in
theorem g_mArraysSupport_newLength_201 : xcs mArraysSupport_newLength mArraysSupport_hugeLength 201 2 := ⟨xW_tab (i := 359) rfl rfl, xW_tab (i := 360) rfl rfl, xW_tab (i := 15) rfl rfl, xW_tab (i := 361) rfl rfl, by decide +kernel⟩
-- no link mArraysSupport_hugeLength 91
-- no link mArraysSupport_hugeLength 94
-- no link mArraysSupport_hugeLength 98
-- no link mArraysSupport_hugeLength 101
-- no link mArraysSupport_hugeLength 212
-- no code mArrays_copyOf 86 ('java/lang/Object', 'getClass', '()Ljava/lang/Class;')
set_option maxRecDepth 100000 in
theorem g_mArrays_copyOf_300 : xcs mArrays_copyOf mArrays_copyOf2 300 3 := ⟨xW_tab (i := 380) rfl rfl, xW_tab (i := 381) rfl rfl, xW_tab (i := 17) rfl rfl, xW_tab (i := 382) rfl rfl, by decide +kernel⟩
-- no link mArrays_copyOf2 90
-- no link mArrays_copyOf2 95
-- no code mArrays_copyOf2 304 ('java/lang/Math', 'min', '(II)I')
-- no code mArrays_copyOf2 150 ('java/lang/System', 'arraycopy', '(Ljava/lang/Object;ILjava/lang/Object;II)V')
set_option maxRecDepth 100000 in
theorem g_mL_fees_19 : xcv "ChannelNet" mL_fees mN_fees 19 4 := ⟨xW_tab (i := 397) rfl rfl, xW_tab (i := 398) rfl rfl, xW_tab (i := 399) rfl rfl, xW_tab (i := 400) rfl rfl, by decide +kernel⟩
set_option maxRecDepth 100000 in
theorem g_mN_fees_58 : xcs mN_fees mN_checkNode 58 1 := ⟨xW_tab (i := 167) rfl rfl, xW_tab (i := 168) rfl rfl, xW_tab (i := 1) rfl rfl, xW_tab (i := 169) rfl rfl, by decide +kernel⟩
set_option maxRecDepth 100000 in
theorem g_mN_fees_62 : xcs mN_fees mN_checkArgument 62 1 := ⟨xW_tab (i := 241) rfl rfl, xW_tab (i := 242) rfl rfl, xW_tab (i := 1) rfl rfl, xW_tab (i := 243) rfl rfl, by decide +kernel⟩
set_option maxRecDepth 100000 in
theorem g_mL_tell_23 : xcv "ChannelNet" mL_tell mN_tell 23 2 := ⟨xW_tab (i := 404) rfl rfl, xW_tab (i := 405) rfl rfl, xW_tab (i := 406) rfl rfl, xW_tab (i := 407) rfl rfl, by decide +kernel⟩
set_option maxRecDepth 100000 in
theorem g_mN_tell_58 : xcs mN_tell mN_checkNode 58 1 := ⟨xW_tab (i := 167) rfl rfl, xW_tab (i := 168) rfl rfl, xW_tab (i := 1) rfl rfl, xW_tab (i := 169) rfl rfl, by decide +kernel⟩
set_option maxRecDepth 100000 in
theorem g_mN_tell_66 : xcs mN_tell mN_lockOf 66 1 := ⟨xW_tab (i := 140) rfl rfl, xW_tab (i := 141) rfl rfl, xW_tab (i := 1) rfl rfl, xW_tab (i := 142) rfl rfl, by decide +kernel⟩
set_option maxRecDepth 100000 in
theorem g_mN_tell_70 : xcv "ChannelNet$Secrets" mN_tell mS_hasRoomFor 70 1 := ⟨xW_tab (i := 408) rfl rfl, xW_tab (i := 409) rfl rfl, xW_tab (i := 410) rfl rfl, xW_tab (i := 411) rfl rfl, by decide +kernel⟩
set_option maxRecDepth 100000 in
theorem g_mN_tell_74 : xcs mN_tell mN_checkState 74 1 := ⟨xW_tab (i := 260) rfl rfl, xW_tab (i := 261) rfl rfl, xW_tab (i := 1) rfl rfl, xW_tab (i := 262) rfl rfl, by decide +kernel⟩
set_option maxRecDepth 100000 in
theorem g_mN_tell_77 : xcv "ChannelNet$Secrets" mN_tell mS_learn 77 2 := ⟨xW_tab (i := 416) rfl rfl, xW_tab (i := 417) rfl rfl, xW_tab (i := 418) rfl rfl, xW_tab (i := 419) rfl rfl, by decide +kernel⟩
set_option maxRecDepth 100000 in
theorem g_mS_hasRoomFor_23 : xcv "ChannelNet$Secrets" mS_hasRoomFor mS_find 23 1 := ⟨xW_tab (i := 412) rfl rfl, xW_tab (i := 413) rfl rfl, xW_tab (i := 414) rfl rfl, xW_tab (i := 415) rfl rfl, by decide +kernel⟩
set_option maxRecDepth 100000 in
theorem g_mS_learn_23 : xcv "ChannelNet$Secrets" mS_learn mS_find 23 1 := ⟨xW_tab (i := 412) rfl rfl, xW_tab (i := 413) rfl rfl, xW_tab (i := 414) rfl rfl, xW_tab (i := 415) rfl rfl, by decide +kernel⟩
set_option maxRecDepth 100000 in
theorem g_mL_knows_27 : xcv "ChannelNet" mL_knows mN_knows 27 2 := ⟨xW_tab (i := 423) rfl rfl, xW_tab (i := 424) rfl rfl, xW_tab (i := 425) rfl rfl, xW_tab (i := 426) rfl rfl, by decide +kernel⟩
set_option maxRecDepth 100000 in
theorem g_mN_knows_58 : xcs mN_knows mN_checkNode 58 1 := ⟨xW_tab (i := 167) rfl rfl, xW_tab (i := 168) rfl rfl, xW_tab (i := 1) rfl rfl, xW_tab (i := 169) rfl rfl, by decide +kernel⟩
set_option maxRecDepth 100000 in
theorem g_mN_knows_81 : xcv "ChannelNet$Secrets" mN_knows mS_isKnown 81 2 := ⟨xW_tab (i := 427) rfl rfl, xW_tab (i := 428) rfl rfl, xW_tab (i := 429) rfl rfl, xW_tab (i := 430) rfl rfl, by decide +kernel⟩
set_option maxRecDepth 100000 in
theorem g_mS_isKnown_23 : xcv "ChannelNet$Secrets" mS_isKnown mS_find 23 1 := ⟨xW_tab (i := 412) rfl rfl, xW_tab (i := 413) rfl rfl, xW_tab (i := 414) rfl rfl, xW_tab (i := 415) rfl rfl, by decide +kernel⟩
set_option maxRecDepth 100000 in
theorem g_mL_promise_31 : xcv "ChannelNet" mL_promise mN_promise 31 5 := ⟨xW_tab (i := 434) rfl rfl, xW_tab (i := 435) rfl rfl, xW_tab (i := 436) rfl rfl, xW_tab (i := 437) rfl rfl, by decide +kernel⟩
set_option maxRecDepth 100000 in
theorem g_mN_promise_98 : xcv "ChannelNet" mN_promise mN_channelAt 98 1 := ⟨xW_tab (i := 438) rfl rfl, xW_tab (i := 440) rfl rfl, xW_sel (i := 4) rfl rfl, xW_tab (i := 441) rfl rfl, by decide +kernel⟩
set_option maxRecDepth 100000 in
theorem g_mN_promise_102 : xcv "ChannelNet$Channel" mN_promise mC_joins 102 1 := ⟨xW_tab (i := 456) rfl rfl, xW_tab (i := 457) rfl rfl, xW_tab (i := 458) rfl rfl, xW_tab (i := 459) rfl rfl, by decide +kernel⟩
set_option maxRecDepth 100000 in
theorem g_mN_promise_106 : xcs mN_promise mN_checkIndex 106 1 := ⟨xW_tab (i := 170) rfl rfl, xW_tab (i := 171) rfl rfl, xW_tab (i := 1) rfl rfl, xW_tab (i := 172) rfl rfl, by decide +kernel⟩
set_option maxRecDepth 100000 in
theorem g_mN_promise_62 : xcs mN_promise mN_checkArgument 62 1 := ⟨xW_tab (i := 241) rfl rfl, xW_tab (i := 242) rfl rfl, xW_tab (i := 1) rfl rfl, xW_tab (i := 243) rfl rfl, by decide +kernel⟩
set_option maxRecDepth 100000 in
theorem g_mN_promise_109 : xcv "ChannelNet$Channel" mN_promise mC_canCarry 109 2 := ⟨xW_tab (i := 460) rfl rfl, xW_tab (i := 461) rfl rfl, xW_tab (i := 462) rfl rfl, xW_tab (i := 463) rfl rfl, by decide +kernel⟩
set_option maxRecDepth 100000 in
theorem g_mN_promise_74 : xcs mN_promise mN_checkState 74 1 := ⟨xW_tab (i := 260) rfl rfl, xW_tab (i := 261) rfl rfl, xW_tab (i := 1) rfl rfl, xW_tab (i := 262) rfl rfl, by decide +kernel⟩
set_option maxRecDepth 100000 in
theorem g_mN_promise_113 : xcv "ChannelNet$Channel" mN_promise mC_hasRoomForState 113 0 := ⟨xW_tab (i := 475) rfl rfl, xW_tab (i := 476) rfl rfl, xW_tab (i := 477) rfl rfl, xW_tab (i := 478) rfl rfl, by decide +kernel⟩
set_option maxRecDepth 100000 in
theorem g_mN_promise_117 : xcv "ChannelNet$Channel" mN_promise mC_addPromise 117 4 := ⟨xW_tab (i := 479) rfl rfl, xW_tab (i := 480) rfl rfl, xW_tab (i := 481) rfl rfl, xW_tab (i := 482) rfl rfl, by decide +kernel⟩
set_option maxRecDepth 100000 in
theorem g_mN_channelAt_85 : xcv "java/util/ArrayList" mN_channelAt mA_size 85 0 := ⟨xW_tab (i := 149) rfl rfl, xW_tab (i := 150) rfl rfl, xW_tab (i := 151) rfl rfl, xW_tab (i := 152) rfl rfl, by decide +kernel⟩
set_option maxRecDepth 100000 in
theorem g_mN_channelAt_106 : xcs mN_channelAt mN_checkIndex 106 1 := ⟨xW_tab (i := 170) rfl rfl, xW_tab (i := 171) rfl rfl, xW_tab (i := 1) rfl rfl, xW_tab (i := 172) rfl rfl, by decide +kernel⟩
set_option maxRecDepth 100000 in
theorem g_mN_channelAt_298 : xcv "java/util/ArrayList" mN_channelAt mA_get 298 1 := ⟨xW_tab (i := 442) rfl rfl, xW_tab (i := 443) rfl rfl, xW_tab (i := 444) rfl rfl, xW_tab (i := 445) rfl rfl, by decide +kernel⟩
set_option maxRecDepth 100000 in
theorem k_mN_channelAt_89 : xW (.classLink mN_channelAt.1.cls 89 "ChannelNet$Channel") ∧ xW (.castable "ChannelNet$Channel" "ChannelNet$Channel") := ⟨xW_tab (i := 279) rfl rfl, xW_tab (i := 1252) rfl rfl⟩
set_option maxRecDepth 100000 in
theorem g_mA_get_118 : xcs mA_get mObjects_checkIndex 118 2 := ⟨xW_tab (i := 446) rfl rfl, xW_tab (i := 447) rfl rfl, xW_tab (i := 19) rfl rfl, xW_tab (i := 448) rfl rfl, by decide +kernel⟩
set_option maxRecDepth 100000 in
theorem g_mA_get_123 : xcv "java/util/ArrayList" mA_get mA_elementData 123 1 := ⟨xW_tab (i := 452) rfl rfl, xW_tab (i := 453) rfl rfl, xW_tab (i := 454) rfl rfl, xW_tab (i := 455) rfl rfl, by decide +kernel⟩
set_option maxRecDepth 100000 in
theorem g_mObjects_checkIndex_105 : xcs mObjects_checkIndex mPreconditions_checkIndex 105 3 := ⟨xW_tab (i := 449) rfl rfl, xW_tab (i := 450) rfl rfl, xW_tab (i := 20) rfl rfl, xW_tab (i := 451) rfl rfl, by decide +kernel⟩
-- no link mPreconditions_checkIndex 95
set_option maxRecDepth 100000 in
theorem g_mC_canCarry_71 : xcv "ChannelNet$Channel" mC_canCarry mC_promisesIn 71 1 := ⟨xW_tab (i := 464) rfl rfl, xW_tab (i := 465) rfl rfl, xW_tab (i := 466) rfl rfl, xW_tab (i := 467) rfl rfl, by decide +kernel⟩
set_option maxRecDepth 100000 in
theorem g_mC_promisesIn_54 : xcv "java/util/ArrayList" mC_promisesIn mA_size 54 0 := ⟨xW_tab (i := 468) rfl rfl, xW_tab (i := 150) rfl rfl, xW_tab (i := 151) rfl rfl, xW_tab (i := 152) rfl rfl, by decide +kernel⟩
set_option maxRecDepth 100000 in
theorem g_mC_promisesIn_58 : xcv "java/util/ArrayList" mC_promisesIn mA_get 58 1 := ⟨xW_tab (i := 469) rfl rfl, xW_tab (i := 443) rfl rfl, xW_tab (i := 444) rfl rfl, xW_tab (i := 445) rfl rfl, by decide +kernel⟩
set_option maxRecDepth 100000 in
theorem k_mC_promisesIn_62 : xW (.classLink mC_promisesIn.1.cls 62 "ChannelNet$Promise") ∧ xW (.castable "ChannelNet$Promise" "ChannelNet$Promise") := ⟨xW_tab (i := 470) rfl rfl, xW_tab (i := 1253) rfl rfl⟩
set_option maxRecDepth 100000 in
theorem g_mC_promisesIn_64 : xcv "ChannelNet$Promise" mC_promisesIn mP_isIn 64 1 := ⟨xW_tab (i := 471) rfl rfl, xW_tab (i := 472) rfl rfl, xW_tab (i := 473) rfl rfl, xW_tab (i := 474) rfl rfl, by decide +kernel⟩
set_option maxRecDepth 100000 in
theorem g_mC_addPromise_75 : xcv "ChannelNet$Channel" mC_addPromise mC_makeState 75 2 := ⟨xW_tab (i := 483) rfl rfl, xW_tab (i := 485) rfl rfl, xW_sel (i := 5) rfl rfl, xW_tab (i := 486) rfl rfl, by decide +kernel⟩
set_option maxRecDepth 100000 in
theorem n_mC_addPromise_62 : xW (.classLink mC_addPromise.1.cls 62 "ChannelNet$Promise") ∧ xW (.instantiable "ChannelNet$Promise" 8) ∧ xW (.initialized "ChannelNet$Promise") := ⟨xW_tab (i := 470) rfl rfl, xW_tab (i := 487) rfl rfl, xW_tab (i := 21) rfl rfl⟩
set_option maxRecDepth 100000 in
theorem g_mC_addPromise_79 : xcv "ChannelNet$Channel" mC_addPromise mC_partnerOf 79 1 := ⟨xW_tab (i := 488) rfl rfl, xW_tab (i := 489) rfl rfl, xW_tab (i := 490) rfl rfl, xW_tab (i := 491) rfl rfl, by decide +kernel⟩
set_option maxRecDepth 100000 in
theorem g_mC_addPromise_82 : xci mC_addPromise mP_init 82 6 := ⟨xW_tab (i := 492) rfl rfl, xW_tab (i := 493) rfl rfl, xW_tab (i := 494) rfl rfl, ⟨rfl, rfl, rfl⟩, by decide +kernel⟩
set_option maxRecDepth 100000 in
theorem g_mC_addPromise_85 : xcv "java/util/ArrayList" mC_addPromise mA_add 85 1 := ⟨xW_tab (i := 529) rfl rfl, xW_tab (i := 337) rfl rfl, xW_tab (i := 338) rfl rfl, xW_tab (i := 339) rfl rfl, by decide +kernel⟩
set_option maxRecDepth 100000 in
theorem g_mC_addPromise_54 : xcv "java/util/ArrayList" mC_addPromise mA_size 54 0 := ⟨xW_tab (i := 468) rfl rfl, xW_tab (i := 150) rfl rfl, xW_tab (i := 151) rfl rfl, xW_tab (i := 152) rfl rfl, by decide +kernel⟩
set_option maxRecDepth 100000 in
theorem g_mP_init_3 : xW (.methodLink mP_init.1.cls 3 Lib.objectInit) ∧ xW (.instanceMethod Lib.objectInit) ∧ xW (.code Lib.objectInit ⟨#[0xb1]⟩ 1 none) := ⟨xW_tab (i := 495) rfl rfl, xW_tab (i := 29) rfl rfl, xW_tab (i := 30) rfl rfl⟩
set_option maxRecDepth 100000 in
theorem g_mL_keep_35 : xcv "ChannelNet" mL_keep mN_keep 35 3 := ⟨xW_tab (i := 533) rfl rfl, xW_tab (i := 534) rfl rfl, xW_tab (i := 535) rfl rfl, xW_tab (i := 536) rfl rfl, by decide +kernel⟩
set_option maxRecDepth 100000 in
theorem g_mN_keep_98 : xcv "ChannelNet" mN_keep mN_channelAt 98 1 := ⟨xW_tab (i := 438) rfl rfl, xW_tab (i := 440) rfl rfl, xW_sel (i := 4) rfl rfl, xW_tab (i := 441) rfl rfl, by decide +kernel⟩
set_option maxRecDepth 100000 in
theorem g_mN_keep_121 : xcs mN_keep mN_latestPromise 121 2 := ⟨xW_tab (i := 537) rfl rfl, xW_tab (i := 538) rfl rfl, xW_tab (i := 1) rfl rfl, xW_tab (i := 539) rfl rfl, by decide +kernel⟩
set_option maxRecDepth 100000 in
theorem g_mN_keep_66 : xcs mN_keep mN_lockOf 66 1 := ⟨xW_tab (i := 140) rfl rfl, xW_tab (i := 141) rfl rfl, xW_tab (i := 1) rfl rfl, xW_tab (i := 142) rfl rfl, by decide +kernel⟩
set_option maxRecDepth 100000 in
theorem g_mN_keep_62 : xcs mN_keep mN_checkArgument 62 1 := ⟨xW_tab (i := 241) rfl rfl, xW_tab (i := 242) rfl rfl, xW_tab (i := 1) rfl rfl, xW_tab (i := 243) rfl rfl, by decide +kernel⟩
set_option maxRecDepth 100000 in
theorem g_mN_keep_74 : xcs mN_keep mN_checkState 74 1 := ⟨xW_tab (i := 260) rfl rfl, xW_tab (i := 261) rfl rfl, xW_tab (i := 1) rfl rfl, xW_tab (i := 262) rfl rfl, by decide +kernel⟩
set_option maxRecDepth 100000 in
theorem g_mN_keep_113 : xcv "ChannelNet$Channel" mN_keep mC_hasRoomForState 113 0 := ⟨xW_tab (i := 475) rfl rfl, xW_tab (i := 476) rfl rfl, xW_tab (i := 477) rfl rfl, xW_tab (i := 478) rfl rfl, by decide +kernel⟩
set_option maxRecDepth 100000 in
theorem g_mN_keep_70 : xcv "ChannelNet$Secrets" mN_keep mS_hasRoomFor 70 1 := ⟨xW_tab (i := 408) rfl rfl, xW_tab (i := 409) rfl rfl, xW_tab (i := 410) rfl rfl, xW_tab (i := 411) rfl rfl, by decide +kernel⟩
set_option maxRecDepth 100000 in
theorem g_mN_keep_140 : xcv "ChannelNet$Channel" mN_keep mC_endPromise 140 2 := ⟨xW_tab (i := 545) rfl rfl, xW_tab (i := 546) rfl rfl, xW_tab (i := 547) rfl rfl, xW_tab (i := 548) rfl rfl, by decide +kernel⟩
set_option maxRecDepth 100000 in
theorem g_mN_keep_77 : xcv "ChannelNet$Secrets" mN_keep mS_learn 77 2 := ⟨xW_tab (i := 416) rfl rfl, xW_tab (i := 417) rfl rfl, xW_tab (i := 418) rfl rfl, xW_tab (i := 419) rfl rfl, by decide +kernel⟩
set_option maxRecDepth 100000 in
theorem g_mN_latestPromise_189 : xcs mN_latestPromise mN_promiseOf 189 2 := ⟨xW_tab (i := 540) rfl rfl, xW_tab (i := 541) rfl rfl, xW_tab (i := 1) rfl rfl, xW_tab (i := 542) rfl rfl, by decide +kernel⟩
set_option maxRecDepth 100000 in
theorem g_mN_latestPromise_195 : xcv "ChannelNet$Promise" mN_latestPromise mP_isIn 195 1 := ⟨xW_tab (i := 544) rfl rfl, xW_tab (i := 472) rfl rfl, xW_tab (i := 473) rfl rfl, xW_tab (i := 474) rfl rfl, by decide +kernel⟩
set_option maxRecDepth 100000 in
theorem g_mN_latestPromise_106 : xcs mN_latestPromise mN_checkIndex 106 1 := ⟨xW_tab (i := 170) rfl rfl, xW_tab (i := 171) rfl rfl, xW_tab (i := 1) rfl rfl, xW_tab (i := 172) rfl rfl, by decide +kernel⟩
set_option maxRecDepth 100000 in
theorem g_mN_promiseOf_85 : xcv "java/util/ArrayList" mN_promiseOf mA_size 85 0 := ⟨xW_tab (i := 149) rfl rfl, xW_tab (i := 150) rfl rfl, xW_tab (i := 151) rfl rfl, xW_tab (i := 152) rfl rfl, by decide +kernel⟩
set_option maxRecDepth 100000 in
theorem g_mN_promiseOf_106 : xcs mN_promiseOf mN_checkIndex 106 1 := ⟨xW_tab (i := 170) rfl rfl, xW_tab (i := 171) rfl rfl, xW_tab (i := 1) rfl rfl, xW_tab (i := 172) rfl rfl, by decide +kernel⟩
set_option maxRecDepth 100000 in
theorem g_mN_promiseOf_298 : xcv "java/util/ArrayList" mN_promiseOf mA_get 298 1 := ⟨xW_tab (i := 442) rfl rfl, xW_tab (i := 443) rfl rfl, xW_tab (i := 444) rfl rfl, xW_tab (i := 445) rfl rfl, by decide +kernel⟩
set_option maxRecDepth 100000 in
theorem k_mN_promiseOf_126 : xW (.classLink mN_promiseOf.1.cls 126 "ChannelNet$Promise") ∧ xW (.castable "ChannelNet$Promise" "ChannelNet$Promise") := ⟨xW_tab (i := 543) rfl rfl, xW_tab (i := 1253) rfl rfl⟩
set_option maxRecDepth 100000 in
theorem g_mC_endPromise_75 : xcv "ChannelNet$Channel" mC_endPromise mC_makeState 75 2 := ⟨xW_tab (i := 483) rfl rfl, xW_tab (i := 485) rfl rfl, xW_sel (i := 5) rfl rfl, xW_tab (i := 486) rfl rfl, by decide +kernel⟩
set_option maxRecDepth 100000 in
theorem g_mL_drop_39 : xcv "ChannelNet" mL_drop mN_drop 39 2 := ⟨xW_tab (i := 552) rfl rfl, xW_tab (i := 553) rfl rfl, xW_tab (i := 554) rfl rfl, xW_tab (i := 555) rfl rfl, by decide +kernel⟩
set_option maxRecDepth 100000 in
theorem g_mN_drop_98 : xcv "ChannelNet" mN_drop mN_channelAt 98 1 := ⟨xW_tab (i := 438) rfl rfl, xW_tab (i := 440) rfl rfl, xW_sel (i := 4) rfl rfl, xW_tab (i := 441) rfl rfl, by decide +kernel⟩
set_option maxRecDepth 100000 in
theorem g_mN_drop_121 : xcs mN_drop mN_latestPromise 121 2 := ⟨xW_tab (i := 537) rfl rfl, xW_tab (i := 538) rfl rfl, xW_tab (i := 1) rfl rfl, xW_tab (i := 539) rfl rfl, by decide +kernel⟩
set_option maxRecDepth 100000 in
theorem g_mN_drop_74 : xcs mN_drop mN_checkState 74 1 := ⟨xW_tab (i := 260) rfl rfl, xW_tab (i := 261) rfl rfl, xW_tab (i := 1) rfl rfl, xW_tab (i := 262) rfl rfl, by decide +kernel⟩
set_option maxRecDepth 100000 in
theorem g_mN_drop_113 : xcv "ChannelNet$Channel" mN_drop mC_hasRoomForState 113 0 := ⟨xW_tab (i := 475) rfl rfl, xW_tab (i := 476) rfl rfl, xW_tab (i := 477) rfl rfl, xW_tab (i := 478) rfl rfl, by decide +kernel⟩
set_option maxRecDepth 100000 in
theorem g_mN_drop_140 : xcv "ChannelNet$Channel" mN_drop mC_endPromise 140 2 := ⟨xW_tab (i := 545) rfl rfl, xW_tab (i := 546) rfl rfl, xW_tab (i := 547) rfl rfl, xW_tab (i := 548) rfl rfl, by decide +kernel⟩
set_option maxRecDepth 100000 in
theorem g_mL_close_43 : xcv "ChannelNet" mL_close mN_close 43 1 := ⟨xW_tab (i := 559) rfl rfl, xW_tab (i := 560) rfl rfl, xW_tab (i := 561) rfl rfl, xW_tab (i := 562) rfl rfl, by decide +kernel⟩
set_option maxRecDepth 100000 in
theorem g_mN_close_98 : xcv "ChannelNet" mN_close mN_channelAt 98 1 := ⟨xW_tab (i := 438) rfl rfl, xW_tab (i := 440) rfl rfl, xW_sel (i := 4) rfl rfl, xW_tab (i := 441) rfl rfl, by decide +kernel⟩
set_option maxRecDepth 100000 in
theorem g_mN_close_150 : xcv "ChannelNet$Channel" mN_close mC_promisesIn 150 1 := ⟨xW_tab (i := 563) rfl rfl, xW_tab (i := 465) rfl rfl, xW_tab (i := 466) rfl rfl, xW_tab (i := 467) rfl rfl, by decide +kernel⟩
set_option maxRecDepth 100000 in
theorem g_mN_close_74 : xcs mN_close mN_checkState 74 1 := ⟨xW_tab (i := 260) rfl rfl, xW_tab (i := 261) rfl rfl, xW_tab (i := 1) rfl rfl, xW_tab (i := 262) rfl rfl, by decide +kernel⟩
set_option maxRecDepth 100000 in
theorem g_mN_close_154 : xcv "ChannelNet" mN_close mN_payBalances 154 2 := ⟨xW_tab (i := 564) rfl rfl, xW_tab (i := 566) rfl rfl, xW_sel (i := 6) rfl rfl, xW_tab (i := 567) rfl rfl, by decide +kernel⟩
set_option maxRecDepth 100000 in
theorem g_mL_route_47 : xcv "ChannelNet" mL_route mN_route 47 3 := ⟨xW_tab (i := 571) rfl rfl, xW_tab (i := 572) rfl rfl, xW_tab (i := 573) rfl rfl, xW_tab (i := 574) rfl rfl, by decide +kernel⟩
set_option maxRecDepth 100000 in
theorem g_mN_route_198 : xcs mN_route mN_checkEnds 198 3 := ⟨xW_tab (i := 575) rfl rfl, xW_tab (i := 576) rfl rfl, xW_tab (i := 1) rfl rfl, xW_tab (i := 577) rfl rfl, by decide +kernel⟩
set_option maxRecDepth 100000 in
theorem g_mN_route_202 : xcv "ChannelNet" mN_route mN_findRoute 202 3 := ⟨xW_tab (i := 579) rfl rfl, xW_tab (i := 581) rfl rfl, xW_sel (i := 7) rfl rfl, xW_tab (i := 582) rfl rfl, by decide +kernel⟩
set_option maxRecDepth 100000 in
theorem g_mN_route_208 : xcv "ChannelNet$Route" mN_route mR_firstAmount 208 0 := ⟨xW_tab (i := 618) rfl rfl, xW_tab (i := 606) rfl rfl, xW_tab (i := 607) rfl rfl, xW_tab (i := 608) rfl rfl, by decide +kernel⟩
set_option maxRecDepth 100000 in
theorem g_mN_checkEnds_58 : xcs mN_checkEnds mN_checkNode 58 1 := ⟨xW_tab (i := 167) rfl rfl, xW_tab (i := 168) rfl rfl, xW_tab (i := 1) rfl rfl, xW_tab (i := 169) rfl rfl, by decide +kernel⟩
set_option maxRecDepth 100000 in
theorem g_mN_checkEnds_62 : xcs mN_checkEnds mN_checkArgument 62 1 := ⟨xW_tab (i := 241) rfl rfl, xW_tab (i := 242) rfl rfl, xW_tab (i := 1) rfl rfl, xW_tab (i := 243) rfl rfl, by decide +kernel⟩
set_option maxRecDepth 100000 in
theorem g_mN_findRoute_309 : xcv "ChannelNet" mN_findRoute mN_searchBack 309 5 := ⟨xW_tab (i := 583) rfl rfl, xW_tab (i := 585) rfl rfl, xW_sel (i := 8) rfl rfl, xW_tab (i := 586) rfl rfl, by decide +kernel⟩
set_option maxRecDepth 100000 in
theorem g_mN_searchBack_85 : xcv "java/util/ArrayList" mN_searchBack mA_size 85 0 := ⟨xW_tab (i := 149) rfl rfl, xW_tab (i := 150) rfl rfl, xW_tab (i := 151) rfl rfl, xW_tab (i := 152) rfl rfl, by decide +kernel⟩
set_option maxRecDepth 100000 in
theorem g_mN_searchBack_298 : xcv "java/util/ArrayList" mN_searchBack mA_get 298 1 := ⟨xW_tab (i := 442) rfl rfl, xW_tab (i := 443) rfl rfl, xW_tab (i := 444) rfl rfl, xW_tab (i := 445) rfl rfl, by decide +kernel⟩
set_option maxRecDepth 100000 in
theorem k_mN_searchBack_89 : xW (.classLink mN_searchBack.1.cls 89 "ChannelNet$Channel") ∧ xW (.castable "ChannelNet$Channel" "ChannelNet$Channel") := ⟨xW_tab (i := 279) rfl rfl, xW_tab (i := 1252) rfl rfl⟩
set_option maxRecDepth 100000 in
theorem g_mN_searchBack_102 : xcv "ChannelNet$Channel" mN_searchBack mC_joins 102 1 := ⟨xW_tab (i := 456) rfl rfl, xW_tab (i := 457) rfl rfl, xW_tab (i := 458) rfl rfl, xW_tab (i := 459) rfl rfl, by decide +kernel⟩
set_option maxRecDepth 100000 in
theorem g_mN_searchBack_313 : xcv "ChannelNet$Channel" mN_searchBack mC_partnerOf 313 1 := ⟨xW_tab (i := 587) rfl rfl, xW_tab (i := 489) rfl rfl, xW_tab (i := 490) rfl rfl, xW_tab (i := 491) rfl rfl, by decide +kernel⟩
set_option maxRecDepth 100000 in
theorem g_mN_searchBack_109 : xcv "ChannelNet$Channel" mN_searchBack mC_canCarry 109 2 := ⟨xW_tab (i := 460) rfl rfl, xW_tab (i := 461) rfl rfl, xW_tab (i := 462) rfl rfl, xW_tab (i := 463) rfl rfl, by decide +kernel⟩
set_option maxRecDepth 100000 in
theorem g_mN_searchBack_316 : xcv "ChannelNet$Route" mN_searchBack mR_put 316 4 := ⟨xW_tab (i := 588) rfl rfl, xW_tab (i := 589) rfl rfl, xW_tab (i := 590) rfl rfl, xW_tab (i := 591) rfl rfl, by decide +kernel⟩
set_option maxRecDepth 100000 in
theorem g_mN_searchBack_319 : xcv "ChannelNet" mN_searchBack mN_goOnFrom 319 5 := ⟨xW_tab (i := 592) rfl rfl, xW_tab (i := 594) rfl rfl, xW_sel (i := 9) rfl rfl, xW_tab (i := 595) rfl rfl, by decide +kernel⟩
set_option maxRecDepth 100000 in
theorem g_mN_goOnFrom_322 : xcv "ChannelNet" mN_goOnFrom mN_feeOf 322 2 := ⟨xW_tab (i := 596) rfl rfl, xW_tab (i := 598) rfl rfl, xW_sel (i := 10) rfl rfl, xW_tab (i := 599) rfl rfl, by decide +kernel⟩
set_option maxRecDepth 100000 in
theorem g_mN_goOnFrom_309 : xcv "ChannelNet" mN_goOnFrom mN_searchBack 309 5 := ⟨xW_tab (i := 583) rfl rfl, xW_tab (i := 585) rfl rfl, xW_sel (i := 8) rfl rfl, xW_tab (i := 586) rfl rfl, by decide +kernel⟩
set_option maxRecDepth 100000 in
theorem g_mN_goOnFrom_326 : xcv "ChannelNet$Route" mN_goOnFrom mR_isBetterThan 326 1 := ⟨xW_tab (i := 601) rfl rfl, xW_tab (i := 602) rfl rfl, xW_tab (i := 603) rfl rfl, xW_tab (i := 604) rfl rfl, by decide +kernel⟩
set_option maxRecDepth 100000 in
theorem g_mN_goOnFrom_330 : xcv "ChannelNet$Route" mN_goOnFrom mR_copy 330 1 := ⟨xW_tab (i := 613) rfl rfl, xW_tab (i := 614) rfl rfl, xW_tab (i := 615) rfl rfl, xW_tab (i := 616) rfl rfl, by decide +kernel⟩
set_option maxRecDepth 100000 in
theorem g_mR_isBetterThan_35 : xcv "ChannelNet$Route" mR_isBetterThan mR_firstAmount 35 0 := ⟨xW_tab (i := 605) rfl rfl, xW_tab (i := 606) rfl rfl, xW_tab (i := 607) rfl rfl, xW_tab (i := 608) rfl rfl, by decide +kernel⟩
set_option maxRecDepth 100000 in
theorem g_mR_firstAmount_25 : xcv "ChannelNet$Route" mR_firstAmount mR_slot 25 1 := ⟨xW_tab (i := 609) rfl rfl, xW_tab (i := 610) rfl rfl, xW_tab (i := 611) rfl rfl, xW_tab (i := 612) rfl rfl, by decide +kernel⟩
-- no code mR_copy 29 ('java/lang/System', 'arraycopy', '(Ljava/lang/Object;ILjava/lang/Object;II)V')
set_option maxRecDepth 100000 in
theorem g_mL_hop_51 : xcv "ChannelNet" mL_hop mN_hop 51 1 := ⟨xW_tab (i := 622) rfl rfl, xW_tab (i := 623) rfl rfl, xW_tab (i := 624) rfl rfl, xW_tab (i := 625) rfl rfl, by decide +kernel⟩
set_option maxRecDepth 100000 in
theorem g_mN_hop_106 : xcs mN_hop mN_checkIndex 106 1 := ⟨xW_tab (i := 170) rfl rfl, xW_tab (i := 171) rfl rfl, xW_tab (i := 1) rfl rfl, xW_tab (i := 172) rfl rfl, by decide +kernel⟩
set_option maxRecDepth 100000 in
theorem g_mN_hop_213 : xcv "ChannelNet$Route" mN_hop mR_slot 213 1 := ⟨xW_tab (i := 626) rfl rfl, xW_tab (i := 610) rfl rfl, xW_tab (i := 611) rfl rfl, xW_tab (i := 612) rfl rfl, by decide +kernel⟩
set_option maxRecDepth 100000 in
theorem g_mL_pay_55 : xcv "ChannelNet" mL_pay mN_pay 55 5 := ⟨xW_tab (i := 630) rfl rfl, xW_tab (i := 631) rfl rfl, xW_tab (i := 632) rfl rfl, xW_tab (i := 633) rfl rfl, by decide +kernel⟩
set_option maxRecDepth 100000 in
theorem g_mN_pay_198 : xcs mN_pay mN_checkEnds 198 3 := ⟨xW_tab (i := 575) rfl rfl, xW_tab (i := 576) rfl rfl, xW_tab (i := 1) rfl rfl, xW_tab (i := 577) rfl rfl, by decide +kernel⟩
set_option maxRecDepth 100000 in
theorem g_mN_pay_62 : xcs mN_pay mN_checkArgument 62 1 := ⟨xW_tab (i := 241) rfl rfl, xW_tab (i := 242) rfl rfl, xW_tab (i := 1) rfl rfl, xW_tab (i := 243) rfl rfl, by decide +kernel⟩
set_option maxRecDepth 100000 in
theorem g_mN_pay_85 : xcv "java/util/ArrayList" mN_pay mA_size 85 0 := ⟨xW_tab (i := 149) rfl rfl, xW_tab (i := 150) rfl rfl, xW_tab (i := 151) rfl rfl, xW_tab (i := 152) rfl rfl, by decide +kernel⟩
set_option maxRecDepth 100000 in
theorem g_mN_pay_74 : xcs mN_pay mN_checkState 74 1 := ⟨xW_tab (i := 260) rfl rfl, xW_tab (i := 261) rfl rfl, xW_tab (i := 1) rfl rfl, xW_tab (i := 262) rfl rfl, by decide +kernel⟩
set_option maxRecDepth 100000 in
theorem g_mN_pay_202 : xcv "ChannelNet" mN_pay mN_findRoute 202 3 := ⟨xW_tab (i := 579) rfl rfl, xW_tab (i := 581) rfl rfl, xW_sel (i := 7) rfl rfl, xW_tab (i := 582) rfl rfl, by decide +kernel⟩
set_option maxRecDepth 100000 in
theorem n_mN_pay_217 : xW (.classLink mN_pay.1.cls 217 "ChannelNet$Payment") ∧ xW (.instantiable "ChannelNet$Payment" 13) ∧ xW (.initialized "ChannelNet$Payment") := ⟨xW_tab (i := 635) rfl rfl, xW_tab (i := 636) rfl rfl, xW_tab (i := 22) rfl rfl⟩
set_option maxRecDepth 100000 in
theorem g_mN_pay_219 : xci mN_pay mY_init 219 3 := ⟨xW_tab (i := 637) rfl rfl, xW_tab (i := 638) rfl rfl, xW_tab (i := 639) rfl rfl, ⟨rfl, rfl, rfl⟩, by decide +kernel⟩
set_option maxRecDepth 100000 in
theorem g_mN_pay_222 : xcv "ChannelNet" mN_pay mN_fixDeadlines 222 2 := ⟨xW_tab (i := 695) rfl rfl, xW_tab (i := 697) rfl rfl, xW_sel (i := 11) rfl rfl, xW_tab (i := 698) rfl rfl, by decide +kernel⟩
set_option maxRecDepth 100000 in
theorem g_mN_pay_94 : xcv "java/util/ArrayList" mN_pay mA_add 94 1 := ⟨xW_tab (i := 336) rfl rfl, xW_tab (i := 337) rfl rfl, xW_tab (i := 338) rfl rfl, xW_tab (i := 339) rfl rfl, by decide +kernel⟩
set_option maxRecDepth 100000 in
theorem g_mY_init_3 : xW (.methodLink mY_init.1.cls 3 Lib.objectInit) ∧ xW (.instanceMethod Lib.objectInit) ∧ xW (.code Lib.objectInit ⟨#[0xb1]⟩ 1 none) := ⟨xW_tab (i := 640) rfl rfl, xW_tab (i := 29) rfl rfl, xW_tab (i := 30) rfl rfl⟩
set_option maxRecDepth 100000 in
theorem g_mY_init_57 : xcv "ChannelNet$Route" mY_init mR_slot 57 1 := ⟨xW_tab (i := 641) rfl rfl, xW_tab (i := 610) rfl rfl, xW_tab (i := 611) rfl rfl, xW_tab (i := 612) rfl rfl, by decide +kernel⟩
set_option maxRecDepth 100000 in
theorem g_mL_step_58 : xcv "ChannelNet" mL_step mN_step 58 1 := ⟨xW_tab (i := 702) rfl rfl, xW_tab (i := 703) rfl rfl, xW_tab (i := 704) rfl rfl, xW_tab (i := 705) rfl rfl, by decide +kernel⟩
set_option maxRecDepth 100000 in
theorem g_mN_step_226 : xcv "ChannelNet" mN_step mN_paymentAt 226 1 := ⟨xW_tab (i := 706) rfl rfl, xW_tab (i := 708) rfl rfl, xW_sel (i := 12) rfl rfl, xW_tab (i := 709) rfl rfl, by decide +kernel⟩
set_option maxRecDepth 100000 in
theorem g_mN_step_74 : xcs mN_step mN_checkState 74 1 := ⟨xW_tab (i := 260) rfl rfl, xW_tab (i := 261) rfl rfl, xW_tab (i := 1) rfl rfl, xW_tab (i := 262) rfl rfl, by decide +kernel⟩
set_option maxRecDepth 100000 in
theorem g_mN_step_231 : xcv "ChannelNet" mN_step mN_stepBack 231 1 := ⟨xW_tab (i := 710) rfl rfl, xW_tab (i := 712) rfl rfl, xW_sel (i := 13) rfl rfl, xW_tab (i := 713) rfl rfl, by decide +kernel⟩
set_option maxRecDepth 100000 in
theorem g_mN_step_239 : xcv "ChannelNet" mN_step mN_stepForward 239 1 := ⟨xW_tab (i := 726) rfl rfl, xW_tab (i := 728) rfl rfl, xW_sel (i := 16) rfl rfl, xW_tab (i := 729) rfl rfl, by decide +kernel⟩
set_option maxRecDepth 100000 in
theorem g_mN_step_81 : xcv "ChannelNet$Secrets" mN_step mS_isKnown 81 2 := ⟨xW_tab (i := 427) rfl rfl, xW_tab (i := 428) rfl rfl, xW_tab (i := 429) rfl rfl, xW_tab (i := 430) rfl rfl, by decide +kernel⟩
set_option maxRecDepth 100000 in
theorem g_mN_step_246 : xcv "ChannelNet$Payment" mN_step mY_turnBack 246 1 := ⟨xW_tab (i := 730) rfl rfl, xW_tab (i := 731) rfl rfl, xW_tab (i := 732) rfl rfl, xW_tab (i := 733) rfl rfl, by decide +kernel⟩
set_option maxRecDepth 100000 in
theorem g_mN_paymentAt_85 : xcv "java/util/ArrayList" mN_paymentAt mA_size 85 0 := ⟨xW_tab (i := 149) rfl rfl, xW_tab (i := 150) rfl rfl, xW_tab (i := 151) rfl rfl, xW_tab (i := 152) rfl rfl, by decide +kernel⟩
set_option maxRecDepth 100000 in
theorem g_mN_paymentAt_106 : xcs mN_paymentAt mN_checkIndex 106 1 := ⟨xW_tab (i := 170) rfl rfl, xW_tab (i := 171) rfl rfl, xW_tab (i := 1) rfl rfl, xW_tab (i := 172) rfl rfl, by decide +kernel⟩
set_option maxRecDepth 100000 in
theorem g_mN_paymentAt_298 : xcv "java/util/ArrayList" mN_paymentAt mA_get 298 1 := ⟨xW_tab (i := 442) rfl rfl, xW_tab (i := 443) rfl rfl, xW_tab (i := 444) rfl rfl, xW_tab (i := 445) rfl rfl, by decide +kernel⟩
set_option maxRecDepth 100000 in
theorem k_mN_paymentAt_217 : xW (.classLink mN_paymentAt.1.cls 217 "ChannelNet$Payment") ∧ xW (.castable "ChannelNet$Payment" "ChannelNet$Payment") := ⟨xW_tab (i := 635) rfl rfl, xW_tab (i := 1254) rfl rfl⟩
set_option maxRecDepth 100000 in
theorem g_mN_stepBack_98 : xcv "ChannelNet" mN_stepBack mN_channelAt 98 1 := ⟨xW_tab (i := 438) rfl rfl, xW_tab (i := 440) rfl rfl, xW_sel (i := 4) rfl rfl, xW_tab (i := 441) rfl rfl, by decide +kernel⟩
set_option maxRecDepth 100000 in
theorem g_mN_stepBack_189 : xcs mN_stepBack mN_promiseOf 189 2 := ⟨xW_tab (i := 540) rfl rfl, xW_tab (i := 541) rfl rfl, xW_tab (i := 1) rfl rfl, xW_tab (i := 542) rfl rfl, by decide +kernel⟩
set_option maxRecDepth 100000 in
theorem g_mN_stepBack_351 : xcv "ChannelNet" mN_stepBack mN_canEnd 351 3 := ⟨xW_tab (i := 714) rfl rfl, xW_tab (i := 716) rfl rfl, xW_sel (i := 14) rfl rfl, xW_tab (i := 717) rfl rfl, by decide +kernel⟩
set_option maxRecDepth 100000 in
theorem g_mN_stepBack_113 : xcv "ChannelNet$Channel" mN_stepBack mC_hasRoomForState 113 0 := ⟨xW_tab (i := 475) rfl rfl, xW_tab (i := 476) rfl rfl, xW_tab (i := 477) rfl rfl, xW_tab (i := 478) rfl rfl, by decide +kernel⟩
set_option maxRecDepth 100000 in
theorem g_mN_stepBack_74 : xcs mN_stepBack mN_checkState 74 1 := ⟨xW_tab (i := 260) rfl rfl, xW_tab (i := 261) rfl rfl, xW_tab (i := 1) rfl rfl, xW_tab (i := 262) rfl rfl, by decide +kernel⟩
set_option maxRecDepth 100000 in
theorem g_mN_stepBack_355 : xcv "ChannelNet" mN_stepBack mN_endAs 355 3 := ⟨xW_tab (i := 718) rfl rfl, xW_tab (i := 720) rfl rfl, xW_sel (i := 15) rfl rfl, xW_tab (i := 721) rfl rfl, by decide +kernel⟩
set_option maxRecDepth 100000 in
theorem g_mN_stepBack_358 : xcv "ChannelNet$Payment" mN_stepBack mY_goneBack 358 0 := ⟨xW_tab (i := 722) rfl rfl, xW_tab (i := 723) rfl rfl, xW_tab (i := 724) rfl rfl, xW_tab (i := 725) rfl rfl, by decide +kernel⟩
set_option maxRecDepth 100000 in
theorem g_mN_canEnd_195 : xcv "ChannelNet$Promise" mN_canEnd mP_isIn 195 1 := ⟨xW_tab (i := 544) rfl rfl, xW_tab (i := 472) rfl rfl, xW_tab (i := 473) rfl rfl, xW_tab (i := 474) rfl rfl, by decide +kernel⟩
set_option maxRecDepth 100000 in
theorem g_mN_endAs_140 : xcv "ChannelNet$Channel" mN_endAs mC_endPromise 140 2 := ⟨xW_tab (i := 545) rfl rfl, xW_tab (i := 546) rfl rfl, xW_tab (i := 547) rfl rfl, xW_tab (i := 548) rfl rfl, by decide +kernel⟩
set_option maxRecDepth 100000 in
theorem g_mN_endAs_77 : xcv "ChannelNet$Secrets" mN_endAs mS_learn 77 2 := ⟨xW_tab (i := 416) rfl rfl, xW_tab (i := 417) rfl rfl, xW_tab (i := 418) rfl rfl, xW_tab (i := 419) rfl rfl, by decide +kernel⟩
set_option maxRecDepth 100000 in
theorem g_mN_stepForward_98 : xcv "ChannelNet" mN_stepForward mN_channelAt 98 1 := ⟨xW_tab (i := 438) rfl rfl, xW_tab (i := 440) rfl rfl, xW_sel (i := 4) rfl rfl, xW_tab (i := 441) rfl rfl, by decide +kernel⟩
set_option maxRecDepth 100000 in
theorem g_mN_stepForward_109 : xcv "ChannelNet$Channel" mN_stepForward mC_canCarry 109 2 := ⟨xW_tab (i := 460) rfl rfl, xW_tab (i := 461) rfl rfl, xW_tab (i := 462) rfl rfl, xW_tab (i := 463) rfl rfl, by decide +kernel⟩
set_option maxRecDepth 100000 in
theorem g_mN_stepForward_246 : xcv "ChannelNet$Payment" mN_stepForward mY_turnBack 246 1 := ⟨xW_tab (i := 730) rfl rfl, xW_tab (i := 731) rfl rfl, xW_tab (i := 732) rfl rfl, xW_tab (i := 733) rfl rfl, by decide +kernel⟩
set_option maxRecDepth 100000 in
theorem g_mN_stepForward_113 : xcv "ChannelNet$Channel" mN_stepForward mC_hasRoomForState 113 0 := ⟨xW_tab (i := 475) rfl rfl, xW_tab (i := 476) rfl rfl, xW_tab (i := 477) rfl rfl, xW_tab (i := 478) rfl rfl, by decide +kernel⟩
set_option maxRecDepth 100000 in
theorem g_mN_stepForward_74 : xcs mN_stepForward mN_checkState 74 1 := ⟨xW_tab (i := 260) rfl rfl, xW_tab (i := 261) rfl rfl, xW_tab (i := 1) rfl rfl, xW_tab (i := 262) rfl rfl, by decide +kernel⟩
set_option maxRecDepth 100000 in
theorem g_mN_stepForward_117 : xcv "ChannelNet$Channel" mN_stepForward mC_addPromise 117 4 := ⟨xW_tab (i := 479) rfl rfl, xW_tab (i := 480) rfl rfl, xW_tab (i := 481) rfl rfl, xW_tab (i := 482) rfl rfl, by decide +kernel⟩
set_option maxRecDepth 100000 in
theorem g_mL_payment_61 : xcv "ChannelNet" mL_payment mN_payment 61 2 := ⟨xW_tab (i := 737) rfl rfl, xW_tab (i := 738) rfl rfl, xW_tab (i := 739) rfl rfl, xW_tab (i := 740) rfl rfl, by decide +kernel⟩
set_option maxRecDepth 100000 in
theorem g_mN_payment_226 : xcv "ChannelNet" mN_payment mN_paymentAt 226 1 := ⟨xW_tab (i := 706) rfl rfl, xW_tab (i := 708) rfl rfl, xW_sel (i := 12) rfl rfl, xW_tab (i := 709) rfl rfl, by decide +kernel⟩
set_option maxRecDepth 100000 in
theorem n_mN_payment_170 : xW (.classLink mN_payment.1.cls 170 "java/lang/IllegalArgumentException") ∧ xW (.initialized "java/lang/IllegalArgumentException") := ⟨xW_tab (i := 244) rfl rfl, xW_tab (i := 12) rfl rfl⟩
-- no code mN_payment 174 ('java/lang/IllegalArgumentException', '<init>', '(Ljava/lang/String;)V')
set_option maxRecDepth 100000 in
theorem g_mL_publish_64 : xcv "ChannelNet" mL_publish mN_publish 64 3 := ⟨xW_tab (i := 745) rfl rfl, xW_tab (i := 746) rfl rfl, xW_tab (i := 747) rfl rfl, xW_tab (i := 748) rfl rfl, by decide +kernel⟩
set_option maxRecDepth 100000 in
theorem g_mN_publish_98 : xcv "ChannelNet" mN_publish mN_channelAt 98 1 := ⟨xW_tab (i := 438) rfl rfl, xW_tab (i := 440) rfl rfl, xW_sel (i := 4) rfl rfl, xW_tab (i := 441) rfl rfl, by decide +kernel⟩
set_option maxRecDepth 100000 in
theorem g_mN_publish_102 : xcv "ChannelNet$Channel" mN_publish mC_joins 102 1 := ⟨xW_tab (i := 456) rfl rfl, xW_tab (i := 457) rfl rfl, xW_tab (i := 458) rfl rfl, xW_tab (i := 459) rfl rfl, by decide +kernel⟩
set_option maxRecDepth 100000 in
theorem g_mN_publish_106 : xcs mN_publish mN_checkIndex 106 1 := ⟨xW_tab (i := 170) rfl rfl, xW_tab (i := 171) rfl rfl, xW_tab (i := 1) rfl rfl, xW_tab (i := 172) rfl rfl, by decide +kernel⟩
set_option maxRecDepth 100000 in
theorem g_mN_publish_177 : xcv "ChannelNet$Channel" mN_publish mC_hasState 177 1 := ⟨xW_tab (i := 749) rfl rfl, xW_tab (i := 750) rfl rfl, xW_tab (i := 751) rfl rfl, xW_tab (i := 752) rfl rfl, by decide +kernel⟩
set_option maxRecDepth 100000 in
theorem g_mN_publish_74 : xcs mN_publish mN_checkState 74 1 := ⟨xW_tab (i := 260) rfl rfl, xW_tab (i := 261) rfl rfl, xW_tab (i := 1) rfl rfl, xW_tab (i := 262) rfl rfl, by decide +kernel⟩
set_option maxRecDepth 100000 in
theorem g_mL_punish_68 : xcv "ChannelNet" mL_punish mN_punish 68 1 := ⟨xW_tab (i := 756) rfl rfl, xW_tab (i := 757) rfl rfl, xW_tab (i := 758) rfl rfl, xW_tab (i := 759) rfl rfl, by decide +kernel⟩
set_option maxRecDepth 100000 in
theorem g_mN_punish_98 : xcv "ChannelNet" mN_punish mN_channelAt 98 1 := ⟨xW_tab (i := 438) rfl rfl, xW_tab (i := 440) rfl rfl, xW_sel (i := 4) rfl rfl, xW_tab (i := 441) rfl rfl, by decide +kernel⟩
set_option maxRecDepth 100000 in
theorem g_mN_punish_258 : xcv "ChannelNet$Channel" mN_punish mC_isPunishable 258 1 := ⟨xW_tab (i := 760) rfl rfl, xW_tab (i := 761) rfl rfl, xW_tab (i := 762) rfl rfl, xW_tab (i := 763) rfl rfl, by decide +kernel⟩
set_option maxRecDepth 100000 in
theorem g_mN_punish_74 : xcs mN_punish mN_checkState 74 1 := ⟨xW_tab (i := 260) rfl rfl, xW_tab (i := 261) rfl rfl, xW_tab (i := 1) rfl rfl, xW_tab (i := 262) rfl rfl, by decide +kernel⟩
set_option maxRecDepth 100000 in
theorem g_mN_punish_261 : xcv "ChannelNet" mN_punish mN_payPunisher 261 1 := ⟨xW_tab (i := 764) rfl rfl, xW_tab (i := 766) rfl rfl, xW_sel (i := 17) rfl rfl, xW_tab (i := 767) rfl rfl, by decide +kernel⟩
set_option maxRecDepth 100000 in
theorem g_mN_punish_265 : xcv "ChannelNet$Channel" mN_punish mC_punisher 265 0 := ⟨xW_tab (i := 768) rfl rfl, xW_tab (i := 769) rfl rfl, xW_tab (i := 770) rfl rfl, xW_tab (i := 771) rfl rfl, by decide +kernel⟩
set_option maxRecDepth 100000 in
theorem g_mN_payPunisher_265 : xcv "ChannelNet$Channel" mN_payPunisher mC_punisher 265 0 := ⟨xW_tab (i := 768) rfl rfl, xW_tab (i := 769) rfl rfl, xW_tab (i := 770) rfl rfl, xW_tab (i := 771) rfl rfl, by decide +kernel⟩
set_option maxRecDepth 100000 in
theorem g_mC_punisher_79 : xcv "ChannelNet$Channel" mC_punisher mC_partnerOf 79 1 := ⟨xW_tab (i := 488) rfl rfl, xW_tab (i := 489) rfl rfl, xW_tab (i := 490) rfl rfl, xW_tab (i := 491) rfl rfl, by decide +kernel⟩
set_option maxRecDepth 100000 in
theorem g_mL_claim_71 : xcv "ChannelNet" mL_claim mN_claim 71 3 := ⟨xW_tab (i := 775) rfl rfl, xW_tab (i := 776) rfl rfl, xW_tab (i := 777) rfl rfl, xW_tab (i := 778) rfl rfl, by decide +kernel⟩
set_option maxRecDepth 100000 in
theorem g_mN_claim_98 : xcv "ChannelNet" mN_claim mN_channelAt 98 1 := ⟨xW_tab (i := 438) rfl rfl, xW_tab (i := 440) rfl rfl, xW_sel (i := 4) rfl rfl, xW_tab (i := 441) rfl rfl, by decide +kernel⟩
set_option maxRecDepth 100000 in
theorem g_mN_claim_268 : xcs mN_claim mN_ledgerPromise 268 2 := ⟨xW_tab (i := 779) rfl rfl, xW_tab (i := 780) rfl rfl, xW_tab (i := 1) rfl rfl, xW_tab (i := 781) rfl rfl, by decide +kernel⟩
set_option maxRecDepth 100000 in
theorem g_mN_claim_66 : xcs mN_claim mN_lockOf 66 1 := ⟨xW_tab (i := 140) rfl rfl, xW_tab (i := 141) rfl rfl, xW_tab (i := 1) rfl rfl, xW_tab (i := 142) rfl rfl, by decide +kernel⟩
set_option maxRecDepth 100000 in
theorem g_mN_claim_62 : xcs mN_claim mN_checkArgument 62 1 := ⟨xW_tab (i := 241) rfl rfl, xW_tab (i := 242) rfl rfl, xW_tab (i := 1) rfl rfl, xW_tab (i := 243) rfl rfl, by decide +kernel⟩
set_option maxRecDepth 100000 in
theorem g_mN_claim_258 : xcv "ChannelNet$Channel" mN_claim mC_isPunishable 258 1 := ⟨xW_tab (i := 760) rfl rfl, xW_tab (i := 761) rfl rfl, xW_tab (i := 762) rfl rfl, xW_tab (i := 763) rfl rfl, by decide +kernel⟩
set_option maxRecDepth 100000 in
theorem g_mN_claim_74 : xcs mN_claim mN_checkState 74 1 := ⟨xW_tab (i := 260) rfl rfl, xW_tab (i := 261) rfl rfl, xW_tab (i := 1) rfl rfl, xW_tab (i := 262) rfl rfl, by decide +kernel⟩
set_option maxRecDepth 100000 in
theorem g_mN_claim_70 : xcv "ChannelNet$Secrets" mN_claim mS_hasRoomFor 70 1 := ⟨xW_tab (i := 408) rfl rfl, xW_tab (i := 409) rfl rfl, xW_tab (i := 410) rfl rfl, xW_tab (i := 411) rfl rfl, by decide +kernel⟩
set_option maxRecDepth 100000 in
theorem g_mN_claim_77 : xcv "ChannelNet$Secrets" mN_claim mS_learn 77 2 := ⟨xW_tab (i := 416) rfl rfl, xW_tab (i := 417) rfl rfl, xW_tab (i := 418) rfl rfl, xW_tab (i := 419) rfl rfl, by decide +kernel⟩
set_option maxRecDepth 100000 in
theorem g_mN_claim_271 : xcv "ChannelNet" mN_claim mN_payPromise 271 3 := ⟨xW_tab (i := 782) rfl rfl, xW_tab (i := 784) rfl rfl, xW_sel (i := 18) rfl rfl, xW_tab (i := 785) rfl rfl, by decide +kernel⟩
set_option maxRecDepth 100000 in
theorem g_mN_ledgerPromise_189 : xcs mN_ledgerPromise mN_promiseOf 189 2 := ⟨xW_tab (i := 540) rfl rfl, xW_tab (i := 541) rfl rfl, xW_tab (i := 1) rfl rfl, xW_tab (i := 542) rfl rfl, by decide +kernel⟩
set_option maxRecDepth 100000 in
theorem g_mN_ledgerPromise_195 : xcv "ChannelNet$Promise" mN_ledgerPromise mP_isIn 195 1 := ⟨xW_tab (i := 544) rfl rfl, xW_tab (i := 472) rfl rfl, xW_tab (i := 473) rfl rfl, xW_tab (i := 474) rfl rfl, by decide +kernel⟩
set_option maxRecDepth 100000 in
theorem g_mN_ledgerPromise_106 : xcs mN_ledgerPromise mN_checkIndex 106 1 := ⟨xW_tab (i := 170) rfl rfl, xW_tab (i := 171) rfl rfl, xW_tab (i := 1) rfl rfl, xW_tab (i := 172) rfl rfl, by decide +kernel⟩
set_option maxRecDepth 100000 in
theorem g_mN_payPromise_279 : xcv "ChannelNet$Channel" mN_payPromise mC_closeIfSpent 279 0 := ⟨xW_tab (i := 786) rfl rfl, xW_tab (i := 787) rfl rfl, xW_tab (i := 788) rfl rfl, xW_tab (i := 789) rfl rfl, by decide +kernel⟩
set_option maxRecDepth 100000 in
theorem g_mL_takeBack_74 : xcv "ChannelNet" mL_takeBack mN_takeBack 74 2 := ⟨xW_tab (i := 793) rfl rfl, xW_tab (i := 794) rfl rfl, xW_tab (i := 795) rfl rfl, xW_tab (i := 796) rfl rfl, by decide +kernel⟩
set_option maxRecDepth 100000 in
theorem g_mN_takeBack_98 : xcv "ChannelNet" mN_takeBack mN_channelAt 98 1 := ⟨xW_tab (i := 438) rfl rfl, xW_tab (i := 440) rfl rfl, xW_sel (i := 4) rfl rfl, xW_tab (i := 441) rfl rfl, by decide +kernel⟩
set_option maxRecDepth 100000 in
theorem g_mN_takeBack_268 : xcs mN_takeBack mN_ledgerPromise 268 2 := ⟨xW_tab (i := 779) rfl rfl, xW_tab (i := 780) rfl rfl, xW_tab (i := 1) rfl rfl, xW_tab (i := 781) rfl rfl, by decide +kernel⟩
set_option maxRecDepth 100000 in
theorem g_mN_takeBack_258 : xcv "ChannelNet$Channel" mN_takeBack mC_isPunishable 258 1 := ⟨xW_tab (i := 760) rfl rfl, xW_tab (i := 761) rfl rfl, xW_tab (i := 762) rfl rfl, xW_tab (i := 763) rfl rfl, by decide +kernel⟩
set_option maxRecDepth 100000 in
theorem g_mN_takeBack_74 : xcs mN_takeBack mN_checkState 74 1 := ⟨xW_tab (i := 260) rfl rfl, xW_tab (i := 261) rfl rfl, xW_tab (i := 1) rfl rfl, xW_tab (i := 262) rfl rfl, by decide +kernel⟩
set_option maxRecDepth 100000 in
theorem g_mN_takeBack_271 : xcv "ChannelNet" mN_takeBack mN_payPromise 271 3 := ⟨xW_tab (i := 782) rfl rfl, xW_tab (i := 784) rfl rfl, xW_sel (i := 18) rfl rfl, xW_tab (i := 785) rfl rfl, by decide +kernel⟩
set_option maxRecDepth 100000 in
theorem g_mL_settle_77 : xcv "ChannelNet" mL_settle mN_settle 77 1 := ⟨xW_tab (i := 800) rfl rfl, xW_tab (i := 801) rfl rfl, xW_tab (i := 802) rfl rfl, xW_tab (i := 803) rfl rfl, by decide +kernel⟩
set_option maxRecDepth 100000 in
theorem g_mN_settle_98 : xcv "ChannelNet" mN_settle mN_channelAt 98 1 := ⟨xW_tab (i := 438) rfl rfl, xW_tab (i := 440) rfl rfl, xW_sel (i := 4) rfl rfl, xW_tab (i := 441) rfl rfl, by decide +kernel⟩
set_option maxRecDepth 100000 in
theorem g_mN_settle_74 : xcs mN_settle mN_checkState 74 1 := ⟨xW_tab (i := 260) rfl rfl, xW_tab (i := 261) rfl rfl, xW_tab (i := 1) rfl rfl, xW_tab (i := 262) rfl rfl, by decide +kernel⟩
set_option maxRecDepth 100000 in
theorem g_mN_settle_154 : xcv "ChannelNet" mN_settle mN_payBalances 154 2 := ⟨xW_tab (i := 564) rfl rfl, xW_tab (i := 566) rfl rfl, xW_sel (i := 6) rfl rfl, xW_tab (i := 567) rfl rfl, by decide +kernel⟩
set_option maxRecDepth 100000 in
theorem g_mN_settle_279 : xcv "ChannelNet$Channel" mN_settle mC_closeIfSpent 279 0 := ⟨xW_tab (i := 786) rfl rfl, xW_tab (i := 787) rfl rfl, xW_tab (i := 788) rfl rfl, xW_tab (i := 789) rfl rfl, by decide +kernel⟩
set_option maxRecDepth 100000 in
theorem g_mL_watch_80 : xcv "ChannelNet" mL_watch mN_watch 80 2 := ⟨xW_tab (i := 807) rfl rfl, xW_tab (i := 808) rfl rfl, xW_tab (i := 809) rfl rfl, xW_tab (i := 810) rfl rfl, by decide +kernel⟩
set_option maxRecDepth 100000 in
theorem g_mN_watch_58 : xcs mN_watch mN_checkNode 58 1 := ⟨xW_tab (i := 167) rfl rfl, xW_tab (i := 168) rfl rfl, xW_tab (i := 1) rfl rfl, xW_tab (i := 169) rfl rfl, by decide +kernel⟩
set_option maxRecDepth 100000 in
theorem g_mL_grow_84 : xcv "ChannelNet" mL_grow mN_grow 84 1 := ⟨xW_tab (i := 814) rfl rfl, xW_tab (i := 815) rfl rfl, xW_tab (i := 816) rfl rfl, xW_tab (i := 817) rfl rfl, by decide +kernel⟩
set_option maxRecDepth 100000 in
theorem g_mN_grow_62 : xcs mN_grow mN_checkArgument 62 1 := ⟨xW_tab (i := 241) rfl rfl, xW_tab (i := 242) rfl rfl, xW_tab (i := 1) rfl rfl, xW_tab (i := 243) rfl rfl, by decide +kernel⟩
set_option maxRecDepth 100000 in
theorem g_mN_grow_282 : xcv "ChannelNet" mN_grow mN_punishAsWatched 282 0 := ⟨xW_tab (i := 818) rfl rfl, xW_tab (i := 820) rfl rfl, xW_sel (i := 19) rfl rfl, xW_tab (i := 821) rfl rfl, by decide +kernel⟩
set_option maxRecDepth 100000 in
theorem g_mN_punishAsWatched_85 : xcv "java/util/ArrayList" mN_punishAsWatched mA_size 85 0 := ⟨xW_tab (i := 149) rfl rfl, xW_tab (i := 150) rfl rfl, xW_tab (i := 151) rfl rfl, xW_tab (i := 152) rfl rfl, by decide +kernel⟩
set_option maxRecDepth 100000 in
theorem g_mN_punishAsWatched_298 : xcv "java/util/ArrayList" mN_punishAsWatched mA_get 298 1 := ⟨xW_tab (i := 442) rfl rfl, xW_tab (i := 443) rfl rfl, xW_tab (i := 444) rfl rfl, xW_tab (i := 445) rfl rfl, by decide +kernel⟩
set_option maxRecDepth 100000 in
theorem k_mN_punishAsWatched_89 : xW (.classLink mN_punishAsWatched.1.cls 89 "ChannelNet$Channel") ∧ xW (.castable "ChannelNet$Channel" "ChannelNet$Channel") := ⟨xW_tab (i := 279) rfl rfl, xW_tab (i := 1252) rfl rfl⟩
set_option maxRecDepth 100000 in
theorem g_mN_punishAsWatched_258 : xcv "ChannelNet$Channel" mN_punishAsWatched mC_isPunishable 258 1 := ⟨xW_tab (i := 760) rfl rfl, xW_tab (i := 761) rfl rfl, xW_tab (i := 762) rfl rfl, xW_tab (i := 763) rfl rfl, by decide +kernel⟩
set_option maxRecDepth 100000 in
theorem g_mN_punishAsWatched_265 : xcv "ChannelNet$Channel" mN_punishAsWatched mC_punisher 265 0 := ⟨xW_tab (i := 768) rfl rfl, xW_tab (i := 769) rfl rfl, xW_tab (i := 770) rfl rfl, xW_tab (i := 771) rfl rfl, by decide +kernel⟩
set_option maxRecDepth 100000 in
theorem g_mN_punishAsWatched_261 : xcv "ChannelNet" mN_punishAsWatched mN_payPunisher 261 1 := ⟨xW_tab (i := 764) rfl rfl, xW_tab (i := 766) rfl rfl, xW_sel (i := 17) rfl rfl, xW_tab (i := 767) rfl rfl, by decide +kernel⟩
set_option maxRecDepth 100000 in
theorem g_mL_coins_87 : xcv "ChannelNet" mL_coins mN_coins 87 1 := ⟨xW_tab (i := 825) rfl rfl, xW_tab (i := 826) rfl rfl, xW_tab (i := 827) rfl rfl, xW_tab (i := 828) rfl rfl, by decide +kernel⟩
set_option maxRecDepth 100000 in
theorem g_mN_coins_58 : xcs mN_coins mN_checkNode 58 1 := ⟨xW_tab (i := 167) rfl rfl, xW_tab (i := 168) rfl rfl, xW_tab (i := 1) rfl rfl, xW_tab (i := 169) rfl rfl, by decide +kernel⟩
set_option maxRecDepth 100000 in
theorem g_mL_channel_90 : xcv "ChannelNet" mL_channel mN_channel 90 2 := ⟨xW_tab (i := 832) rfl rfl, xW_tab (i := 833) rfl rfl, xW_tab (i := 834) rfl rfl, xW_tab (i := 835) rfl rfl, by decide +kernel⟩
set_option maxRecDepth 100000 in
theorem g_mN_channel_98 : xcv "ChannelNet" mN_channel mN_channelAt 98 1 := ⟨xW_tab (i := 438) rfl rfl, xW_tab (i := 440) rfl rfl, xW_sel (i := 4) rfl rfl, xW_tab (i := 441) rfl rfl, by decide +kernel⟩
set_option maxRecDepth 100000 in
theorem g_mN_channel_85 : xcv "java/util/ArrayList" mN_channel mA_size 85 0 := ⟨xW_tab (i := 149) rfl rfl, xW_tab (i := 150) rfl rfl, xW_tab (i := 151) rfl rfl, xW_tab (i := 152) rfl rfl, by decide +kernel⟩
set_option maxRecDepth 100000 in
theorem n_mN_channel_170 : xW (.classLink mN_channel.1.cls 170 "java/lang/IllegalArgumentException") ∧ xW (.initialized "java/lang/IllegalArgumentException") := ⟨xW_tab (i := 244) rfl rfl, xW_tab (i := 12) rfl rfl⟩
-- no code mN_channel 174 ('java/lang/IllegalArgumentException', '<init>', '(Ljava/lang/String;)V')
set_option maxRecDepth 100000 in
theorem g_mL_state_93 : xcv "ChannelNet" mL_state mN_state 93 3 := ⟨xW_tab (i := 839) rfl rfl, xW_tab (i := 840) rfl rfl, xW_tab (i := 841) rfl rfl, xW_tab (i := 842) rfl rfl, by decide +kernel⟩
set_option maxRecDepth 100000 in
theorem g_mN_state_98 : xcv "ChannelNet" mN_state mN_channelAt 98 1 := ⟨xW_tab (i := 438) rfl rfl, xW_tab (i := 440) rfl rfl, xW_sel (i := 4) rfl rfl, xW_tab (i := 441) rfl rfl, by decide +kernel⟩
set_option maxRecDepth 100000 in
theorem g_mN_state_177 : xcv "ChannelNet$Channel" mN_state mC_hasState 177 1 := ⟨xW_tab (i := 749) rfl rfl, xW_tab (i := 750) rfl rfl, xW_tab (i := 751) rfl rfl, xW_tab (i := 752) rfl rfl, by decide +kernel⟩
set_option maxRecDepth 100000 in
theorem g_mN_state_106 : xcs mN_state mN_checkIndex 106 1 := ⟨xW_tab (i := 170) rfl rfl, xW_tab (i := 171) rfl rfl, xW_tab (i := 1) rfl rfl, xW_tab (i := 172) rfl rfl, by decide +kernel⟩
set_option maxRecDepth 100000 in
theorem g_mN_state_150 : xcv "ChannelNet$Channel" mN_state mC_promisesIn 150 1 := ⟨xW_tab (i := 563) rfl rfl, xW_tab (i := 465) rfl rfl, xW_tab (i := 466) rfl rfl, xW_tab (i := 467) rfl rfl, by decide +kernel⟩
set_option maxRecDepth 100000 in
theorem g_mN_state_186 : xcv "ChannelNet$Channel" mN_state mC_promisedIn 186 1 := ⟨xW_tab (i := 843) rfl rfl, xW_tab (i := 844) rfl rfl, xW_tab (i := 845) rfl rfl, xW_tab (i := 846) rfl rfl, by decide +kernel⟩
set_option maxRecDepth 100000 in
theorem n_mN_state_170 : xW (.classLink mN_state.1.cls 170 "java/lang/IllegalArgumentException") ∧ xW (.initialized "java/lang/IllegalArgumentException") := ⟨xW_tab (i := 244) rfl rfl, xW_tab (i := 12) rfl rfl⟩
-- no code mN_state 174 ('java/lang/IllegalArgumentException', '<init>', '(Ljava/lang/String;)V')
set_option maxRecDepth 100000 in
theorem g_mC_promisedIn_54 : xcv "java/util/ArrayList" mC_promisedIn mA_size 54 0 := ⟨xW_tab (i := 468) rfl rfl, xW_tab (i := 150) rfl rfl, xW_tab (i := 151) rfl rfl, xW_tab (i := 152) rfl rfl, by decide +kernel⟩
set_option maxRecDepth 100000 in
theorem g_mC_promisedIn_58 : xcv "java/util/ArrayList" mC_promisedIn mA_get 58 1 := ⟨xW_tab (i := 469) rfl rfl, xW_tab (i := 443) rfl rfl, xW_tab (i := 444) rfl rfl, xW_tab (i := 445) rfl rfl, by decide +kernel⟩
set_option maxRecDepth 100000 in
theorem k_mC_promisedIn_62 : xW (.classLink mC_promisedIn.1.cls 62 "ChannelNet$Promise") ∧ xW (.castable "ChannelNet$Promise" "ChannelNet$Promise") := ⟨xW_tab (i := 470) rfl rfl, xW_tab (i := 1253) rfl rfl⟩
set_option maxRecDepth 100000 in
theorem g_mC_promisedIn_64 : xcv "ChannelNet$Promise" mC_promisedIn mP_isIn 64 1 := ⟨xW_tab (i := 471) rfl rfl, xW_tab (i := 472) rfl rfl, xW_tab (i := 473) rfl rfl, xW_tab (i := 474) rfl rfl, by decide +kernel⟩
set_option maxRecDepth 100000 in
theorem g_mL_made_96 : xcv "ChannelNet" mL_made mN_made 96 3 := ⟨xW_tab (i := 850) rfl rfl, xW_tab (i := 851) rfl rfl, xW_tab (i := 852) rfl rfl, xW_tab (i := 853) rfl rfl, by decide +kernel⟩
set_option maxRecDepth 100000 in
theorem g_mN_made_98 : xcv "ChannelNet" mN_made mN_channelAt 98 1 := ⟨xW_tab (i := 438) rfl rfl, xW_tab (i := 440) rfl rfl, xW_sel (i := 4) rfl rfl, xW_tab (i := 441) rfl rfl, by decide +kernel⟩
set_option maxRecDepth 100000 in
theorem g_mN_made_189 : xcs mN_made mN_promiseOf 189 2 := ⟨xW_tab (i := 540) rfl rfl, xW_tab (i := 541) rfl rfl, xW_tab (i := 1) rfl rfl, xW_tab (i := 542) rfl rfl, by decide +kernel⟩
set_option maxRecDepth 100000 in
theorem g_mN_made_195 : xcv "ChannelNet$Promise" mN_made mP_isIn 195 1 := ⟨xW_tab (i := 544) rfl rfl, xW_tab (i := 472) rfl rfl, xW_tab (i := 473) rfl rfl, xW_tab (i := 474) rfl rfl, by decide +kernel⟩
set_option maxRecDepth 100000 in
theorem n_mN_made_170 : xW (.classLink mN_made.1.cls 170 "java/lang/IllegalArgumentException") ∧ xW (.initialized "java/lang/IllegalArgumentException") := ⟨xW_tab (i := 244) rfl rfl, xW_tab (i := 12) rfl rfl⟩
-- no code mN_made 174 ('java/lang/IllegalArgumentException', '<init>', '(Ljava/lang/String;)V')
set_option maxRecDepth 100000 in
theorem g_mM_init_1 : xW (.methodLink mM_init.1.cls 1 Lib.objectInit) ∧ xW (.instanceMethod Lib.objectInit) ∧ xW (.code Lib.objectInit ⟨#[0xb1]⟩ 1 none) := ⟨xW_tab (i := 859) rfl rfl, xW_tab (i := 29) rfl rfl, xW_tab (i := 30) rfl rfl⟩
set_option maxRecDepth 100000 in
theorem g_mM_tell_158 : xcs mM_tell mM_lockOf 158 1 := ⟨xW_tab (i := 1014) rfl rfl, xW_tab (i := 1015) rfl rfl, xW_tab (i := 7) rfl rfl, xW_tab (i := 1016) rfl rfl, by decide +kernel⟩
set_option maxRecDepth 100000 in
theorem g_mM_tell_162 : xcs mM_tell mM_isNode 162 1 := ⟨xW_tab (i := 1019) rfl rfl, xW_tab (i := 1020) rfl rfl, xW_tab (i := 7) rfl rfl, xW_tab (i := 1021) rfl rfl, by decide +kernel⟩
set_option maxRecDepth 100000 in
theorem g_mM_tell_166 : xcv "ChannelNetModel" mM_tell mM_hasRoom 166 1 := ⟨xW_tab (i := 1025) rfl rfl, xW_tab (i := 1027) rfl rfl, xW_sel (i := 20) rfl rfl, xW_tab (i := 1028) rfl rfl, by decide +kernel⟩
set_option maxRecDepth 100000 in
theorem g_mM_tell_170 : xcv "ChannelNetModel" mM_tell mM_learn 170 2 := ⟨xW_tab (i := 1033) rfl rfl, xW_tab (i := 1035) rfl rfl, xW_sel (i := 22) rfl rfl, xW_tab (i := 1036) rfl rfl, by decide +kernel⟩
set_option maxRecDepth 100000 in
theorem g_mM_isNode_140 : xcs mM_isNode mM_isIn 140 3 := ⟨xW_tab (i := 1022) rfl rfl, xW_tab (i := 1023) rfl rfl, xW_tab (i := 7) rfl rfl, xW_tab (i := 1024) rfl rfl, by decide +kernel⟩
set_option maxRecDepth 100000 in
theorem g_mM_hasRoom_154 : xcv "ChannelNetModel" mM_hasRoom mM_find 154 1 := ⟨xW_tab (i := 1029) rfl rfl, xW_tab (i := 1031) rfl rfl, xW_sel (i := 21) rfl rfl, xW_tab (i := 1032) rfl rfl, by decide +kernel⟩
set_option maxRecDepth 100000 in
theorem g_mM_learn_154 : xcv "ChannelNetModel" mM_learn mM_find 154 1 := ⟨xW_tab (i := 1029) rfl rfl, xW_tab (i := 1031) rfl rfl, xW_sel (i := 21) rfl rfl, xW_tab (i := 1032) rfl rfl, by decide +kernel⟩
set_option maxRecDepth 100000 in
theorem g_mM_lock_158 : xcs mM_lock mM_lockOf 158 1 := ⟨xW_tab (i := 1014) rfl rfl, xW_tab (i := 1015) rfl rfl, xW_tab (i := 7) rfl rfl, xW_tab (i := 1016) rfl rfl, by decide +kernel⟩
set_option maxRecDepth 100000 in
theorem g_mM_knows_162 : xcs mM_knows mM_isNode 162 1 := ⟨xW_tab (i := 1019) rfl rfl, xW_tab (i := 1020) rfl rfl, xW_tab (i := 7) rfl rfl, xW_tab (i := 1021) rfl rfl, by decide +kernel⟩
set_option maxRecDepth 100000 in
theorem g_mM_knows_174 : xcv "ChannelNetModel" mM_knows mM_isKnown 174 2 := ⟨xW_tab (i := 1045) rfl rfl, xW_tab (i := 1047) rfl rfl, xW_sel (i := 23) rfl rfl, xW_tab (i := 1048) rfl rfl, by decide +kernel⟩
set_option maxRecDepth 100000 in
theorem g_mM_isKnown_154 : xcv "ChannelNetModel" mM_isKnown mM_find 154 1 := ⟨xW_tab (i := 1029) rfl rfl, xW_tab (i := 1031) rfl rfl, xW_sel (i := 21) rfl rfl, xW_tab (i := 1032) rfl rfl, by decide +kernel⟩
set_option maxRecDepth 100000 in
theorem g_mM_fees_162 : xcs mM_fees mM_isNode 162 1 := ⟨xW_tab (i := 1019) rfl rfl, xW_tab (i := 1020) rfl rfl, xW_tab (i := 7) rfl rfl, xW_tab (i := 1021) rfl rfl, by decide +kernel⟩
set_option maxRecDepth 100000 in
theorem g_mM_fees_140 : xcs mM_fees mM_isIn 140 3 := ⟨xW_tab (i := 1022) rfl rfl, xW_tab (i := 1023) rfl rfl, xW_tab (i := 7) rfl rfl, xW_tab (i := 1024) rfl rfl, by decide +kernel⟩
set_option maxRecDepth 100000 in
theorem g_mM_open_162 : xcs mM_open mM_isNode 162 1 := ⟨xW_tab (i := 1019) rfl rfl, xW_tab (i := 1020) rfl rfl, xW_tab (i := 7) rfl rfl, xW_tab (i := 1021) rfl rfl, by decide +kernel⟩
set_option maxRecDepth 100000 in
theorem g_mM_open_178 : xcs mM_open mM_cell 178 3 := ⟨xW_tab (i := 1057) rfl rfl, xW_tab (i := 1058) rfl rfl, xW_tab (i := 7) rfl rfl, xW_tab (i := 1059) rfl rfl, by decide +kernel⟩
set_option maxRecDepth 100000 in
theorem g_mM_promise_196 : xcv "ChannelNetModel" mM_promise mM_isChannel 196 1 := ⟨xW_tab (i := 1064) rfl rfl, xW_tab (i := 1066) rfl rfl, xW_sel (i := 24) rfl rfl, xW_tab (i := 1067) rfl rfl, by decide +kernel⟩
set_option maxRecDepth 100000 in
theorem g_mM_promise_199 : xcv "ChannelNetModel" mM_promise mM_sideOf 199 2 := ⟨xW_tab (i := 1068) rfl rfl, xW_tab (i := 1070) rfl rfl, xW_sel (i := 25) rfl rfl, xW_tab (i := 1071) rfl rfl, by decide +kernel⟩
set_option maxRecDepth 100000 in
theorem g_mM_promise_182 : xcv "ChannelNetModel" mM_promise mM_now 182 1 := ⟨xW_tab (i := 1072) rfl rfl, xW_tab (i := 1074) rfl rfl, xW_sel (i := 26) rfl rfl, xW_tab (i := 1075) rfl rfl, by decide +kernel⟩
set_option maxRecDepth 100000 in
theorem g_mM_promise_202 : xcs mM_promise mM_bits 202 1 := ⟨xW_tab (i := 1076) rfl rfl, xW_tab (i := 1077) rfl rfl, xW_tab (i := 7) rfl rfl, xW_tab (i := 1078) rfl rfl, by decide +kernel⟩
set_option maxRecDepth 100000 in
theorem g_mM_promise_205 : xcv "ChannelNetModel" mM_promise mM_hasState 205 1 := ⟨xW_tab (i := 1079) rfl rfl, xW_tab (i := 1081) rfl rfl, xW_sel (i := 27) rfl rfl, xW_tab (i := 1082) rfl rfl, by decide +kernel⟩
set_option maxRecDepth 100000 in
theorem g_mM_promise_208 : xcv "ChannelNetModel" mM_promise mM_balance 208 2 := ⟨xW_tab (i := 1083) rfl rfl, xW_tab (i := 1085) rfl rfl, xW_sel (i := 28) rfl rfl, xW_tab (i := 1086) rfl rfl, by decide +kernel⟩
set_option maxRecDepth 100000 in
theorem g_mM_promise_214 : xcv "ChannelNetModel" mM_promise mM_addPromise 214 5 := ⟨xW_tab (i := 1087) rfl rfl, xW_tab (i := 1089) rfl rfl, xW_sel (i := 29) rfl rfl, xW_tab (i := 1090) rfl rfl, by decide +kernel⟩
set_option maxRecDepth 100000 in
theorem g_mM_isChannel_140 : xcs mM_isChannel mM_isIn 140 3 := ⟨xW_tab (i := 1022) rfl rfl, xW_tab (i := 1023) rfl rfl, xW_tab (i := 7) rfl rfl, xW_tab (i := 1024) rfl rfl, by decide +kernel⟩
set_option maxRecDepth 100000 in
theorem g_mM_balance_178 : xcs mM_balance mM_cell 178 3 := ⟨xW_tab (i := 1057) rfl rfl, xW_tab (i := 1058) rfl rfl, xW_tab (i := 7) rfl rfl, xW_tab (i := 1059) rfl rfl, by decide +kernel⟩
set_option maxRecDepth 100000 in
theorem g_mM_addPromise_182 : xcv "ChannelNetModel" mM_addPromise mM_now 182 1 := ⟨xW_tab (i := 1072) rfl rfl, xW_tab (i := 1074) rfl rfl, xW_sel (i := 26) rfl rfl, xW_tab (i := 1075) rfl rfl, by decide +kernel⟩
set_option maxRecDepth 100000 in
theorem g_mM_addPromise_186 : xcv "ChannelNetModel" mM_addPromise mM_next 186 4 := ⟨xW_tab (i := 1091) rfl rfl, xW_tab (i := 1093) rfl rfl, xW_sel (i := 30) rfl rfl, xW_tab (i := 1094) rfl rfl, by decide +kernel⟩
set_option maxRecDepth 100000 in
theorem g_mM_next_178 : xcs mM_next mM_cell 178 3 := ⟨xW_tab (i := 1057) rfl rfl, xW_tab (i := 1058) rfl rfl, xW_tab (i := 7) rfl rfl, xW_tab (i := 1059) rfl rfl, by decide +kernel⟩
set_option maxRecDepth 100000 in
theorem g_mM_keep_158 : xcs mM_keep mM_lockOf 158 1 := ⟨xW_tab (i := 1014) rfl rfl, xW_tab (i := 1015) rfl rfl, xW_tab (i := 7) rfl rfl, xW_tab (i := 1016) rfl rfl, by decide +kernel⟩
set_option maxRecDepth 100000 in
theorem g_mM_keep_196 : xcv "ChannelNetModel" mM_keep mM_isChannel 196 1 := ⟨xW_tab (i := 1064) rfl rfl, xW_tab (i := 1066) rfl rfl, xW_sel (i := 24) rfl rfl, xW_tab (i := 1067) rfl rfl, by decide +kernel⟩
set_option maxRecDepth 100000 in
theorem g_mM_keep_182 : xcv "ChannelNetModel" mM_keep mM_now 182 1 := ⟨xW_tab (i := 1072) rfl rfl, xW_tab (i := 1074) rfl rfl, xW_sel (i := 26) rfl rfl, xW_tab (i := 1075) rfl rfl, by decide +kernel⟩
set_option maxRecDepth 100000 in
theorem g_mM_keep_218 : xcs mM_keep mM_hasBit 218 2 := ⟨xW_tab (i := 1099) rfl rfl, xW_tab (i := 1100) rfl rfl, xW_tab (i := 7) rfl rfl, xW_tab (i := 1101) rfl rfl, by decide +kernel⟩
set_option maxRecDepth 100000 in
theorem g_mM_keep_205 : xcv "ChannelNetModel" mM_keep mM_hasState 205 1 := ⟨xW_tab (i := 1079) rfl rfl, xW_tab (i := 1081) rfl rfl, xW_sel (i := 27) rfl rfl, xW_tab (i := 1082) rfl rfl, by decide +kernel⟩
set_option maxRecDepth 100000 in
theorem g_mM_keep_166 : xcv "ChannelNetModel" mM_keep mM_hasRoom 166 1 := ⟨xW_tab (i := 1025) rfl rfl, xW_tab (i := 1027) rfl rfl, xW_sel (i := 20) rfl rfl, xW_tab (i := 1028) rfl rfl, by decide +kernel⟩
set_option maxRecDepth 100000 in
theorem g_mM_keep_222 : xcv "ChannelNetModel" mM_keep mM_keepPromise 222 2 := ⟨xW_tab (i := 1102) rfl rfl, xW_tab (i := 1104) rfl rfl, xW_sel (i := 31) rfl rfl, xW_tab (i := 1105) rfl rfl, by decide +kernel⟩
set_option maxRecDepth 100000 in
theorem g_mM_keep_192 : xcv "ChannelNetModel" mM_keep mM_nodeOf 192 2 := ⟨xW_tab (i := 1107) rfl rfl, xW_tab (i := 1109) rfl rfl, xW_sel (i := 32) rfl rfl, xW_tab (i := 1110) rfl rfl, by decide +kernel⟩
set_option maxRecDepth 100000 in
theorem g_mM_keep_170 : xcv "ChannelNetModel" mM_keep mM_learn 170 2 := ⟨xW_tab (i := 1033) rfl rfl, xW_tab (i := 1035) rfl rfl, xW_sel (i := 22) rfl rfl, xW_tab (i := 1036) rfl rfl, by decide +kernel⟩
set_option maxRecDepth 100000 in
theorem g_mM_keepPromise_182 : xcv "ChannelNetModel" mM_keepPromise mM_now 182 1 := ⟨xW_tab (i := 1072) rfl rfl, xW_tab (i := 1074) rfl rfl, xW_sel (i := 26) rfl rfl, xW_tab (i := 1075) rfl rfl, by decide +kernel⟩
set_option maxRecDepth 100000 in
theorem g_mM_keepPromise_186 : xcv "ChannelNetModel" mM_keepPromise mM_next 186 4 := ⟨xW_tab (i := 1091) rfl rfl, xW_tab (i := 1093) rfl rfl, xW_sel (i := 30) rfl rfl, xW_tab (i := 1094) rfl rfl, by decide +kernel⟩
set_option maxRecDepth 100000 in
theorem g_mM_keepPromise_192 : xcv "ChannelNetModel" mM_keepPromise mM_nodeOf 192 2 := ⟨xW_tab (i := 1107) rfl rfl, xW_tab (i := 1109) rfl rfl, xW_sel (i := 32) rfl rfl, xW_tab (i := 1110) rfl rfl, by decide +kernel⟩
set_option maxRecDepth 100000 in
theorem g_mM_keepPromise_170 : xcv "ChannelNetModel" mM_keepPromise mM_learn 170 2 := ⟨xW_tab (i := 1033) rfl rfl, xW_tab (i := 1035) rfl rfl, xW_sel (i := 22) rfl rfl, xW_tab (i := 1036) rfl rfl, by decide +kernel⟩
set_option maxRecDepth 100000 in
theorem g_mM_drop_196 : xcv "ChannelNetModel" mM_drop mM_isChannel 196 1 := ⟨xW_tab (i := 1064) rfl rfl, xW_tab (i := 1066) rfl rfl, xW_sel (i := 24) rfl rfl, xW_tab (i := 1067) rfl rfl, by decide +kernel⟩
set_option maxRecDepth 100000 in
theorem g_mM_drop_182 : xcv "ChannelNetModel" mM_drop mM_now 182 1 := ⟨xW_tab (i := 1072) rfl rfl, xW_tab (i := 1074) rfl rfl, xW_sel (i := 26) rfl rfl, xW_tab (i := 1075) rfl rfl, by decide +kernel⟩
set_option maxRecDepth 100000 in
theorem g_mM_drop_218 : xcs mM_drop mM_hasBit 218 2 := ⟨xW_tab (i := 1099) rfl rfl, xW_tab (i := 1100) rfl rfl, xW_tab (i := 7) rfl rfl, xW_tab (i := 1101) rfl rfl, by decide +kernel⟩
set_option maxRecDepth 100000 in
theorem g_mM_drop_205 : xcv "ChannelNetModel" mM_drop mM_hasState 205 1 := ⟨xW_tab (i := 1079) rfl rfl, xW_tab (i := 1081) rfl rfl, xW_sel (i := 27) rfl rfl, xW_tab (i := 1082) rfl rfl, by decide +kernel⟩
set_option maxRecDepth 100000 in
theorem g_mM_drop_226 : xcv "ChannelNetModel" mM_drop mM_dropPromise 226 2 := ⟨xW_tab (i := 1115) rfl rfl, xW_tab (i := 1117) rfl rfl, xW_sel (i := 33) rfl rfl, xW_tab (i := 1118) rfl rfl, by decide +kernel⟩
set_option maxRecDepth 100000 in
theorem g_mM_dropPromise_182 : xcv "ChannelNetModel" mM_dropPromise mM_now 182 1 := ⟨xW_tab (i := 1072) rfl rfl, xW_tab (i := 1074) rfl rfl, xW_sel (i := 26) rfl rfl, xW_tab (i := 1075) rfl rfl, by decide +kernel⟩
set_option maxRecDepth 100000 in
theorem g_mM_dropPromise_186 : xcv "ChannelNetModel" mM_dropPromise mM_next 186 4 := ⟨xW_tab (i := 1091) rfl rfl, xW_tab (i := 1093) rfl rfl, xW_sel (i := 30) rfl rfl, xW_tab (i := 1094) rfl rfl, by decide +kernel⟩
set_option maxRecDepth 100000 in
theorem g_mM_close_196 : xcv "ChannelNetModel" mM_close mM_isChannel 196 1 := ⟨xW_tab (i := 1064) rfl rfl, xW_tab (i := 1066) rfl rfl, xW_sel (i := 24) rfl rfl, xW_tab (i := 1067) rfl rfl, by decide +kernel⟩
set_option maxRecDepth 100000 in
theorem g_mM_close_182 : xcv "ChannelNetModel" mM_close mM_now 182 1 := ⟨xW_tab (i := 1072) rfl rfl, xW_tab (i := 1074) rfl rfl, xW_sel (i := 26) rfl rfl, xW_tab (i := 1075) rfl rfl, by decide +kernel⟩
set_option maxRecDepth 100000 in
theorem g_mM_close_208 : xcv "ChannelNetModel" mM_close mM_balance 208 2 := ⟨xW_tab (i := 1083) rfl rfl, xW_tab (i := 1085) rfl rfl, xW_sel (i := 28) rfl rfl, xW_tab (i := 1086) rfl rfl, by decide +kernel⟩
set_option maxRecDepth 100000 in
theorem g_mM_close_229 : xcv "ChannelNetModel" mM_close mM_shut 229 1 := ⟨xW_tab (i := 1123) rfl rfl, xW_tab (i := 1125) rfl rfl, xW_sel (i := 34) rfl rfl, xW_tab (i := 1126) rfl rfl, by decide +kernel⟩
set_option maxRecDepth 100000 in
theorem g_mM_route_162 : xcs mM_route mM_isNode 162 1 := ⟨xW_tab (i := 1019) rfl rfl, xW_tab (i := 1020) rfl rfl, xW_tab (i := 7) rfl rfl, xW_tab (i := 1021) rfl rfl, by decide +kernel⟩
set_option maxRecDepth 100000 in
theorem g_mM_route_249 : xcv "ChannelNetModel" mM_route mM_isProper 249 3 := ⟨xW_tab (i := 1131) rfl rfl, xW_tab (i := 1133) rfl rfl, xW_sel (i := 35) rfl rfl, xW_tab (i := 1134) rfl rfl, by decide +kernel⟩
set_option maxRecDepth 100000 in
theorem g_mM_route_252 : xcv "ChannelNetModel" mM_route mM_search 252 3 := ⟨xW_tab (i := 1136) rfl rfl, xW_tab (i := 1138) rfl rfl, xW_sel (i := 36) rfl rfl, xW_tab (i := 1139) rfl rfl, by decide +kernel⟩
set_option maxRecDepth 100000 in
theorem g_mM_isProper_140 : xcs mM_isProper mM_isIn 140 3 := ⟨xW_tab (i := 1022) rfl rfl, xW_tab (i := 1023) rfl rfl, xW_tab (i := 7) rfl rfl, xW_tab (i := 1024) rfl rfl, by decide +kernel⟩
set_option maxRecDepth 100000 in
theorem g_mM_search_199 : xcv "ChannelNetModel" mM_search mM_sideOf 199 2 := ⟨xW_tab (i := 1068) rfl rfl, xW_tab (i := 1070) rfl rfl, xW_sel (i := 25) rfl rfl, xW_tab (i := 1071) rfl rfl, by decide +kernel⟩
set_option maxRecDepth 100000 in
theorem g_mM_search_192 : xcv "ChannelNetModel" mM_search mM_nodeOf 192 2 := ⟨xW_tab (i := 1107) rfl rfl, xW_tab (i := 1109) rfl rfl, xW_sel (i := 32) rfl rfl, xW_tab (i := 1110) rfl rfl, by decide +kernel⟩
set_option maxRecDepth 100000 in
theorem g_mM_search_239 : xcv "ChannelNetModel" mM_search mM_carries 239 3 := ⟨xW_tab (i := 1140) rfl rfl, xW_tab (i := 1142) rfl rfl, xW_sel (i := 37) rfl rfl, xW_tab (i := 1143) rfl rfl, by decide +kernel⟩
set_option maxRecDepth 100000 in
theorem g_mM_search_243 : xcv "ChannelNetModel" mM_search mM_isBetter 243 1 := ⟨xW_tab (i := 1144) rfl rfl, xW_tab (i := 1146) rfl rfl, xW_sel (i := 38) rfl rfl, xW_tab (i := 1147) rfl rfl, by decide +kernel⟩
set_option maxRecDepth 100000 in
theorem g_mM_carries_182 : xcv "ChannelNetModel" mM_carries mM_now 182 1 := ⟨xW_tab (i := 1072) rfl rfl, xW_tab (i := 1074) rfl rfl, xW_sel (i := 26) rfl rfl, xW_tab (i := 1075) rfl rfl, by decide +kernel⟩
set_option maxRecDepth 100000 in
theorem g_mM_carries_202 : xcs mM_carries mM_bits 202 1 := ⟨xW_tab (i := 1076) rfl rfl, xW_tab (i := 1077) rfl rfl, xW_tab (i := 7) rfl rfl, xW_tab (i := 1078) rfl rfl, by decide +kernel⟩
set_option maxRecDepth 100000 in
theorem g_mM_carries_208 : xcv "ChannelNetModel" mM_carries mM_balance 208 2 := ⟨xW_tab (i := 1083) rfl rfl, xW_tab (i := 1085) rfl rfl, xW_sel (i := 28) rfl rfl, xW_tab (i := 1086) rfl rfl, by decide +kernel⟩
set_option maxRecDepth 100000 in
theorem g_mM_hop_140 : xcs mM_hop mM_isIn 140 3 := ⟨xW_tab (i := 1022) rfl rfl, xW_tab (i := 1023) rfl rfl, xW_tab (i := 7) rfl rfl, xW_tab (i := 1024) rfl rfl, by decide +kernel⟩
set_option maxRecDepth 100000 in
theorem g_mM_pay_162 : xcs mM_pay mM_isNode 162 1 := ⟨xW_tab (i := 1019) rfl rfl, xW_tab (i := 1020) rfl rfl, xW_tab (i := 7) rfl rfl, xW_tab (i := 1021) rfl rfl, by decide +kernel⟩
set_option maxRecDepth 100000 in
theorem g_mM_pay_249 : xcv "ChannelNetModel" mM_pay mM_isProper 249 3 := ⟨xW_tab (i := 1131) rfl rfl, xW_tab (i := 1133) rfl rfl, xW_sel (i := 35) rfl rfl, xW_tab (i := 1134) rfl rfl, by decide +kernel⟩
set_option maxRecDepth 100000 in
theorem g_mM_pay_140 : xcs mM_pay mM_isIn 140 3 := ⟨xW_tab (i := 1022) rfl rfl, xW_tab (i := 1023) rfl rfl, xW_tab (i := 7) rfl rfl, xW_tab (i := 1024) rfl rfl, by decide +kernel⟩
set_option maxRecDepth 100000 in
theorem g_mM_pay_252 : xcv "ChannelNetModel" mM_pay mM_search 252 3 := ⟨xW_tab (i := 1136) rfl rfl, xW_tab (i := 1138) rfl rfl, xW_sel (i := 36) rfl rfl, xW_tab (i := 1139) rfl rfl, by decide +kernel⟩
set_option maxRecDepth 100000 in
theorem g_mM_pay_199 : xcv "ChannelNetModel" mM_pay mM_sideOf 199 2 := ⟨xW_tab (i := 1068) rfl rfl, xW_tab (i := 1070) rfl rfl, xW_sel (i := 25) rfl rfl, xW_tab (i := 1071) rfl rfl, by decide +kernel⟩
set_option maxRecDepth 100000 in
theorem g_mM_pay_192 : xcv "ChannelNetModel" mM_pay mM_nodeOf 192 2 := ⟨xW_tab (i := 1107) rfl rfl, xW_tab (i := 1109) rfl rfl, xW_sel (i := 32) rfl rfl, xW_tab (i := 1110) rfl rfl, by decide +kernel⟩
set_option maxRecDepth 100000 in
theorem g_mM_step_140 : xcs mM_step mM_isIn 140 3 := ⟨xW_tab (i := 1022) rfl rfl, xW_tab (i := 1023) rfl rfl, xW_tab (i := 7) rfl rfl, xW_tab (i := 1024) rfl rfl, by decide +kernel⟩
set_option maxRecDepth 100000 in
theorem g_mM_step_263 : xcv "ChannelNetModel" mM_step mM_forward 263 1 := ⟨xW_tab (i := 1162) rfl rfl, xW_tab (i := 1164) rfl rfl, xW_sel (i := 39) rfl rfl, xW_tab (i := 1165) rfl rfl, by decide +kernel⟩
set_option maxRecDepth 100000 in
theorem g_mM_step_267 : xcv "ChannelNetModel" mM_step mM_backward 267 1 := ⟨xW_tab (i := 1170) rfl rfl, xW_tab (i := 1172) rfl rfl, xW_sel (i := 41) rfl rfl, xW_tab (i := 1173) rfl rfl, by decide +kernel⟩
set_option maxRecDepth 100000 in
theorem g_mM_forward_174 : xcv "ChannelNetModel" mM_forward mM_isKnown 174 2 := ⟨xW_tab (i := 1045) rfl rfl, xW_tab (i := 1047) rfl rfl, xW_sel (i := 23) rfl rfl, xW_tab (i := 1048) rfl rfl, by decide +kernel⟩
set_option maxRecDepth 100000 in
theorem g_mM_forward_260 : xcv "ChannelNetModel" mM_forward mM_turn 260 2 := ⟨xW_tab (i := 1166) rfl rfl, xW_tab (i := 1168) rfl rfl, xW_sel (i := 40) rfl rfl, xW_tab (i := 1169) rfl rfl, by decide +kernel⟩
set_option maxRecDepth 100000 in
theorem g_mM_forward_199 : xcv "ChannelNetModel" mM_forward mM_sideOf 199 2 := ⟨xW_tab (i := 1068) rfl rfl, xW_tab (i := 1070) rfl rfl, xW_sel (i := 25) rfl rfl, xW_tab (i := 1071) rfl rfl, by decide +kernel⟩
set_option maxRecDepth 100000 in
theorem g_mM_forward_239 : xcv "ChannelNetModel" mM_forward mM_carries 239 3 := ⟨xW_tab (i := 1140) rfl rfl, xW_tab (i := 1142) rfl rfl, xW_sel (i := 37) rfl rfl, xW_tab (i := 1143) rfl rfl, by decide +kernel⟩
set_option maxRecDepth 100000 in
theorem g_mM_forward_205 : xcv "ChannelNetModel" mM_forward mM_hasState 205 1 := ⟨xW_tab (i := 1079) rfl rfl, xW_tab (i := 1081) rfl rfl, xW_sel (i := 27) rfl rfl, xW_tab (i := 1082) rfl rfl, by decide +kernel⟩
set_option maxRecDepth 100000 in
theorem g_mM_forward_214 : xcv "ChannelNetModel" mM_forward mM_addPromise 214 5 := ⟨xW_tab (i := 1087) rfl rfl, xW_tab (i := 1089) rfl rfl, xW_sel (i := 29) rfl rfl, xW_tab (i := 1090) rfl rfl, by decide +kernel⟩
set_option maxRecDepth 100000 in
theorem g_mM_backward_182 : xcv "ChannelNetModel" mM_backward mM_now 182 1 := ⟨xW_tab (i := 1072) rfl rfl, xW_tab (i := 1074) rfl rfl, xW_sel (i := 26) rfl rfl, xW_tab (i := 1075) rfl rfl, by decide +kernel⟩
set_option maxRecDepth 100000 in
theorem g_mM_backward_218 : xcs mM_backward mM_hasBit 218 2 := ⟨xW_tab (i := 1099) rfl rfl, xW_tab (i := 1100) rfl rfl, xW_tab (i := 7) rfl rfl, xW_tab (i := 1101) rfl rfl, by decide +kernel⟩
set_option maxRecDepth 100000 in
theorem g_mM_backward_205 : xcv "ChannelNetModel" mM_backward mM_hasState 205 1 := ⟨xW_tab (i := 1079) rfl rfl, xW_tab (i := 1081) rfl rfl, xW_sel (i := 27) rfl rfl, xW_tab (i := 1082) rfl rfl, by decide +kernel⟩
set_option maxRecDepth 100000 in
theorem g_mM_backward_222 : xcv "ChannelNetModel" mM_backward mM_keepPromise 222 2 := ⟨xW_tab (i := 1102) rfl rfl, xW_tab (i := 1104) rfl rfl, xW_sel (i := 31) rfl rfl, xW_tab (i := 1105) rfl rfl, by decide +kernel⟩
set_option maxRecDepth 100000 in
theorem g_mM_backward_226 : xcv "ChannelNetModel" mM_backward mM_dropPromise 226 2 := ⟨xW_tab (i := 1115) rfl rfl, xW_tab (i := 1117) rfl rfl, xW_sel (i := 33) rfl rfl, xW_tab (i := 1118) rfl rfl, by decide +kernel⟩
set_option maxRecDepth 100000 in
theorem g_mM_payment_140 : xcs mM_payment mM_isIn 140 3 := ⟨xW_tab (i := 1022) rfl rfl, xW_tab (i := 1023) rfl rfl, xW_tab (i := 7) rfl rfl, xW_tab (i := 1024) rfl rfl, by decide +kernel⟩
set_option maxRecDepth 100000 in
theorem g_mM_publish_196 : xcv "ChannelNetModel" mM_publish mM_isChannel 196 1 := ⟨xW_tab (i := 1064) rfl rfl, xW_tab (i := 1066) rfl rfl, xW_sel (i := 24) rfl rfl, xW_tab (i := 1067) rfl rfl, by decide +kernel⟩
set_option maxRecDepth 100000 in
theorem g_mM_publish_199 : xcv "ChannelNetModel" mM_publish mM_sideOf 199 2 := ⟨xW_tab (i := 1068) rfl rfl, xW_tab (i := 1070) rfl rfl, xW_sel (i := 25) rfl rfl, xW_tab (i := 1071) rfl rfl, by decide +kernel⟩
set_option maxRecDepth 100000 in
theorem g_mM_publish_140 : xcs mM_publish mM_isIn 140 3 := ⟨xW_tab (i := 1022) rfl rfl, xW_tab (i := 1023) rfl rfl, xW_tab (i := 7) rfl rfl, xW_tab (i := 1024) rfl rfl, by decide +kernel⟩
set_option maxRecDepth 100000 in
theorem g_mM_punish_196 : xcv "ChannelNetModel" mM_punish mM_isChannel 196 1 := ⟨xW_tab (i := 1064) rfl rfl, xW_tab (i := 1066) rfl rfl, xW_sel (i := 24) rfl rfl, xW_tab (i := 1067) rfl rfl, by decide +kernel⟩
set_option maxRecDepth 100000 in
theorem g_mM_punish_273 : xcv "ChannelNetModel" mM_punish mM_mayPunish 273 1 := ⟨xW_tab (i := 1186) rfl rfl, xW_tab (i := 1188) rfl rfl, xW_sel (i := 42) rfl rfl, xW_tab (i := 1189) rfl rfl, by decide +kernel⟩
set_option maxRecDepth 100000 in
theorem g_mM_punish_276 : xcv "ChannelNetModel" mM_punish mM_punished 276 1 := ⟨xW_tab (i := 1190) rfl rfl, xW_tab (i := 1192) rfl rfl, xW_sel (i := 43) rfl rfl, xW_tab (i := 1193) rfl rfl, by decide +kernel⟩
set_option maxRecDepth 100000 in
theorem g_mM_punish_270 : xcv "ChannelNetModel" mM_punish mM_other 270 1 := ⟨xW_tab (i := 1194) rfl rfl, xW_tab (i := 1196) rfl rfl, xW_sel (i := 44) rfl rfl, xW_tab (i := 1197) rfl rfl, by decide +kernel⟩
set_option maxRecDepth 100000 in
theorem g_mM_punished_270 : xcv "ChannelNetModel" mM_punished mM_other 270 1 := ⟨xW_tab (i := 1194) rfl rfl, xW_tab (i := 1196) rfl rfl, xW_sel (i := 44) rfl rfl, xW_tab (i := 1197) rfl rfl, by decide +kernel⟩
set_option maxRecDepth 100000 in
theorem g_mM_punished_229 : xcv "ChannelNetModel" mM_punished mM_shut 229 1 := ⟨xW_tab (i := 1123) rfl rfl, xW_tab (i := 1125) rfl rfl, xW_sel (i := 34) rfl rfl, xW_tab (i := 1126) rfl rfl, by decide +kernel⟩
set_option maxRecDepth 100000 in
theorem g_mM_other_199 : xcv "ChannelNetModel" mM_other mM_sideOf 199 2 := ⟨xW_tab (i := 1068) rfl rfl, xW_tab (i := 1070) rfl rfl, xW_sel (i := 25) rfl rfl, xW_tab (i := 1071) rfl rfl, by decide +kernel⟩
set_option maxRecDepth 100000 in
theorem g_mM_other_192 : xcv "ChannelNetModel" mM_other mM_nodeOf 192 2 := ⟨xW_tab (i := 1107) rfl rfl, xW_tab (i := 1109) rfl rfl, xW_sel (i := 32) rfl rfl, xW_tab (i := 1110) rfl rfl, by decide +kernel⟩
set_option maxRecDepth 100000 in
theorem g_mM_claim_158 : xcs mM_claim mM_lockOf 158 1 := ⟨xW_tab (i := 1014) rfl rfl, xW_tab (i := 1015) rfl rfl, xW_tab (i := 7) rfl rfl, xW_tab (i := 1016) rfl rfl, by decide +kernel⟩
set_option maxRecDepth 100000 in
theorem g_mM_claim_279 : xcv "ChannelNetModel" mM_claim mM_isLeft 279 2 := ⟨xW_tab (i := 1202) rfl rfl, xW_tab (i := 1204) rfl rfl, xW_sel (i := 45) rfl rfl, xW_tab (i := 1205) rfl rfl, by decide +kernel⟩
set_option maxRecDepth 100000 in
theorem g_mM_claim_273 : xcv "ChannelNetModel" mM_claim mM_mayPunish 273 1 := ⟨xW_tab (i := 1186) rfl rfl, xW_tab (i := 1188) rfl rfl, xW_sel (i := 42) rfl rfl, xW_tab (i := 1189) rfl rfl, by decide +kernel⟩
set_option maxRecDepth 100000 in
theorem g_mM_claim_166 : xcv "ChannelNetModel" mM_claim mM_hasRoom 166 1 := ⟨xW_tab (i := 1025) rfl rfl, xW_tab (i := 1027) rfl rfl, xW_sel (i := 20) rfl rfl, xW_tab (i := 1028) rfl rfl, by decide +kernel⟩
set_option maxRecDepth 100000 in
theorem g_mM_claim_170 : xcv "ChannelNetModel" mM_claim mM_learn 170 2 := ⟨xW_tab (i := 1033) rfl rfl, xW_tab (i := 1035) rfl rfl, xW_sel (i := 22) rfl rfl, xW_tab (i := 1036) rfl rfl, by decide +kernel⟩
set_option maxRecDepth 100000 in
theorem g_mM_claim_283 : xcv "ChannelNetModel" mM_claim mM_goes 283 3 := ⟨xW_tab (i := 1206) rfl rfl, xW_tab (i := 1208) rfl rfl, xW_sel (i := 46) rfl rfl, xW_tab (i := 1209) rfl rfl, by decide +kernel⟩
set_option maxRecDepth 100000 in
theorem g_mM_isLeft_196 : xcv "ChannelNetModel" mM_isLeft mM_isChannel 196 1 := ⟨xW_tab (i := 1064) rfl rfl, xW_tab (i := 1066) rfl rfl, xW_sel (i := 24) rfl rfl, xW_tab (i := 1067) rfl rfl, by decide +kernel⟩
set_option maxRecDepth 100000 in
theorem g_mM_isLeft_140 : xcs mM_isLeft mM_isIn 140 3 := ⟨xW_tab (i := 1022) rfl rfl, xW_tab (i := 1023) rfl rfl, xW_tab (i := 7) rfl rfl, xW_tab (i := 1024) rfl rfl, by decide +kernel⟩
set_option maxRecDepth 100000 in
theorem g_mM_isLeft_218 : xcs mM_isLeft mM_hasBit 218 2 := ⟨xW_tab (i := 1099) rfl rfl, xW_tab (i := 1100) rfl rfl, xW_tab (i := 7) rfl rfl, xW_tab (i := 1101) rfl rfl, by decide +kernel⟩
set_option maxRecDepth 100000 in
theorem g_mM_goes_192 : xcv "ChannelNetModel" mM_goes mM_nodeOf 192 2 := ⟨xW_tab (i := 1107) rfl rfl, xW_tab (i := 1109) rfl rfl, xW_sel (i := 32) rfl rfl, xW_tab (i := 1110) rfl rfl, by decide +kernel⟩
set_option maxRecDepth 100000 in
theorem g_mM_goes_229 : xcv "ChannelNetModel" mM_goes mM_shut 229 1 := ⟨xW_tab (i := 1123) rfl rfl, xW_tab (i := 1125) rfl rfl, xW_sel (i := 34) rfl rfl, xW_tab (i := 1126) rfl rfl, by decide +kernel⟩
set_option maxRecDepth 100000 in
theorem g_mM_takeBack_279 : xcv "ChannelNetModel" mM_takeBack mM_isLeft 279 2 := ⟨xW_tab (i := 1202) rfl rfl, xW_tab (i := 1204) rfl rfl, xW_sel (i := 45) rfl rfl, xW_tab (i := 1205) rfl rfl, by decide +kernel⟩
set_option maxRecDepth 100000 in
theorem g_mM_takeBack_273 : xcv "ChannelNetModel" mM_takeBack mM_mayPunish 273 1 := ⟨xW_tab (i := 1186) rfl rfl, xW_tab (i := 1188) rfl rfl, xW_sel (i := 42) rfl rfl, xW_tab (i := 1189) rfl rfl, by decide +kernel⟩
set_option maxRecDepth 100000 in
theorem g_mM_takeBack_283 : xcv "ChannelNetModel" mM_takeBack mM_goes 283 3 := ⟨xW_tab (i := 1206) rfl rfl, xW_tab (i := 1208) rfl rfl, xW_sel (i := 46) rfl rfl, xW_tab (i := 1209) rfl rfl, by decide +kernel⟩
set_option maxRecDepth 100000 in
theorem g_mM_settle_196 : xcv "ChannelNetModel" mM_settle mM_isChannel 196 1 := ⟨xW_tab (i := 1064) rfl rfl, xW_tab (i := 1066) rfl rfl, xW_sel (i := 24) rfl rfl, xW_tab (i := 1067) rfl rfl, by decide +kernel⟩
set_option maxRecDepth 100000 in
theorem g_mM_settle_178 : xcs mM_settle mM_cell 178 3 := ⟨xW_tab (i := 1057) rfl rfl, xW_tab (i := 1058) rfl rfl, xW_tab (i := 7) rfl rfl, xW_tab (i := 1059) rfl rfl, by decide +kernel⟩
set_option maxRecDepth 100000 in
theorem g_mM_settle_192 : xcv "ChannelNetModel" mM_settle mM_nodeOf 192 2 := ⟨xW_tab (i := 1107) rfl rfl, xW_tab (i := 1109) rfl rfl, xW_sel (i := 32) rfl rfl, xW_tab (i := 1110) rfl rfl, by decide +kernel⟩
set_option maxRecDepth 100000 in
theorem g_mM_settle_229 : xcv "ChannelNetModel" mM_settle mM_shut 229 1 := ⟨xW_tab (i := 1123) rfl rfl, xW_tab (i := 1125) rfl rfl, xW_sel (i := 34) rfl rfl, xW_tab (i := 1126) rfl rfl, by decide +kernel⟩
set_option maxRecDepth 100000 in
theorem g_mM_watch_162 : xcs mM_watch mM_isNode 162 1 := ⟨xW_tab (i := 1019) rfl rfl, xW_tab (i := 1020) rfl rfl, xW_tab (i := 7) rfl rfl, xW_tab (i := 1021) rfl rfl, by decide +kernel⟩
set_option maxRecDepth 100000 in
theorem g_mM_grow_140 : xcs mM_grow mM_isIn 140 3 := ⟨xW_tab (i := 1022) rfl rfl, xW_tab (i := 1023) rfl rfl, xW_tab (i := 7) rfl rfl, xW_tab (i := 1024) rfl rfl, by decide +kernel⟩
set_option maxRecDepth 100000 in
theorem g_mM_grow_273 : xcv "ChannelNetModel" mM_grow mM_mayPunish 273 1 := ⟨xW_tab (i := 1186) rfl rfl, xW_tab (i := 1188) rfl rfl, xW_sel (i := 42) rfl rfl, xW_tab (i := 1189) rfl rfl, by decide +kernel⟩
set_option maxRecDepth 100000 in
theorem g_mM_grow_270 : xcv "ChannelNetModel" mM_grow mM_other 270 1 := ⟨xW_tab (i := 1194) rfl rfl, xW_tab (i := 1196) rfl rfl, xW_sel (i := 44) rfl rfl, xW_tab (i := 1197) rfl rfl, by decide +kernel⟩
set_option maxRecDepth 100000 in
theorem g_mM_grow_276 : xcv "ChannelNetModel" mM_grow mM_punished 276 1 := ⟨xW_tab (i := 1190) rfl rfl, xW_tab (i := 1192) rfl rfl, xW_sel (i := 43) rfl rfl, xW_tab (i := 1193) rfl rfl, by decide +kernel⟩
set_option maxRecDepth 100000 in
theorem g_mM_coins_162 : xcs mM_coins mM_isNode 162 1 := ⟨xW_tab (i := 1019) rfl rfl, xW_tab (i := 1020) rfl rfl, xW_tab (i := 7) rfl rfl, xW_tab (i := 1021) rfl rfl, by decide +kernel⟩
set_option maxRecDepth 100000 in
theorem g_mM_channel_196 : xcv "ChannelNetModel" mM_channel mM_isChannel 196 1 := ⟨xW_tab (i := 1064) rfl rfl, xW_tab (i := 1066) rfl rfl, xW_sel (i := 24) rfl rfl, xW_tab (i := 1067) rfl rfl, by decide +kernel⟩
set_option maxRecDepth 100000 in
theorem g_mM_channel_140 : xcs mM_channel mM_isIn 140 3 := ⟨xW_tab (i := 1022) rfl rfl, xW_tab (i := 1023) rfl rfl, xW_tab (i := 7) rfl rfl, xW_tab (i := 1024) rfl rfl, by decide +kernel⟩
set_option maxRecDepth 100000 in
theorem g_mM_state_196 : xcv "ChannelNetModel" mM_state mM_isChannel 196 1 := ⟨xW_tab (i := 1064) rfl rfl, xW_tab (i := 1066) rfl rfl, xW_sel (i := 24) rfl rfl, xW_tab (i := 1067) rfl rfl, by decide +kernel⟩
set_option maxRecDepth 100000 in
theorem g_mM_state_140 : xcs mM_state mM_isIn 140 3 := ⟨xW_tab (i := 1022) rfl rfl, xW_tab (i := 1023) rfl rfl, xW_tab (i := 7) rfl rfl, xW_tab (i := 1024) rfl rfl, by decide +kernel⟩
set_option maxRecDepth 100000 in
theorem g_mM_state_178 : xcs mM_state mM_cell 178 3 := ⟨xW_tab (i := 1057) rfl rfl, xW_tab (i := 1058) rfl rfl, xW_tab (i := 7) rfl rfl, xW_tab (i := 1059) rfl rfl, by decide +kernel⟩
set_option maxRecDepth 100000 in
theorem g_mM_state_218 : xcs mM_state mM_hasBit 218 2 := ⟨xW_tab (i := 1099) rfl rfl, xW_tab (i := 1100) rfl rfl, xW_tab (i := 7) rfl rfl, xW_tab (i := 1101) rfl rfl, by decide +kernel⟩
set_option maxRecDepth 100000 in
theorem g_mM_made_196 : xcv "ChannelNetModel" mM_made mM_isChannel 196 1 := ⟨xW_tab (i := 1064) rfl rfl, xW_tab (i := 1066) rfl rfl, xW_sel (i := 24) rfl rfl, xW_tab (i := 1067) rfl rfl, by decide +kernel⟩
set_option maxRecDepth 100000 in
theorem g_mM_made_140 : xcs mM_made mM_isIn 140 3 := ⟨xW_tab (i := 1022) rfl rfl, xW_tab (i := 1023) rfl rfl, xW_tab (i := 7) rfl rfl, xW_tab (i := 1024) rfl rfl, by decide +kernel⟩
set_option maxRecDepth 100000 in
theorem g_mM_made_192 : xcv "ChannelNetModel" mM_made mM_nodeOf 192 2 := ⟨xW_tab (i := 1107) rfl rfl, xW_tab (i := 1109) rfl rfl, xW_sel (i := 32) rfl rfl, xW_tab (i := 1110) rfl rfl, by decide +kernel⟩
set_option maxRecDepth 100000 in
theorem g_mM_made_182 : xcv "ChannelNetModel" mM_made mM_now 182 1 := ⟨xW_tab (i := 1072) rfl rfl, xW_tab (i := 1074) rfl rfl, xW_sel (i := 26) rfl rfl, xW_tab (i := 1075) rfl rfl, by decide +kernel⟩
set_option maxRecDepth 100000 in
theorem g_mM_made_218 : xcs mM_made mM_hasBit 218 2 := ⟨xW_tab (i := 1099) rfl rfl, xW_tab (i := 1100) rfl rfl, xW_tab (i := 7) rfl rfl, xW_tab (i := 1101) rfl rfl, by decide +kernel⟩
