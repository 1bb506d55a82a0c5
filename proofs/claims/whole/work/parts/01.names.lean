/-- a private method of a class that the tables say can be made, by its rows of tables_1 -/
def lw_okq (q : MethodName × Nat) : Prop := (q.1.cls ≠ "java/lang/invoke/MethodHandle" ∧ q.1.cls ≠ "java/lang/invoke/VarHandle") ∧ Cond.instantiable q.1.cls q.2 ∈ tables_1 ∧ Cond.privateMethod q.1 ∈ tables_1 ∧ Cond.instanceMethod q.1 ∈ tables_1
theorem lw_p0 : lw_okq (⟨"QuietChannels", "putBytes", "(I)V"⟩, 11) := ⟨⟨by decide +kernel, by decide +kernel⟩, List.mem_of_getElem? (i := 23) (by decide +kernel), List.mem_of_getElem? (i := 258) (by decide +kernel), List.mem_of_getElem? (i := 259) (by decide +kernel)⟩
theorem lw_p1 : lw_okq (⟨"QuietChannels$Reader", "next", "()V"⟩, 14) := ⟨⟨by decide +kernel, by decide +kernel⟩, List.mem_of_getElem? (i := 266) (by decide +kernel), List.mem_of_getElem? (i := 325) (by decide +kernel), List.mem_of_getElem? (i := 326) (by decide +kernel)⟩
theorem lw_p2 : lw_okq (⟨"QuietChannels$Reader", "readLetters", "()V"⟩, 14) := ⟨⟨by decide +kernel, by decide +kernel⟩, List.mem_of_getElem? (i := 266) (by decide +kernel), List.mem_of_getElem? (i := 329) (by decide +kernel), List.mem_of_getElem? (i := 330) (by decide +kernel)⟩
theorem lw_p3 : lw_okq (⟨"QuietChannels$Reader", "readDigits", "()V"⟩, 14) := ⟨⟨by decide +kernel, by decide +kernel⟩, List.mem_of_getElem? (i := 266) (by decide +kernel), List.mem_of_getElem? (i := 333) (by decide +kernel), List.mem_of_getElem? (i := 334) (by decide +kernel)⟩
theorem lw_p4 : lw_okq (⟨"QuietChannels$Reader", "readLine", "()V"⟩, 14) := ⟨⟨by decide +kernel, by decide +kernel⟩, List.mem_of_getElem? (i := 266) (by decide +kernel), List.mem_of_getElem? (i := 338) (by decide +kernel), List.mem_of_getElem? (i := 339) (by decide +kernel)⟩
theorem lw_p5 : lw_okq (⟨"QuietChannels$Reader", "readBand", "()V"⟩, 14) := ⟨⟨by decide +kernel, by decide +kernel⟩, List.mem_of_getElem? (i := 266) (by decide +kernel), List.mem_of_getElem? (i := 342) (by decide +kernel), List.mem_of_getElem? (i := 343) (by decide +kernel)⟩
theorem lw_p6 : lw_okq (⟨"QuietChannels$Reader", "fail", "(I)V"⟩, 14) := ⟨⟨by decide +kernel, by decide +kernel⟩, List.mem_of_getElem? (i := 266) (by decide +kernel), List.mem_of_getElem? (i := 346) (by decide +kernel), List.mem_of_getElem? (i := 347) (by decide +kernel)⟩
theorem lw_p7 : lw_okq (⟨"QuietChannels$Reader", "tellOnce", "(I)V"⟩, 14) := ⟨⟨by decide +kernel, by decide +kernel⟩, List.mem_of_getElem? (i := 266) (by decide +kernel), List.mem_of_getElem? (i := 350) (by decide +kernel), List.mem_of_getElem? (i := 351) (by decide +kernel)⟩
theorem lw_p8 : lw_okq (⟨"QuietChannels$Reader", "takeNumber", "(II)I"⟩, 14) := ⟨⟨by decide +kernel, by decide +kernel⟩, List.mem_of_getElem? (i := 266) (by decide +kernel), List.mem_of_getElem? (i := 354) (by decide +kernel), List.mem_of_getElem? (i := 355) (by decide +kernel)⟩
theorem lw_p9 : lw_okq (⟨"QuietChannels$Reader", "readUser", "()V"⟩, 14) := ⟨⟨by decide +kernel, by decide +kernel⟩, List.mem_of_getElem? (i := 266) (by decide +kernel), List.mem_of_getElem? (i := 358) (by decide +kernel), List.mem_of_getElem? (i := 359) (by decide +kernel)⟩
theorem lw_p10 : lw_okq (⟨"QuietChannels$Reader", "takeName", "()I"⟩, 14) := ⟨⟨by decide +kernel, by decide +kernel⟩, List.mem_of_getElem? (i := 266) (by decide +kernel), List.mem_of_getElem? (i := 362) (by decide +kernel), List.mem_of_getElem? (i := 363) (by decide +kernel)⟩
theorem lw_p11 : lw_okq (⟨"QuietChannels$Reader", "readFixed", "()V"⟩, 14) := ⟨⟨by decide +kernel, by decide +kernel⟩, List.mem_of_getElem? (i := 266) (by decide +kernel), List.mem_of_getElem? (i := 373) (by decide +kernel), List.mem_of_getElem? (i := 374) (by decide +kernel)⟩
theorem lw_p12 : lw_okq (⟨"QuietChannels$Reader", "takeUser", "()I"⟩, 14) := ⟨⟨by decide +kernel, by decide +kernel⟩, List.mem_of_getElem? (i := 266) (by decide +kernel), List.mem_of_getElem? (i := 377) (by decide +kernel), List.mem_of_getElem? (i := 378) (by decide +kernel)⟩
theorem lw_p13 : lw_okq (⟨"QuietChannels$Reader", "readBlock", "()V"⟩, 14) := ⟨⟨by decide +kernel, by decide +kernel⟩, List.mem_of_getElem? (i := 266) (by decide +kernel), List.mem_of_getElem? (i := 381) (by decide +kernel), List.mem_of_getElem? (i := 382) (by decide +kernel)⟩
theorem lw_p14 : lw_okq (⟨"QuietChannels$Reader", "readLink", "()V"⟩, 14) := ⟨⟨by decide +kernel, by decide +kernel⟩, List.mem_of_getElem? (i := 266) (by decide +kernel), List.mem_of_getElem? (i := 385) (by decide +kernel), List.mem_of_getElem? (i := 386) (by decide +kernel)⟩
theorem lw_p15 : lw_okq (⟨"QuietChannels$Reader", "readSlots", "()V"⟩, 14) := ⟨⟨by decide +kernel, by decide +kernel⟩, List.mem_of_getElem? (i := 266) (by decide +kernel), List.mem_of_getElem? (i := 389) (by decide +kernel), List.mem_of_getElem? (i := 390) (by decide +kernel)⟩
def lw_privs_1 : List (MethodName × Nat) := [(⟨"QuietChannels", "putBytes", "(I)V"⟩, 11), (⟨"QuietChannels$Reader", "next", "()V"⟩, 14), (⟨"QuietChannels$Reader", "readLetters", "()V"⟩, 14), (⟨"QuietChannels$Reader", "readDigits", "()V"⟩, 14), (⟨"QuietChannels$Reader", "readLine", "()V"⟩, 14), (⟨"QuietChannels$Reader", "readBand", "()V"⟩, 14), (⟨"QuietChannels$Reader", "fail", "(I)V"⟩, 14), (⟨"QuietChannels$Reader", "tellOnce", "(I)V"⟩, 14), (⟨"QuietChannels$Reader", "takeNumber", "(II)I"⟩, 14), (⟨"QuietChannels$Reader", "readUser", "()V"⟩, 14), (⟨"QuietChannels$Reader", "takeName", "()I"⟩, 14), (⟨"QuietChannels$Reader", "readFixed", "()V"⟩, 14), (⟨"QuietChannels$Reader", "takeUser", "()I"⟩, 14), (⟨"QuietChannels$Reader", "readBlock", "()V"⟩, 14), (⟨"QuietChannels$Reader", "readLink", "()V"⟩, 14), (⟨"QuietChannels$Reader", "readSlots", "()V"⟩, 14)]
theorem lw_r1 : ∀ q ∈ lw_privs_1, lw_okq q := List.forall_mem_cons.mpr ⟨lw_p0, List.forall_mem_cons.mpr ⟨lw_p1, List.forall_mem_cons.mpr ⟨lw_p2, List.forall_mem_cons.mpr ⟨lw_p3, List.forall_mem_cons.mpr ⟨lw_p4, List.forall_mem_cons.mpr ⟨lw_p5, List.forall_mem_cons.mpr ⟨lw_p6, List.forall_mem_cons.mpr ⟨lw_p7, List.forall_mem_cons.mpr ⟨lw_p8, List.forall_mem_cons.mpr ⟨lw_p9, List.forall_mem_cons.mpr ⟨lw_p10, List.forall_mem_cons.mpr ⟨lw_p11, List.forall_mem_cons.mpr ⟨lw_p12, List.forall_mem_cons.mpr ⟨lw_p13, List.forall_mem_cons.mpr ⟨lw_p14, List.forall_mem_cons.mpr ⟨lw_p15, fun _ h => absurd h List.not_mem_nil⟩⟩⟩⟩⟩⟩⟩⟩⟩⟩⟩⟩⟩⟩⟩⟩
theorem lw_p16 : lw_okq (⟨"QuietChannels$Reader", "endLine", "()V"⟩, 14) := ⟨⟨by decide +kernel, by decide +kernel⟩, List.mem_of_getElem? (i := 266) (by decide +kernel), List.mem_of_getElem? (i := 394) (by decide +kernel), List.mem_of_getElem? (i := 395) (by decide +kernel)⟩
theorem lw_p17 : lw_okq (⟨"QuietChannels$History", "dropOldest", "()V"⟩, 2) := ⟨⟨by decide +kernel, by decide +kernel⟩, List.mem_of_getElem? (i := 184) (by decide +kernel), List.mem_of_getElem? (i := 423) (by decide +kernel), List.mem_of_getElem? (i := 424) (by decide +kernel)⟩
theorem lw_p18 : lw_okq (⟨"QuietChannels", "planAll", "()I"⟩, 11) := ⟨⟨by decide +kernel, by decide +kernel⟩, List.mem_of_getElem? (i := 23) (by decide +kernel), List.mem_of_getElem? (i := 454) (by decide +kernel), List.mem_of_getElem? (i := 455) (by decide +kernel)⟩
theorem lw_p19 : lw_okq (⟨"QuietChannels$Search", "untune", "(LQuietChannels$Scene;I)V"⟩, 3) := ⟨⟨by decide +kernel, by decide +kernel⟩, List.mem_of_getElem? (i := 167) (by decide +kernel), List.mem_of_getElem? (i := 483) (by decide +kernel), List.mem_of_getElem? (i := 484) (by decide +kernel)⟩
theorem lw_p20 : lw_okq (⟨"QuietChannels$Products", "gather", "(LQuietChannels$Scene;Z)V"⟩, 7) := ⟨⟨by decide +kernel, by decide +kernel⟩, List.mem_of_getElem? (i := 134) (by decide +kernel), List.mem_of_getElem? (i := 511) (by decide +kernel), List.mem_of_getElem? (i := 512) (by decide +kernel)⟩
theorem lw_p21 : lw_okq (⟨"QuietChannels$Products", "gatherCrew", "(LQuietChannels$Scene;I)V"⟩, 7) := ⟨⟨by decide +kernel, by decide +kernel⟩, List.mem_of_getElem? (i := 134) (by decide +kernel), List.mem_of_getElem? (i := 525) (by decide +kernel), List.mem_of_getElem? (i := 526) (by decide +kernel)⟩
theorem lw_p22 : lw_okq (⟨"QuietChannels$Products", "gatherSort", "(LQuietChannels$Scene;I)V"⟩, 7) := ⟨⟨by decide +kernel, by decide +kernel⟩, List.mem_of_getElem? (i := 134) (by decide +kernel), List.mem_of_getElem? (i := 535) (by decide +kernel), List.mem_of_getElem? (i := 536) (by decide +kernel)⟩
theorem lw_p23 : lw_okq (⟨"QuietChannels$Products", "add", "(LQuietChannels$Scene;IIII)V"⟩, 7) := ⟨⟨by decide +kernel, by decide +kernel⟩, List.mem_of_getElem? (i := 134) (by decide +kernel), List.mem_of_getElem? (i := 545) (by decide +kernel), List.mem_of_getElem? (i := 546) (by decide +kernel)⟩
theorem lw_p24 : lw_okq (⟨"QuietChannels$Products", "levelOf", "(LQuietChannels$Scene;IIII)I"⟩, 7) := ⟨⟨by decide +kernel, by decide +kernel⟩, List.mem_of_getElem? (i := 134) (by decide +kernel), List.mem_of_getElem? (i := 549) (by decide +kernel), List.mem_of_getElem? (i := 550) (by decide +kernel)⟩
theorem lw_p25 : lw_okq (⟨"QuietChannels$Products", "mayStrike", "(LQuietChannels$Scene;II)Z"⟩, 7) := ⟨⟨by decide +kernel, by decide +kernel⟩, List.mem_of_getElem? (i := 134) (by decide +kernel), List.mem_of_getElem? (i := 559) (by decide +kernel), List.mem_of_getElem? (i := 560) (by decide +kernel)⟩
theorem lw_p26 : lw_okq (⟨"QuietChannels", "adoptTrial", "()V"⟩, 11) := ⟨⟨by decide +kernel, by decide +kernel⟩, List.mem_of_getElem? (i := 23) (by decide +kernel), List.mem_of_getElem? (i := 564) (by decide +kernel), List.mem_of_getElem? (i := 565) (by decide +kernel)⟩
theorem lw_p27 : lw_okq (⟨"QuietChannels", "findMend", "()I"⟩, 11) := ⟨⟨by decide +kernel, by decide +kernel⟩, List.mem_of_getElem? (i := 23) (by decide +kernel), List.mem_of_getElem? (i := 573) (by decide +kernel), List.mem_of_getElem? (i := 574) (by decide +kernel)⟩
theorem lw_p28 : lw_okq (⟨"QuietChannels$Products", "share", "(II)I"⟩, 7) := ⟨⟨by decide +kernel, by decide +kernel⟩, List.mem_of_getElem? (i := 134) (by decide +kernel), List.mem_of_getElem? (i := 637) (by decide +kernel), List.mem_of_getElem? (i := 638) (by decide +kernel)⟩
theorem lw_p29 : lw_okq (⟨"QuietChannels$Products", "strikesUser", "(II)Z"⟩, 7) := ⟨⟨by decide +kernel, by decide +kernel⟩, List.mem_of_getElem? (i := 134) (by decide +kernel), List.mem_of_getElem? (i := 659) (by decide +kernel), List.mem_of_getElem? (i := 660) (by decide +kernel)⟩
theorem lw_p30 : lw_okq (⟨"QuietChannels$Products", "strikesMadeBy", "(I)I"⟩, 7) := ⟨⟨by decide +kernel, by decide +kernel⟩, List.mem_of_getElem? (i := 134) (by decide +kernel), List.mem_of_getElem? (i := 703) (by decide +kernel), List.mem_of_getElem? (i := 704) (by decide +kernel)⟩
theorem lw_p31 : lw_okq (⟨"QuietChannels$Products", "isIn", "(II)Z"⟩, 7) := ⟨⟨by decide +kernel, by decide +kernel⟩, List.mem_of_getElem? (i := 134) (by decide +kernel), List.mem_of_getElem? (i := 707) (by decide +kernel), List.mem_of_getElem? (i := 708) (by decide +kernel)⟩
def lw_privs_2 : List (MethodName × Nat) := [(⟨"QuietChannels$Reader", "endLine", "()V"⟩, 14), (⟨"QuietChannels$History", "dropOldest", "()V"⟩, 2), (⟨"QuietChannels", "planAll", "()I"⟩, 11), (⟨"QuietChannels$Search", "untune", "(LQuietChannels$Scene;I)V"⟩, 3), (⟨"QuietChannels$Products", "gather", "(LQuietChannels$Scene;Z)V"⟩, 7), (⟨"QuietChannels$Products", "gatherCrew", "(LQuietChannels$Scene;I)V"⟩, 7), (⟨"QuietChannels$Products", "gatherSort", "(LQuietChannels$Scene;I)V"⟩, 7), (⟨"QuietChannels$Products", "add", "(LQuietChannels$Scene;IIII)V"⟩, 7), (⟨"QuietChannels$Products", "levelOf", "(LQuietChannels$Scene;IIII)I"⟩, 7), (⟨"QuietChannels$Products", "mayStrike", "(LQuietChannels$Scene;II)Z"⟩, 7), (⟨"QuietChannels", "adoptTrial", "()V"⟩, 11), (⟨"QuietChannels", "findMend", "()I"⟩, 11), (⟨"QuietChannels$Products", "share", "(II)I"⟩, 7), (⟨"QuietChannels$Products", "strikesUser", "(II)Z"⟩, 7), (⟨"QuietChannels$Products", "strikesMadeBy", "(I)I"⟩, 7), (⟨"QuietChannels$Products", "isIn", "(II)Z"⟩, 7)]
theorem lw_r2 : ∀ q ∈ lw_privs_2, lw_okq q := List.forall_mem_cons.mpr ⟨lw_p16, List.forall_mem_cons.mpr ⟨lw_p17, List.forall_mem_cons.mpr ⟨lw_p18, List.forall_mem_cons.mpr ⟨lw_p19, List.forall_mem_cons.mpr ⟨lw_p20, List.forall_mem_cons.mpr ⟨lw_p21, List.forall_mem_cons.mpr ⟨lw_p22, List.forall_mem_cons.mpr ⟨lw_p23, List.forall_mem_cons.mpr ⟨lw_p24, List.forall_mem_cons.mpr ⟨lw_p25, List.forall_mem_cons.mpr ⟨lw_p26, List.forall_mem_cons.mpr ⟨lw_p27, List.forall_mem_cons.mpr ⟨lw_p28, List.forall_mem_cons.mpr ⟨lw_p29, List.forall_mem_cons.mpr ⟨lw_p30, List.forall_mem_cons.mpr ⟨lw_p31, fun _ h => absurd h List.not_mem_nil⟩⟩⟩⟩⟩⟩⟩⟩⟩⟩⟩⟩⟩⟩⟩⟩
theorem lw_p32 : lw_okq (⟨"QuietChannels", "fitsOnTrial", "(II)Z"⟩, 11) := ⟨⟨by decide +kernel, by decide +kernel⟩, List.mem_of_getElem? (i := 23) (by decide +kernel), List.mem_of_getElem? (i := 751) (by decide +kernel), List.mem_of_getElem? (i := 752) (by decide +kernel)⟩
theorem lw_p33 : lw_okq (⟨"QuietChannels", "trouble", "(LQuietChannels$Scene;)I"⟩, 11) := ⟨⟨by decide +kernel, by decide +kernel⟩, List.mem_of_getElem? (i := 23) (by decide +kernel), List.mem_of_getElem? (i := 771) (by decide +kernel), List.mem_of_getElem? (i := 772) (by decide +kernel)⟩
theorem lw_p34 : lw_okq (⟨"QuietChannels", "troubleOfSwap", "(II)I"⟩, 11) := ⟨⟨by decide +kernel, by decide +kernel⟩, List.mem_of_getElem? (i := 23) (by decide +kernel), List.mem_of_getElem? (i := 783) (by decide +kernel), List.mem_of_getElem? (i := 784) (by decide +kernel)⟩
theorem lw_p35 : lw_okq (⟨"QuietChannels", "turnDown", "()I"⟩, 11) := ⟨⟨by decide +kernel, by decide +kernel⟩, List.mem_of_getElem? (i := 23) (by decide +kernel), List.mem_of_getElem? (i := 803) (by decide +kernel), List.mem_of_getElem? (i := 804) (by decide +kernel)⟩
theorem lw_p36 : lw_okq (⟨"QuietChannels", "growTrial", "(II)I"⟩, 11) := ⟨⟨by decide +kernel, by decide +kernel⟩, List.mem_of_getElem? (i := 23) (by decide +kernel), List.mem_of_getElem? (i := 841) (by decide +kernel), List.mem_of_getElem? (i := 842) (by decide +kernel)⟩
theorem lw_p37 : lw_okq (⟨"QuietChannels", "loseOnTrial", "(I)I"⟩, 11) := ⟨⟨by decide +kernel, by decide +kernel⟩, List.mem_of_getElem? (i := 23) (by decide +kernel), List.mem_of_getElem? (i := 851) (by decide +kernel), List.mem_of_getElem? (i := 852) (by decide +kernel)⟩
theorem lw_p38 : lw_okq (⟨"java/lang/Throwable", "fillInStackTrace", "(I)Ljava/lang/Throwable;"⟩, 6) := ⟨⟨by decide +kernel, by decide +kernel⟩, List.mem_of_getElem? (i := 901) (by decide +kernel), List.mem_of_getElem? (i := 899) (by decide +kernel), List.mem_of_getElem? (i := 900) (by decide +kernel)⟩
theorem lw_p39 : lw_okq (⟨"QuietChannelsModel", "freshText", "()V"⟩, 46) := ⟨⟨by decide +kernel, by decide +kernel⟩, List.mem_of_getElem? (i := 948) (by decide +kernel), List.mem_of_getElem? (i := 954) (by decide +kernel), List.mem_of_getElem? (i := 955) (by decide +kernel)⟩
theorem lw_p40 : lw_okq (⟨"QuietChannelsModel", "reads", "(II)V"⟩, 46) := ⟨⟨by decide +kernel, by decide +kernel⟩, List.mem_of_getElem? (i := 948) (by decide +kernel), List.mem_of_getElem? (i := 958) (by decide +kernel), List.mem_of_getElem? (i := 959) (by decide +kernel)⟩
theorem lw_p41 : lw_okq (⟨"QuietChannelsModel", "takeText", "()V"⟩, 46) := ⟨⟨by decide +kernel, by decide +kernel⟩, List.mem_of_getElem? (i := 948) (by decide +kernel), List.mem_of_getElem? (i := 962) (by decide +kernel), List.mem_of_getElem? (i := 963) (by decide +kernel)⟩
theorem lw_p42 : lw_okq (⟨"QuietChannelsModel", "reading", "(I)I"⟩, 46) := ⟨⟨by decide +kernel, by decide +kernel⟩, List.mem_of_getElem? (i := 948) (by decide +kernel), List.mem_of_getElem? (i := 966) (by decide +kernel), List.mem_of_getElem? (i := 967) (by decide +kernel)⟩
theorem lw_p43 : lw_okq (⟨"QuietChannelsModel", "begins", "()V"⟩, 46) := ⟨⟨by decide +kernel, by decide +kernel⟩, List.mem_of_getElem? (i := 948) (by decide +kernel), List.mem_of_getElem? (i := 970) (by decide +kernel), List.mem_of_getElem? (i := 971) (by decide +kernel)⟩
theorem lw_p44 : lw_okq (⟨"QuietChannelsModel", "users", "()I"⟩, 46) := ⟨⟨by decide +kernel, by decide +kernel⟩, List.mem_of_getElem? (i := 948) (by decide +kernel), List.mem_of_getElem? (i := 974) (by decide +kernel), List.mem_of_getElem? (i := 975) (by decide +kernel)⟩
theorem lw_p45 : lw_okq (⟨"QuietChannelsModel", "asTold", "()V"⟩, 46) := ⟨⟨by decide +kernel, by decide +kernel⟩, List.mem_of_getElem? (i := 948) (by decide +kernel), List.mem_of_getElem? (i := 978) (by decide +kernel), List.mem_of_getElem? (i := 979) (by decide +kernel)⟩
theorem lw_p46 : lw_okq (⟨"QuietChannelsModel", "readText", "(I)V"⟩, 46) := ⟨⟨by decide +kernel, by decide +kernel⟩, List.mem_of_getElem? (i := 948) (by decide +kernel), List.mem_of_getElem? (i := 1134) (by decide +kernel), List.mem_of_getElem? (i := 1135) (by decide +kernel)⟩
theorem lw_p47 : lw_okq (⟨"QuietChannelsModel", "token", "()V"⟩, 46) := ⟨⟨by decide +kernel, by decide +kernel⟩, List.mem_of_getElem? (i := 948) (by decide +kernel), List.mem_of_getElem? (i := 1138) (by decide +kernel), List.mem_of_getElem? (i := 1139) (by decide +kernel)⟩
def lw_privs_3 : List (MethodName × Nat) := [(⟨"QuietChannels", "fitsOnTrial", "(II)Z"⟩, 11), (⟨"QuietChannels", "trouble", "(LQuietChannels$Scene;)I"⟩, 11), (⟨"QuietChannels", "troubleOfSwap", "(II)I"⟩, 11), (⟨"QuietChannels", "turnDown", "()I"⟩, 11), (⟨"QuietChannels", "growTrial", "(II)I"⟩, 11), (⟨"QuietChannels", "loseOnTrial", "(I)I"⟩, 11), (⟨"java/lang/Throwable", "fillInStackTrace", "(I)Ljava/lang/Throwable;"⟩, 6), (⟨"QuietChannelsModel", "freshText", "()V"⟩, 46), (⟨"QuietChannelsModel", "reads", "(II)V"⟩, 46), (⟨"QuietChannelsModel", "takeText", "()V"⟩, 46), (⟨"QuietChannelsModel", "reading", "(I)I"⟩, 46), (⟨"QuietChannelsModel", "begins", "()V"⟩, 46), (⟨"QuietChannelsModel", "users", "()I"⟩, 46), (⟨"QuietChannelsModel", "asTold", "()V"⟩, 46), (⟨"QuietChannelsModel", "readText", "(I)V"⟩, 46), (⟨"QuietChannelsModel", "token", "()V"⟩, 46)]
theorem lw_r3 : ∀ q ∈ lw_privs_3, lw_okq q := List.forall_mem_cons.mpr ⟨lw_p32, List.forall_mem_cons.mpr ⟨lw_p33, List.forall_mem_cons.mpr ⟨lw_p34, List.forall_mem_cons.mpr ⟨lw_p35, List.forall_mem_cons.mpr ⟨lw_p36, List.forall_mem_cons.mpr ⟨lw_p37, List.forall_mem_cons.mpr ⟨lw_p38, List.forall_mem_cons.mpr ⟨lw_p39, List.forall_mem_cons.mpr ⟨lw_p40, List.forall_mem_cons.mpr ⟨lw_p41, List.forall_mem_cons.mpr ⟨lw_p42, List.forall_mem_cons.mpr ⟨lw_p43, List.forall_mem_cons.mpr ⟨lw_p44, List.forall_mem_cons.mpr ⟨lw_p45, List.forall_mem_cons.mpr ⟨lw_p46, List.forall_mem_cons.mpr ⟨lw_p47, fun _ h => absurd h List.not_mem_nil⟩⟩⟩⟩⟩⟩⟩⟩⟩⟩⟩⟩⟩⟩⟩⟩
theorem lw_p48 : lw_okq (⟨"QuietChannelsModel", "here", "()I"⟩, 46) := ⟨⟨by decide +kernel, by decide +kernel⟩, List.mem_of_getElem? (i := 948) (by decide +kernel), List.mem_of_getElem? (i := 1142) (by decide +kernel), List.mem_of_getElem? (i := 1143) (by decide +kernel)⟩
theorem lw_p49 : lw_okq (⟨"QuietChannelsModel", "wordHere", "()I"⟩, 46) := ⟨⟨by decide +kernel, by decide +kernel⟩, List.mem_of_getElem? (i := 948) (by decide +kernel), List.mem_of_getElem? (i := 1149) (by decide +kernel), List.mem_of_getElem? (i := 1150) (by decide +kernel)⟩
theorem lw_p50 : lw_okq (⟨"QuietChannelsModel", "nameHere", "()V"⟩, 46) := ⟨⟨by decide +kernel, by decide +kernel⟩, List.mem_of_getElem? (i := 948) (by decide +kernel), List.mem_of_getElem? (i := 1202) (by decide +kernel), List.mem_of_getElem? (i := 1203) (by decide +kernel)⟩
theorem lw_p51 : lw_okq (⟨"QuietChannelsModel", "readLine", "()V"⟩, 46) := ⟨⟨by decide +kernel, by decide +kernel⟩, List.mem_of_getElem? (i := 948) (by decide +kernel), List.mem_of_getElem? (i := 1210) (by decide +kernel), List.mem_of_getElem? (i := 1211) (by decide +kernel)⟩
theorem lw_p52 : lw_okq (⟨"QuietChannelsModel", "wrong", "(I)V"⟩, 46) := ⟨⟨by decide +kernel, by decide +kernel⟩, List.mem_of_getElem? (i := 948) (by decide +kernel), List.mem_of_getElem? (i := 1214) (by decide +kernel), List.mem_of_getElem? (i := 1215) (by decide +kernel)⟩
theorem lw_p53 : lw_okq (⟨"QuietChannelsModel", "readBand", "()V"⟩, 46) := ⟨⟨by decide +kernel, by decide +kernel⟩, List.mem_of_getElem? (i := 948) (by decide +kernel), List.mem_of_getElem? (i := 1218) (by decide +kernel), List.mem_of_getElem? (i := 1219) (by decide +kernel)⟩
theorem lw_p54 : lw_okq (⟨"QuietChannelsModel", "readOnce", "(IIII)V"⟩, 46) := ⟨⟨by decide +kernel, by decide +kernel⟩, List.mem_of_getElem? (i := 948) (by decide +kernel), List.mem_of_getElem? (i := 1222) (by decide +kernel), List.mem_of_getElem? (i := 1223) (by decide +kernel)⟩
theorem lw_p55 : lw_okq (⟨"QuietChannelsModel", "once", "(I)V"⟩, 46) := ⟨⟨by decide +kernel, by decide +kernel⟩, List.mem_of_getElem? (i := 948) (by decide +kernel), List.mem_of_getElem? (i := 1226) (by decide +kernel), List.mem_of_getElem? (i := 1227) (by decide +kernel)⟩
theorem lw_p56 : lw_okq (⟨"QuietChannelsModel", "goOn", "()V"⟩, 46) := ⟨⟨by decide +kernel, by decide +kernel⟩, List.mem_of_getElem? (i := 948) (by decide +kernel), List.mem_of_getElem? (i := 1230) (by decide +kernel), List.mem_of_getElem? (i := 1231) (by decide +kernel)⟩
theorem lw_p57 : lw_okq (⟨"QuietChannelsModel", "numeral", "(II)I"⟩, 46) := ⟨⟨by decide +kernel, by decide +kernel⟩, List.mem_of_getElem? (i := 948) (by decide +kernel), List.mem_of_getElem? (i := 1234) (by decide +kernel), List.mem_of_getElem? (i := 1235) (by decide +kernel)⟩
theorem lw_p58 : lw_okq (⟨"QuietChannelsModel", "readLoss", "()V"⟩, 46) := ⟨⟨by decide +kernel, by decide +kernel⟩, List.mem_of_getElem? (i := 948) (by decide +kernel), List.mem_of_getElem? (i := 1238) (by decide +kernel), List.mem_of_getElem? (i := 1239) (by decide +kernel)⟩
theorem lw_p59 : lw_okq (⟨"QuietChannelsModel", "readUser", "()V"⟩, 46) := ⟨⟨by decide +kernel, by decide +kernel⟩, List.mem_of_getElem? (i := 948) (by decide +kernel), List.mem_of_getElem? (i := 1242) (by decide +kernel), List.mem_of_getElem? (i := 1243) (by decide +kernel)⟩
theorem lw_p60 : lw_okq (⟨"QuietChannelsModel", "namedAt", "(III)I"⟩, 46) := ⟨⟨by decide +kernel, by decide +kernel⟩, List.mem_of_getElem? (i := 948) (by decide +kernel), List.mem_of_getElem? (i := 1246) (by decide +kernel), List.mem_of_getElem? (i := 1247) (by decide +kernel)⟩
theorem lw_p61 : lw_okq (⟨"QuietChannelsModel", "readFixed", "()V"⟩, 46) := ⟨⟨by decide +kernel, by decide +kernel⟩, List.mem_of_getElem? (i := 948) (by decide +kernel), List.mem_of_getElem? (i := 1250) (by decide +kernel), List.mem_of_getElem? (i := 1251) (by decide +kernel)⟩
theorem lw_p62 : lw_okq (⟨"QuietChannelsModel", "userOnce", "([I)I"⟩, 46) := ⟨⟨by decide +kernel, by decide +kernel⟩, List.mem_of_getElem? (i := 948) (by decide +kernel), List.mem_of_getElem? (i := 1254) (by decide +kernel), List.mem_of_getElem? (i := 1255) (by decide +kernel)⟩
theorem lw_p63 : lw_okq (⟨"QuietChannelsModel", "readBlock", "()V"⟩, 46) := ⟨⟨by decide +kernel, by decide +kernel⟩, List.mem_of_getElem? (i := 948) (by decide +kernel), List.mem_of_getElem? (i := 1258) (by decide +kernel), List.mem_of_getElem? (i := 1259) (by decide +kernel)⟩
def lw_privs_4 : List (MethodName × Nat) := [(⟨"QuietChannelsModel", "here", "()I"⟩, 46), (⟨"QuietChannelsModel", "wordHere", "()I"⟩, 46), (⟨"QuietChannelsModel", "nameHere", "()V"⟩, 46), (⟨"QuietChannelsModel", "readLine", "()V"⟩, 46), (⟨"QuietChannelsModel", "wrong", "(I)V"⟩, 46), (⟨"QuietChannelsModel", "readBand", "()V"⟩, 46), (⟨"QuietChannelsModel", "readOnce", "(IIII)V"⟩, 46), (⟨"QuietChannelsModel", "once", "(I)V"⟩, 46), (⟨"QuietChannelsModel", "goOn", "()V"⟩, 46), (⟨"QuietChannelsModel", "numeral", "(II)I"⟩, 46), (⟨"QuietChannelsModel", "readLoss", "()V"⟩, 46), (⟨"QuietChannelsModel", "readUser", "()V"⟩, 46), (⟨"QuietChannelsModel", "namedAt", "(III)I"⟩, 46), (⟨"QuietChannelsModel", "readFixed", "()V"⟩, 46), (⟨"QuietChannelsModel", "userOnce", "([I)I"⟩, 46), (⟨"QuietChannelsModel", "readBlock", "()V"⟩, 46)]
theorem lw_r4 : ∀ q ∈ lw_privs_4, lw_okq q := List.forall_mem_cons.mpr ⟨lw_p48, List.forall_mem_cons.mpr ⟨lw_p49, List.forall_mem_cons.mpr ⟨lw_p50, List.forall_mem_cons.mpr ⟨lw_p51, List.forall_mem_cons.mpr ⟨lw_p52, List.forall_mem_cons.mpr ⟨lw_p53, List.forall_mem_cons.mpr ⟨lw_p54, List.forall_mem_cons.mpr ⟨lw_p55, List.forall_mem_cons.mpr ⟨lw_p56, List.forall_mem_cons.mpr ⟨lw_p57, List.forall_mem_cons.mpr ⟨lw_p58, List.forall_mem_cons.mpr ⟨lw_p59, List.forall_mem_cons.mpr ⟨lw_p60, List.forall_mem_cons.mpr ⟨lw_p61, List.forall_mem_cons.mpr ⟨lw_p62, List.forall_mem_cons.mpr ⟨lw_p63, fun _ h => absurd h List.not_mem_nil⟩⟩⟩⟩⟩⟩⟩⟩⟩⟩⟩⟩⟩⟩⟩⟩
theorem lw_p64 : lw_okq (⟨"QuietChannelsModel", "readLink", "()V"⟩, 46) := ⟨⟨by decide +kernel, by decide +kernel⟩, List.mem_of_getElem? (i := 948) (by decide +kernel), List.mem_of_getElem? (i := 1262) (by decide +kernel), List.mem_of_getElem? (i := 1263) (by decide +kernel)⟩
theorem lw_p65 : lw_okq (⟨"QuietChannelsModel", "readSlots", "()V"⟩, 46) := ⟨⟨by decide +kernel, by decide +kernel⟩, List.mem_of_getElem? (i := 948) (by decide +kernel), List.mem_of_getElem? (i := 1266) (by decide +kernel), List.mem_of_getElem? (i := 1267) (by decide +kernel)⟩
theorem lw_p66 : lw_okq (⟨"QuietChannelsModel", "laysBack", "(I)V"⟩, 46) := ⟨⟨by decide +kernel, by decide +kernel⟩, List.mem_of_getElem? (i := 948) (by decide +kernel), List.mem_of_getElem? (i := 1282) (by decide +kernel), List.mem_of_getElem? (i := 1283) (by decide +kernel)⟩
theorem lw_p67 : lw_okq (⟨"QuietChannelsModel", "lays", "(I)V"⟩, 46) := ⟨⟨by decide +kernel, by decide +kernel⟩, List.mem_of_getElem? (i := 948) (by decide +kernel), List.mem_of_getElem? (i := 1290) (by decide +kernel), List.mem_of_getElem? (i := 1291) (by decide +kernel)⟩
theorem lw_p68 : lw_okq (⟨"QuietChannelsModel", "tuned", "()I"⟩, 46) := ⟨⟨by decide +kernel, by decide +kernel⟩, List.mem_of_getElem? (i := 948) (by decide +kernel), List.mem_of_getElem? (i := 1294) (by decide +kernel), List.mem_of_getElem? (i := 1295) (by decide +kernel)⟩
theorem lw_p69 : lw_okq (⟨"QuietChannelsModel", "isUser", "(I)Z"⟩, 46) := ⟨⟨by decide +kernel, by decide +kernel⟩, List.mem_of_getElem? (i := 948) (by decide +kernel), List.mem_of_getElem? (i := 1306) (by decide +kernel), List.mem_of_getElem? (i := 1307) (by decide +kernel)⟩
theorem lw_p70 : lw_okq (⟨"QuietChannelsModel", "isChannel", "(I)Z"⟩, 46) := ⟨⟨by decide +kernel, by decide +kernel⟩, List.mem_of_getElem? (i := 948) (by decide +kernel), List.mem_of_getElem? (i := 1310) (by decide +kernel), List.mem_of_getElem? (i := 1311) (by decide +kernel)⟩
theorem lw_p71 : lw_okq (⟨"QuietChannelsModel", "remembers", "()V"⟩, 46) := ⟨⟨by decide +kernel, by decide +kernel⟩, List.mem_of_getElem? (i := 948) (by decide +kernel), List.mem_of_getElem? (i := 1314) (by decide +kernel), List.mem_of_getElem? (i := 1315) (by decide +kernel)⟩
theorem lw_p72 : lw_okq (⟨"QuietChannelsModel", "goesAside", "()V"⟩, 46) := ⟨⟨by decide +kernel, by decide +kernel⟩, List.mem_of_getElem? (i := 948) (by decide +kernel), List.mem_of_getElem? (i := 1334) (by decide +kernel), List.mem_of_getElem? (i := 1335) (by decide +kernel)⟩
theorem lw_p73 : lw_okq (⟨"QuietChannelsModel", "withoutChannels", "()I"⟩, 46) := ⟨⟨by decide +kernel, by decide +kernel⟩, List.mem_of_getElem? (i := 948) (by decide +kernel), List.mem_of_getElem? (i := 1338) (by decide +kernel), List.mem_of_getElem? (i := 1339) (by decide +kernel)⟩
theorem lw_p74 : lw_okq (⟨"QuietChannelsModel", "searches", "(I)I"⟩, 46) := ⟨⟨by decide +kernel, by decide +kernel⟩, List.mem_of_getElem? (i := 948) (by decide +kernel), List.mem_of_getElem? (i := 1342) (by decide +kernel), List.mem_of_getElem? (i := 1343) (by decide +kernel)⟩
theorem lw_p75 : lw_okq (⟨"QuietChannelsModel", "isClean", "()Z"⟩, 46) := ⟨⟨by decide +kernel, by decide +kernel⟩, List.mem_of_getElem? (i := 948) (by decide +kernel), List.mem_of_getElem? (i := 1346) (by decide +kernel), List.mem_of_getElem? (i := 1347) (by decide +kernel)⟩
theorem lw_p76 : lw_okq (⟨"QuietChannelsModel", "isRight", "(I)Z"⟩, 46) := ⟨⟨by decide +kernel, by decide +kernel⟩, List.mem_of_getElem? (i := 948) (by decide +kernel), List.mem_of_getElem? (i := 1350) (by decide +kernel), List.mem_of_getElem? (i := 1351) (by decide +kernel)⟩
theorem lw_p77 : lw_okq (⟨"QuietChannelsModel", "highOf", "(I)I"⟩, 46) := ⟨⟨by decide +kernel, by decide +kernel⟩, List.mem_of_getElem? (i := 948) (by decide +kernel), List.mem_of_getElem? (i := 1354) (by decide +kernel), List.mem_of_getElem? (i := 1355) (by decide +kernel)⟩
theorem lw_p78 : lw_okq (⟨"QuietChannelsModel", "crowdsOf", "(I)I"⟩, 46) := ⟨⟨by decide +kernel, by decide +kernel⟩, List.mem_of_getElem? (i := 948) (by decide +kernel), List.mem_of_getElem? (i := 1358) (by decide +kernel), List.mem_of_getElem? (i := 1359) (by decide +kernel)⟩
theorem lw_p79 : lw_okq (⟨"QuietChannelsModel", "crowd", "(II)Z"⟩, 46) := ⟨⟨by decide +kernel, by decide +kernel⟩, List.mem_of_getElem? (i := 948) (by decide +kernel), List.mem_of_getElem? (i := 1362) (by decide +kernel), List.mem_of_getElem? (i := 1363) (by decide +kernel)⟩
def lw_privs_5 : List (MethodName × Nat) := [(⟨"QuietChannelsModel", "readLink", "()V"⟩, 46), (⟨"QuietChannelsModel", "readSlots", "()V"⟩, 46), (⟨"QuietChannelsModel", "laysBack", "(I)V"⟩, 46), (⟨"QuietChannelsModel", "lays", "(I)V"⟩, 46), (⟨"QuietChannelsModel", "tuned", "()I"⟩, 46), (⟨"QuietChannelsModel", "isUser", "(I)Z"⟩, 46), (⟨"QuietChannelsModel", "isChannel", "(I)Z"⟩, 46), (⟨"QuietChannelsModel", "remembers", "()V"⟩, 46), (⟨"QuietChannelsModel", "goesAside", "()V"⟩, 46), (⟨"QuietChannelsModel", "withoutChannels", "()I"⟩, 46), (⟨"QuietChannelsModel", "searches", "(I)I"⟩, 46), (⟨"QuietChannelsModel", "isClean", "()Z"⟩, 46), (⟨"QuietChannelsModel", "isRight", "(I)Z"⟩, 46), (⟨"QuietChannelsModel", "highOf", "(I)I"⟩, 46), (⟨"QuietChannelsModel", "crowdsOf", "(I)I"⟩, 46), (⟨"QuietChannelsModel", "crowd", "(II)Z"⟩, 46)]
theorem lw_r5 : ∀ q ∈ lw_privs_5, lw_okq q := List.forall_mem_cons.mpr ⟨lw_p64, List.forall_mem_cons.mpr ⟨lw_p65, List.forall_mem_cons.mpr ⟨lw_p66, List.forall_mem_cons.mpr ⟨lw_p67, List.forall_mem_cons.mpr ⟨lw_p68, List.forall_mem_cons.mpr ⟨lw_p69, List.forall_mem_cons.mpr ⟨lw_p70, List.forall_mem_cons.mpr ⟨lw_p71, List.forall_mem_cons.mpr ⟨lw_p72, List.forall_mem_cons.mpr ⟨lw_p73, List.forall_mem_cons.mpr ⟨lw_p74, List.forall_mem_cons.mpr ⟨lw_p75, List.forall_mem_cons.mpr ⟨lw_p76, List.forall_mem_cons.mpr ⟨lw_p77, List.forall_mem_cons.mpr ⟨lw_p78, List.forall_mem_cons.mpr ⟨lw_p79, fun _ h => absurd h List.not_mem_nil⟩⟩⟩⟩⟩⟩⟩⟩⟩⟩⟩⟩⟩⟩⟩⟩
theorem lw_p80 : lw_okq (⟨"QuietChannelsModel", "laysProducts", "()V"⟩, 46) := ⟨⟨by decide +kernel, by decide +kernel⟩, List.mem_of_getElem? (i := 948) (by decide +kernel), List.mem_of_getElem? (i := 1369) (by decide +kernel), List.mem_of_getElem? (i := 1370) (by decide +kernel)⟩
theorem lw_p81 : lw_okq (⟨"QuietChannelsModel", "laysSort", "(II)V"⟩, 46) := ⟨⟨by decide +kernel, by decide +kernel⟩, List.mem_of_getElem? (i := 948) (by decide +kernel), List.mem_of_getElem? (i := 1376) (by decide +kernel), List.mem_of_getElem? (i := 1377) (by decide +kernel)⟩
theorem lw_p82 : lw_okq (⟨"QuietChannelsModel", "isThere", "(II)Z"⟩, 46) := ⟨⟨by decide +kernel, by decide +kernel⟩, List.mem_of_getElem? (i := 948) (by decide +kernel), List.mem_of_getElem? (i := 1380) (by decide +kernel), List.mem_of_getElem? (i := 1381) (by decide +kernel)⟩
theorem lw_p83 : lw_okq (⟨"QuietChannelsModel", "adds", "(IIII)V"⟩, 46) := ⟨⟨by decide +kernel, by decide +kernel⟩, List.mem_of_getElem? (i := 948) (by decide +kernel), List.mem_of_getElem? (i := 1384) (by decide +kernel), List.mem_of_getElem? (i := 1385) (by decide +kernel)⟩
theorem lw_p84 : lw_okq (⟨"QuietChannelsModel", "lossOf", "(I)I"⟩, 46) := ⟨⟨by decide +kernel, by decide +kernel⟩, List.mem_of_getElem? (i := 948) (by decide +kernel), List.mem_of_getElem? (i := 1397) (by decide +kernel), List.mem_of_getElem? (i := 1398) (by decide +kernel)⟩
theorem lw_p85 : lw_okq (⟨"QuietChannelsModel", "hitsOf", "(I)I"⟩, 46) := ⟨⟨by decide +kernel, by decide +kernel⟩, List.mem_of_getElem? (i := 948) (by decide +kernel), List.mem_of_getElem? (i := 1401) (by decide +kernel), List.mem_of_getElem? (i := 1402) (by decide +kernel)⟩
theorem lw_p86 : lw_okq (⟨"QuietChannelsModel", "hits", "(II)Z"⟩, 46) := ⟨⟨by decide +kernel, by decide +kernel⟩, List.mem_of_getElem? (i := 948) (by decide +kernel), List.mem_of_getElem? (i := 1405) (by decide +kernel), List.mem_of_getElem? (i := 1406) (by decide +kernel)⟩
theorem lw_p87 : lw_okq (⟨"QuietChannelsModel", "mayHit", "(II)Z"⟩, 46) := ⟨⟨by decide +kernel, by decide +kernel⟩, List.mem_of_getElem? (i := 948) (by decide +kernel), List.mem_of_getElem? (i := 1409) (by decide +kernel), List.mem_of_getElem? (i := 1410) (by decide +kernel)⟩
theorem lw_p88 : lw_okq (⟨"QuietChannelsModel", "isIn", "(II)Z"⟩, 46) := ⟨⟨by decide +kernel, by decide +kernel⟩, List.mem_of_getElem? (i := 948) (by decide +kernel), List.mem_of_getElem? (i := 1413) (by decide +kernel), List.mem_of_getElem? (i := 1414) (by decide +kernel)⟩
theorem lw_p89 : lw_okq (⟨"QuietChannelsModel", "nextOf", "(II)I"⟩, 46) := ⟨⟨by decide +kernel, by decide +kernel⟩, List.mem_of_getElem? (i := 948) (by decide +kernel), List.mem_of_getElem? (i := 1417) (by decide +kernel), List.mem_of_getElem? (i := 1418) (by decide +kernel)⟩
theorem lw_p90 : lw_okq (⟨"QuietChannelsModel", "nextFit", "(I)I"⟩, 46) := ⟨⟨by decide +kernel, by decide +kernel⟩, List.mem_of_getElem? (i := 948) (by decide +kernel), List.mem_of_getElem? (i := 1421) (by decide +kernel), List.mem_of_getElem? (i := 1422) (by decide +kernel)⟩
theorem lw_p91 : lw_okq (⟨"QuietChannelsModel", "clears", "(I)V"⟩, 46) := ⟨⟨by decide +kernel, by decide +kernel⟩, List.mem_of_getElem? (i := 948) (by decide +kernel), List.mem_of_getElem? (i := 1425) (by decide +kernel), List.mem_of_getElem? (i := 1426) (by decide +kernel)⟩
theorem lw_p92 : lw_okq (⟨"QuietChannelsModel", "aheadOf", "(II)I"⟩, 46) := ⟨⟨by decide +kernel, by decide +kernel⟩, List.mem_of_getElem? (i := 948) (by decide +kernel), List.mem_of_getElem? (i := 1429) (by decide +kernel), List.mem_of_getElem? (i := 1430) (by decide +kernel)⟩
theorem lw_p93 : lw_okq (⟨"QuietChannelsModel", "comesBack", "()V"⟩, 46) := ⟨⟨by decide +kernel, by decide +kernel⟩, List.mem_of_getElem? (i := 948) (by decide +kernel), List.mem_of_getElem? (i := 1433) (by decide +kernel), List.mem_of_getElem? (i := 1434) (by decide +kernel)⟩
theorem lw_p94 : lw_okq (⟨"QuietChannelsModel", "swapsIn", "()V"⟩, 46) := ⟨⟨by decide +kernel, by decide +kernel⟩, List.mem_of_getElem? (i := 948) (by decide +kernel), List.mem_of_getElem? (i := 1437) (by decide +kernel), List.mem_of_getElem? (i := 1438) (by decide +kernel)⟩
theorem lw_p95 : lw_okq (⟨"QuietChannelsModel", "mends", "()I"⟩, 46) := ⟨⟨by decide +kernel, by decide +kernel⟩, List.mem_of_getElem? (i := 948) (by decide +kernel), List.mem_of_getElem? (i := 1445) (by decide +kernel), List.mem_of_getElem? (i := 1446) (by decide +kernel)⟩
def lw_privs_6 : List (MethodName × Nat) := [(⟨"QuietChannelsModel", "laysProducts", "()V"⟩, 46), (⟨"QuietChannelsModel", "laysSort", "(II)V"⟩, 46), (⟨"QuietChannelsModel", "isThere", "(II)Z"⟩, 46), (⟨"QuietChannelsModel", "adds", "(IIII)V"⟩, 46), (⟨"QuietChannelsModel", "lossOf", "(I)I"⟩, 46), (⟨"QuietChannelsModel", "hitsOf", "(I)I"⟩, 46), (⟨"QuietChannelsModel", "hits", "(II)Z"⟩, 46), (⟨"QuietChannelsModel", "mayHit", "(II)Z"⟩, 46), (⟨"QuietChannelsModel", "isIn", "(II)Z"⟩, 46), (⟨"QuietChannelsModel", "nextOf", "(II)I"⟩, 46), (⟨"QuietChannelsModel", "nextFit", "(I)I"⟩, 46), (⟨"QuietChannelsModel", "clears", "(I)V"⟩, 46), (⟨"QuietChannelsModel", "aheadOf", "(II)I"⟩, 46), (⟨"QuietChannelsModel", "comesBack", "()V"⟩, 46), (⟨"QuietChannelsModel", "swapsIn", "()V"⟩, 46), (⟨"QuietChannelsModel", "mends", "()I"⟩, 46)]
theorem lw_r6 : ∀ q ∈ lw_privs_6, lw_okq q := List.forall_mem_cons.mpr ⟨lw_p80, List.forall_mem_cons.mpr ⟨lw_p81, List.forall_mem_cons.mpr ⟨lw_p82, List.forall_mem_cons.mpr ⟨lw_p83, List.forall_mem_cons.mpr ⟨lw_p84, List.forall_mem_cons.mpr ⟨lw_p85, List.forall_mem_cons.mpr ⟨lw_p86, List.forall_mem_cons.mpr ⟨lw_p87, List.forall_mem_cons.mpr ⟨lw_p88, List.forall_mem_cons.mpr ⟨lw_p89, List.forall_mem_cons.mpr ⟨lw_p90, List.forall_mem_cons.mpr ⟨lw_p91, List.forall_mem_cons.mpr ⟨lw_p92, List.forall_mem_cons.mpr ⟨lw_p93, List.forall_mem_cons.mpr ⟨lw_p94, List.forall_mem_cons.mpr ⟨lw_p95, fun _ h => absurd h List.not_mem_nil⟩⟩⟩⟩⟩⟩⟩⟩⟩⟩⟩⟩⟩⟩⟩⟩
theorem lw_p96 : lw_okq (⟨"QuietChannelsModel", "isRowClean", "(IIII)Z"⟩, 46) := ⟨⟨by decide +kernel, by decide +kernel⟩, List.mem_of_getElem? (i := 948) (by decide +kernel), List.mem_of_getElem? (i := 1468) (by decide +kernel), List.mem_of_getElem? (i := 1469) (by decide +kernel)⟩
theorem lw_p97 : lw_okq (⟨"QuietChannelsModel", "sumOf", "(IIII)I"⟩, 46) := ⟨⟨by decide +kernel, by decide +kernel⟩, List.mem_of_getElem? (i := 948) (by decide +kernel), List.mem_of_getElem? (i := 1472) (by decide +kernel), List.mem_of_getElem? (i := 1473) (by decide +kernel)⟩
theorem lw_p98 : lw_okq (⟨"QuietChannelsModel", "hitsRow", "(IIIIII)Z"⟩, 46) := ⟨⟨by decide +kernel, by decide +kernel⟩, List.mem_of_getElem? (i := 948) (by decide +kernel), List.mem_of_getElem? (i := 1476) (by decide +kernel), List.mem_of_getElem? (i := 1477) (by decide +kernel)⟩
theorem lw_p99 : lw_okq (⟨"QuietChannelsModel", "heard", "()I"⟩, 46) := ⟨⟨by decide +kernel, by decide +kernel⟩, List.mem_of_getElem? (i := 948) (by decide +kernel), List.mem_of_getElem? (i := 1492) (by decide +kernel), List.mem_of_getElem? (i := 1493) (by decide +kernel)⟩
theorem lw_p100 : lw_okq (⟨"QuietChannelsModel", "allHits", "()I"⟩, 46) := ⟨⟨by decide +kernel, by decide +kernel⟩, List.mem_of_getElem? (i := 948) (by decide +kernel), List.mem_of_getElem? (i := 1496) (by decide +kernel), List.mem_of_getElem? (i := 1497) (by decide +kernel)⟩
theorem lw_p101 : lw_okq (⟨"QuietChannelsModel", "allCrowds", "()I"⟩, 46) := ⟨⟨by decide +kernel, by decide +kernel⟩, List.mem_of_getElem? (i := 948) (by decide +kernel), List.mem_of_getElem? (i := 1500) (by decide +kernel), List.mem_of_getElem? (i := 1501) (by decide +kernel)⟩
theorem lw_p102 : lw_okq (⟨"QuietChannelsModel", "fitsAt", "(II)Z"⟩, 46) := ⟨⟨by decide +kernel, by decide +kernel⟩, List.mem_of_getElem? (i := 948) (by decide +kernel), List.mem_of_getElem? (i := 1528) (by decide +kernel), List.mem_of_getElem? (i := 1529) (by decide +kernel)⟩
theorem lw_p103 : lw_okq (⟨"QuietChannelsModel", "noiseAt", "(II)I"⟩, 46) := ⟨⟨by decide +kernel, by decide +kernel⟩, List.mem_of_getElem? (i := 948) (by decide +kernel), List.mem_of_getElem? (i := 1544) (by decide +kernel), List.mem_of_getElem? (i := 1545) (by decide +kernel)⟩
theorem lw_p104 : lw_okq (⟨"QuietChannelsModel", "worstNow", "()I"⟩, 46) := ⟨⟨by decide +kernel, by decide +kernel⟩, List.mem_of_getElem? (i := 948) (by decide +kernel), List.mem_of_getElem? (i := 1556) (by decide +kernel), List.mem_of_getElem? (i := 1557) (by decide +kernel)⟩
theorem lw_p105 : lw_okq (⟨"QuietChannelsModel", "madeBy", "(I)I"⟩, 46) := ⟨⟨by decide +kernel, by decide +kernel⟩, List.mem_of_getElem? (i := 948) (by decide +kernel), List.mem_of_getElem? (i := 1560) (by decide +kernel), List.mem_of_getElem? (i := 1561) (by decide +kernel)⟩
theorem lw_p106 : lw_okq (⟨"QuietChannelsModel", "turnsDown", "()I"⟩, 46) := ⟨⟨by decide +kernel, by decide +kernel⟩, List.mem_of_getElem? (i := 948) (by decide +kernel), List.mem_of_getElem? (i := 1580) (by decide +kernel), List.mem_of_getElem? (i := 1581) (by decide +kernel)⟩
theorem lw_p107 : lw_okq (⟨"QuietChannelsModel", "exchanges", "(II)V"⟩, 46) := ⟨⟨by decide +kernel, by decide +kernel⟩, List.mem_of_getElem? (i := 948) (by decide +kernel), List.mem_of_getElem? (i := 1592) (by decide +kernel), List.mem_of_getElem? (i := 1593) (by decide +kernel)⟩
theorem lw_p108 : lw_okq (⟨"QuietChannelsModel", "hasHits", "()Z"⟩, 46) := ⟨⟨by decide +kernel, by decide +kernel⟩, List.mem_of_getElem? (i := 948) (by decide +kernel), List.mem_of_getElem? (i := 1624) (by decide +kernel), List.mem_of_getElem? (i := 1625) (by decide +kernel)⟩
theorem lw_p109 : lw_okq (⟨"QuietChannelsModel", "draw", "(I)I"⟩, 46) := ⟨⟨by decide +kernel, by decide +kernel⟩, List.mem_of_getElem? (i := 948) (by decide +kernel), List.mem_of_getElem? (i := 1636) (by decide +kernel), List.mem_of_getElem? (i := 1637) (by decide +kernel)⟩
theorem lw_p110 : lw_okq (⟨"QuietChannelsModel", "blockedMany", "()I"⟩, 46) := ⟨⟨by decide +kernel, by decide +kernel⟩, List.mem_of_getElem? (i := 948) (by decide +kernel), List.mem_of_getElem? (i := 1646) (by decide +kernel), List.mem_of_getElem? (i := 1647) (by decide +kernel)⟩
def lw_privs_7 : List (MethodName × Nat) := [(⟨"QuietChannelsModel", "isRowClean", "(IIII)Z"⟩, 46), (⟨"QuietChannelsModel", "sumOf", "(IIII)I"⟩, 46), (⟨"QuietChannelsModel", "hitsRow", "(IIIIII)Z"⟩, 46), (⟨"QuietChannelsModel", "heard", "()I"⟩, 46), (⟨"QuietChannelsModel", "allHits", "()I"⟩, 46), (⟨"QuietChannelsModel", "allCrowds", "()I"⟩, 46), (⟨"QuietChannelsModel", "fitsAt", "(II)Z"⟩, 46), (⟨"QuietChannelsModel", "noiseAt", "(II)I"⟩, 46), (⟨"QuietChannelsModel", "worstNow", "()I"⟩, 46), (⟨"QuietChannelsModel", "madeBy", "(I)I"⟩, 46), (⟨"QuietChannelsModel", "turnsDown", "()I"⟩, 46), (⟨"QuietChannelsModel", "exchanges", "(II)V"⟩, 46), (⟨"QuietChannelsModel", "hasHits", "()Z"⟩, 46), (⟨"QuietChannelsModel", "draw", "(I)I"⟩, 46), (⟨"QuietChannelsModel", "blockedMany", "()I"⟩, 46)]
theorem lw_r7 : ∀ q ∈ lw_privs_7, lw_okq q := List.forall_mem_cons.mpr ⟨lw_p96, List.forall_mem_cons.mpr ⟨lw_p97, List.forall_mem_cons.mpr ⟨lw_p98, List.forall_mem_cons.mpr ⟨lw_p99, List.forall_mem_cons.mpr ⟨lw_p100, List.forall_mem_cons.mpr ⟨lw_p101, List.forall_mem_cons.mpr ⟨lw_p102, List.forall_mem_cons.mpr ⟨lw_p103, List.forall_mem_cons.mpr ⟨lw_p104, List.forall_mem_cons.mpr ⟨lw_p105, List.forall_mem_cons.mpr ⟨lw_p106, List.forall_mem_cons.mpr ⟨lw_p107, List.forall_mem_cons.mpr ⟨lw_p108, List.forall_mem_cons.mpr ⟨lw_p109, List.forall_mem_cons.mpr ⟨lw_p110, fun _ h => absurd h List.not_mem_nil⟩⟩⟩⟩⟩⟩⟩⟩⟩⟩⟩⟩⟩⟩⟩
def lw_privs : List (MethodName × Nat) := lw_privs_1 ++ (lw_privs_2 ++ (lw_privs_3 ++ (lw_privs_4 ++ (lw_privs_5 ++ (lw_privs_6 ++ (lw_privs_7))))))
def lw_tbl : List Cond := k2_sels lw_privs ++ tables_1
theorem lw_privs_ok : ∀ q ∈ lw_privs, lw_okq q := by
  show ∀ q ∈ lw_privs_1 ++ (lw_privs_2 ++ (lw_privs_3 ++ (lw_privs_4 ++ (lw_privs_5 ++ (lw_privs_6 ++ (lw_privs_7)))))), lw_okq q
  exact List.forall_mem_append.mpr ⟨lw_r1, List.forall_mem_append.mpr ⟨lw_r2, List.forall_mem_append.mpr ⟨lw_r3, List.forall_mem_append.mpr ⟨lw_r4, List.forall_mem_append.mpr ⟨lw_r5, List.forall_mem_append.mpr ⟨lw_r6, lw_r7⟩⟩⟩⟩⟩⟩
def RX0 : String := "QuietChannels$History"
def TX0 : u_T := fun k => match k with
  | 0 => ("QuietChannels$History", "images", "[LQuietChannels$Image;", true)
  | _ => ("QuietChannels$History", "size", "I", false)
def tyX0 : Nat → FieldType := fun k => match k with
  | 0 => .array (.object "QuietChannels$Image")
  | _ => .int
abbrev wsX00 : List Cond := u_ws RX0 TX0 2
theorem nmX0 : ∀ a, a < 2 → ∀ b, b < 2 → a ≠ b → (TX0 a).2.1 ≠ (TX0 b).2.1 := by decide +kernel
theorem tyX0_ok : ∀ k, k < 2 → parseFieldDescriptor (TX0 k).2.2.1 = some (tyX0 k) := by decide +kernel
abbrev cX0_init : ByteArray := prog_2_method_1_code
def yX0_init : MethodName := ⟨RX0, "<init>", "()V"⟩
abbrev cX0_push : ByteArray := prog_2_method_2_code
def yX0_push : MethodName := ⟨RX0, "push", "(LQuietChannels$Scene;)V"⟩
abbrev cX0_dropOldest : ByteArray := prog_2_method_3_code
def yX0_dropOldest : MethodName := ⟨RX0, "dropOldest", "()V"⟩
abbrev cX0_pop : ByteArray := prog_2_method_4_code
def yX0_pop : MethodName := ⟨RX0, "pop", "(LQuietChannels$Scene;)Z"⟩
def RX1 : String := "QuietChannels$Image"
def TX1 : u_T := fun k => match k with
  | 0 => ("QuietChannels$Image", "channel", "[I", true)
  | 1 => ("QuietChannels$Image", "strength", "[I", true)
  | 2 => ("QuietChannels$Image", "slotBits", "[I", true)
  | _ => ("QuietChannels$Image", "shut", "J", false)
def tyX1 : Nat → FieldType := fun k => match k with
  | 0 => .array .int
  | 1 => .array .int
  | 2 => .array .int
  | _ => .long
abbrev wsX10 : List Cond := u_ws RX1 TX1 4
theorem nmX1 : ∀ a, a < 4 → ∀ b, b < 4 → a ≠ b → (TX1 a).2.1 ≠ (TX1 b).2.1 := by decide +kernel
theorem tyX1_ok : ∀ k, k < 4 → parseFieldDescriptor (TX1 k).2.2.1 = some (tyX1 k) := by decide +kernel
abbrev cX1_init : ByteArray := prog_3_method_1_code
def yX1_init : MethodName := ⟨RX1, "<init>", "()V"⟩
abbrev cX1_take : ByteArray := prog_3_method_2_code
def yX1_take : MethodName := ⟨RX1, "take", "(LQuietChannels$Scene;)V"⟩
abbrev cX1_giveTo : ByteArray := prog_3_method_3_code
def yX1_giveTo : MethodName := ⟨RX1, "giveTo", "(LQuietChannels$Scene;)V"⟩
def RX2 : String := "QuietChannels$Products"
def TX2 : u_T := fun k => match k with
  | 0 => ("QuietChannels$Products", "column", "[[I", true)
  | 1 => ("QuietChannels$Products", "size", "I", false)
  | 2 => ("QuietChannels$Products", "strikes", "I", false)
  | 3 => ("QuietChannels$Products", "crew", "[I", true)
  | 4 => ("QuietChannels$Products", "crewSize", "I", false)
  | 5 => ("QuietChannels$Products", "guarded", "J", false)
  | _ => ("QuietChannels$Products", "untilStrike", "Z", false)
def tyX2 : Nat → FieldType := fun k => match k with
  | 0 => .array (.array .int)
  | 1 => .int
  | 2 => .int
  | 3 => .array .int
  | 4 => .int
  | 5 => .long
  | _ => .boolean
abbrev wsX20 : List Cond := u_ws RX2 TX2 7
theorem nmX2 : ∀ a, a < 7 → ∀ b, b < 7 → a ≠ b → (TX2 a).2.1 ≠ (TX2 b).2.1 := by decide +kernel
theorem tyX2_ok : ∀ k, k < 7 → parseFieldDescriptor (TX2 k).2.2.1 = some (tyX2 k) := by decide +kernel
abbrev cX2_init : ByteArray := prog_4_method_1_code
def yX2_init : MethodName := ⟨RX2, "<init>", "()V"⟩
abbrev cX2_fill : ByteArray := prog_4_method_2_code
def yX2_fill : MethodName := ⟨RX2, "fill", "(LQuietChannels$Scene;)V"⟩
abbrev cX2_anyStrike : ByteArray := prog_4_method_3_code
def yX2_anyStrike : MethodName := ⟨RX2, "anyStrike", "(LQuietChannels$Scene;)Z"⟩
abbrev cX2_allClean : ByteArray := prog_4_method_4_code
def yX2_allClean : MethodName := ⟨RX2, "allClean", "(LQuietChannels$Scene;)Z"⟩
abbrev cX2_gather : ByteArray := prog_4_method_5_code
def yX2_gather : MethodName := ⟨RX2, "gather", "(LQuietChannels$Scene;Z)V"⟩
abbrev cX2_gatherCrew : ByteArray := prog_4_method_6_code
def yX2_gatherCrew : MethodName := ⟨RX2, "gatherCrew", "(LQuietChannels$Scene;I)V"⟩
abbrev cX2_gatherSort : ByteArray := prog_4_method_7_code
def yX2_gatherSort : MethodName := ⟨RX2, "gatherSort", "(LQuietChannels$Scene;I)V"⟩
abbrev cX2_add : ByteArray := prog_4_method_8_code
def yX2_add : MethodName := ⟨RX2, "add", "(LQuietChannels$Scene;IIII)V"⟩
abbrev cX2_levelOf : ByteArray := prog_4_method_9_code
def yX2_levelOf : MethodName := ⟨RX2, "levelOf", "(LQuietChannels$Scene;IIII)I"⟩
abbrev cX2_mayStrike : ByteArray := prog_4_method_10_code
def yX2_mayStrike : MethodName := ⟨RX2, "mayStrike", "(LQuietChannels$Scene;II)Z"⟩
abbrev cX2_isIn : ByteArray := prog_4_method_11_code
def yX2_isIn : MethodName := ⟨RX2, "isIn", "(II)Z"⟩
abbrev cX2_strikesUser : ByteArray := prog_4_method_12_code
def yX2_strikesUser : MethodName := ⟨RX2, "strikesUser", "(II)Z"⟩
abbrev cX2_sumOfSort : ByteArray := prog_4_method_13_code
def yX2_sumOfSort : MethodName := ⟨RX2, "sumOfSort", "(II)I"⟩
abbrev cX2_share : ByteArray := prog_4_method_14_code
def yX2_share : MethodName := ⟨RX2, "share", "(II)I"⟩
abbrev cX2_strikesOn : ByteArray := prog_4_method_15_code
def yX2_strikesOn : MethodName := ⟨RX2, "strikesOn", "(I)I"⟩
abbrev cX2_placeOfStrikeOn : ByteArray := prog_4_method_16_code
def yX2_placeOfStrikeOn : MethodName := ⟨RX2, "placeOfStrikeOn", "(II)I"⟩
abbrev cX2_placeOfLoudest : ByteArray := prog_4_method_17_code
def yX2_placeOfLoudest : MethodName := ⟨RX2, "placeOfLoudest", "()I"⟩
abbrev cX2_slotsOfStrikesOn : ByteArray := prog_4_method_18_code
def yX2_slotsOfStrikesOn : MethodName := ⟨RX2, "slotsOfStrikesOn", "(I)I"⟩
abbrev cX2_nearestDistance : ByteArray := prog_4_method_19_code
def yX2_nearestDistance : MethodName := ⟨RX2, "nearestDistance", "(LQuietChannels$Scene;I)I"⟩
abbrev cX2_strikesMadeBy : ByteArray := prog_4_method_20_code
def yX2_strikesMadeBy : MethodName := ⟨RX2, "strikesMadeBy", "(I)I"⟩
abbrev cX2_worstMaker : ByteArray := prog_4_method_21_code
def yX2_worstMaker : MethodName := ⟨RX2, "worstMaker", "(I)I"⟩
abbrev cX2_makersAhead : ByteArray := prog_4_method_22_code
def yX2_makersAhead : MethodName := ⟨RX2, "makersAhead", "(II)I"⟩
def RX3 : String := "QuietChannels$Reader"
def TX3 : u_T := fun k => match k with
  | 0 => ("QuietChannels$Reader", "signs", "[I", true)
  | 1 => ("QuietChannels$Reader", "length", "I", true)
  | 2 => ("QuietChannels$Reader", "scene", "LQuietChannels$Scene;", true)
  | 3 => ("QuietChannels$Reader", "at", "I", false)
  | 4 => ("QuietChannels$Reader", "token", "I", false)
  | 5 => ("QuietChannels$Reader", "start", "I", false)
  | 6 => ("QuietChannels$Reader", "value", "I", false)
  | 7 => ("QuietChannels$Reader", "fault", "I", false)
  | 8 => ("QuietChannels$Reader", "place", "I", false)
  | 9 => ("QuietChannels$Reader", "lines", "I", false)
  | 10 => ("QuietChannels$Reader", "blocks", "I", false)
  | 11 => ("QuietChannels$Reader", "toldOnce", "I", false)
  | 12 => ("QuietChannels$Reader", "fixedUsers", "I", false)
  | _ => ("QuietChannels$Reader", "slotUsers", "I", false)
def tyX3 : Nat → FieldType := fun k => match k with
  | 0 => .array .int
  | 1 => .int
  | 2 => .object "QuietChannels$Scene"
  | 3 => .int
  | 4 => .int
  | 5 => .int
  | 6 => .int
  | 7 => .int
  | 8 => .int
  | 9 => .int
  | 10 => .int
  | 11 => .int
  | 12 => .int
  | _ => .int
abbrev wsX30 : List Cond := u_ws RX3 TX3 14
theorem nmX3 : ∀ a, a < 14 → ∀ b, b < 14 → a ≠ b → (TX3 a).2.1 ≠ (TX3 b).2.1 := by decide +kernel
theorem tyX3_ok : ∀ k, k < 14 → parseFieldDescriptor (TX3 k).2.2.1 = some (tyX3 k) := by decide +kernel
abbrev cX3_init : ByteArray := prog_5_method_1_code
def yX3_init : MethodName := ⟨RX3, "<init>", "([II)V"⟩
abbrev cX3_readAll : ByteArray := prog_5_method_2_code
def yX3_readAll : MethodName := ⟨RX3, "readAll", "()V"⟩
abbrev cX3_fail : ByteArray := prog_5_method_3_code
def yX3_fail : MethodName := ⟨RX3, "fail", "(I)V"⟩
abbrev cX3_readLine : ByteArray := prog_5_method_4_code
def yX3_readLine : MethodName := ⟨RX3, "readLine", "()V"⟩
abbrev cX3_endLine : ByteArray := prog_5_method_5_code
def yX3_endLine : MethodName := ⟨RX3, "endLine", "()V"⟩
abbrev cX3_tellOnce : ByteArray := prog_5_method_6_code
def yX3_tellOnce : MethodName := ⟨RX3, "tellOnce", "(I)V"⟩
abbrev cX3_readBand : ByteArray := prog_5_method_7_code
def yX3_readBand : MethodName := ⟨RX3, "readBand", "()V"⟩
abbrev cX3_readUser : ByteArray := prog_5_method_8_code
def yX3_readUser : MethodName := ⟨RX3, "readUser", "()V"⟩
abbrev cX3_readFixed : ByteArray := prog_5_method_9_code
def yX3_readFixed : MethodName := ⟨RX3, "readFixed", "()V"⟩
abbrev cX3_readSlots : ByteArray := prog_5_method_10_code
def yX3_readSlots : MethodName := ⟨RX3, "readSlots", "()V"⟩
abbrev cX3_readBlock : ByteArray := prog_5_method_11_code
def yX3_readBlock : MethodName := ⟨RX3, "readBlock", "()V"⟩
abbrev cX3_readLink : ByteArray := prog_5_method_12_code
def yX3_readLink : MethodName := ⟨RX3, "readLink", "()V"⟩
abbrev cX3_takeNumber : ByteArray := prog_5_method_13_code
def yX3_takeNumber : MethodName := ⟨RX3, "takeNumber", "(II)I"⟩
abbrev cX3_takeName : ByteArray := prog_5_method_14_code
def yX3_takeName : MethodName := ⟨RX3, "takeName", "()I"⟩
abbrev cX3_takeUser : ByteArray := prog_5_method_15_code
def yX3_takeUser : MethodName := ⟨RX3, "takeUser", "()I"⟩
abbrev cX3_isOfLanguage : ByteArray := prog_5_method_16_code
def yX3_isOfLanguage : MethodName := ⟨RX3, "isOfLanguage", "(I)Z"⟩
abbrev cX3_next : ByteArray := prog_5_method_17_code
def yX3_next : MethodName := ⟨RX3, "next", "()V"⟩
abbrev cX3_readLetters : ByteArray := prog_5_method_18_code
def yX3_readLetters : MethodName := ⟨RX3, "readLetters", "()V"⟩
abbrev cX3_readDigits : ByteArray := prog_5_method_19_code
def yX3_readDigits : MethodName := ⟨RX3, "readDigits", "()V"⟩
def RX4 : String := "QuietChannels$Scene"
def TX4 : u_T := fun k => match k with
  | 0 => ("QuietChannels$Scene", "users", "I", false)
  | 1 => ("QuietChannels$Scene", "band", "I", false)
  | 2 => ("QuietChannels$Scene", "guard", "I", false)
  | 3 => ("QuietChannels$Scene", "space", "I", false)
  | 4 => ("QuietChannels$Scene", "orders", "I", false)
  | 5 => ("QuietChannels$Scene", "seed", "I", false)
  | 6 => ("QuietChannels$Scene", "shut", "J", false)
  | 7 => ("QuietChannels$Scene", "loss", "[I", true)
  | 8 => ("QuietChannels$Scene", "linkLoss", "[I", true)
  | 9 => ("QuietChannels$Scene", "name", "[I", true)
  | 10 => ("QuietChannels$Scene", "site", "[I", true)
  | 11 => ("QuietChannels$Scene", "low", "[I", true)
  | 12 => ("QuietChannels$Scene", "high", "[I", true)
  | 13 => ("QuietChannels$Scene", "channel", "[I", true)
  | 14 => ("QuietChannels$Scene", "strength", "[I", true)
  | _ => ("QuietChannels$Scene", "slotBits", "[I", true)
def tyX4 : Nat → FieldType := fun k => match k with
  | 0 => .int
  | 1 => .int
  | 2 => .int
  | 3 => .int
  | 4 => .int
  | 5 => .int
  | 6 => .long
  | 7 => .array .int
  | 8 => .array .int
  | 9 => .array .int
  | 10 => .array .int
  | 11 => .array .int
  | 12 => .array .int
  | 13 => .array .int
  | 14 => .array .int
  | _ => .array .int
abbrev wsX40 : List Cond := u_ws RX4 TX4 16
theorem nmX4 : ∀ a, a < 16 → ∀ b, b < 16 → a ≠ b → (TX4 a).2.1 ≠ (TX4 b).2.1 := by decide +kernel
theorem tyX4_ok : ∀ k, k < 16 → parseFieldDescriptor (TX4 k).2.2.1 = some (tyX4 k) := by decide +kernel
abbrev cX4_init : ByteArray := prog_6_method_1_code
def yX4_init : MethodName := ⟨RX4, "<init>", "()V"⟩
abbrev cX4_copyFrom : ByteArray := prog_6_method_2_code
def yX4_copyFrom : MethodName := ⟨RX4, "copyFrom", "(LQuietChannels$Scene;)V"⟩
abbrev cX4_copyChannels : ByteArray := prog_6_method_3_code
def yX4_copyChannels : MethodName := ⟨RX4, "copyChannels", "(LQuietChannels$Scene;)V"⟩
abbrev cX4_narrowTo : ByteArray := prog_6_method_4_code
def yX4_narrowTo : MethodName := ⟨RX4, "narrowTo", "(I)V"⟩
abbrev cX4_greatestLow : ByteArray := prog_6_method_5_code
def yX4_greatestLow : MethodName := ⟨RX4, "greatestLow", "()I"⟩
abbrev cX4_beginRow : ByteArray := prog_6_method_6_code
def yX4_beginRow : MethodName := ⟨RX4, "beginRow", "(III)V"⟩
abbrev cX4_isUser : ByteArray := prog_6_method_7_code
def yX4_isUser : MethodName := ⟨RX4, "isUser", "(I)Z"⟩
abbrev cX4_isChannel : ByteArray := prog_6_method_8_code
def yX4_isChannel : MethodName := ⟨RX4, "isChannel", "(I)Z"⟩
abbrev cX4_isShut : ByteArray := prog_6_method_9_code
def yX4_isShut : MethodName := ⟨RX4, "isShut", "(I)Z"⟩
abbrev cX4_isRight : ByteArray := prog_6_method_10_code
def yX4_isRight : MethodName := ⟨RX4, "isRight", "(I)Z"⟩
abbrev cX4_allRight : ByteArray := prog_6_method_11_code
def yX4_allRight : MethodName := ⟨RX4, "allRight", "()Z"⟩
abbrev cX4_userOfName : ByteArray := prog_6_method_12_code
def yX4_userOfName : MethodName := ⟨RX4, "userOfName", "(I)I"⟩
abbrev cX4_allUsers : ByteArray := prog_6_method_13_code
def yX4_allUsers : MethodName := ⟨RX4, "allUsers", "()I"⟩
abbrev cX4_tunedUsers : ByteArray := prog_6_method_14_code
def yX4_tunedUsers : MethodName := ⟨RX4, "tunedUsers", "()I"⟩
abbrev cX4_untunedUsers : ByteArray := prog_6_method_15_code
def yX4_untunedUsers : MethodName := ⟨RX4, "untunedUsers", "()I"⟩
abbrev cX4_isTunedAt : ByteArray := prog_6_method_16_code
def yX4_isTunedAt : MethodName := ⟨RX4, "isTunedAt", "(II)Z"⟩
abbrev cX4_crowd : ByteArray := prog_6_method_17_code
def yX4_crowd : MethodName := ⟨RX4, "crowd", "(II)Z"⟩
abbrev cX4_crowdedBy : ByteArray := prog_6_method_18_code
def yX4_crowdedBy : MethodName := ⟨RX4, "crowdedBy", "(I)I"⟩
abbrev cX4_crowdedCouples : ByteArray := prog_6_method_19_code
def yX4_crowdedCouples : MethodName := ⟨RX4, "crowdedCouples", "()I"⟩
abbrev cX4_nearestOfSite : ByteArray := prog_6_method_20_code
def yX4_nearestOfSite : MethodName := ⟨RX4, "nearestOfSite", "(I)I"⟩
abbrev cX4_wantsSort : ByteArray := prog_6_method_21_code
def yX4_wantsSort : MethodName := ⟨RX4, "wantsSort", "(I)Z"⟩
abbrev cX4_guardedChannels : ByteArray := prog_6_method_22_code
def yX4_guardedChannels : MethodName := ⟨RX4, "guardedChannels", "()J"⟩
def RX5 : String := "QuietChannels$Search"
def TX5 : u_T := fun k => match k with
  | 0 => ("QuietChannels$Search", "wanted", "[I", true)
  | 1 => ("QuietChannels$Search", "size", "I", false)
  | _ => ("QuietChannels$Search", "looks", "I", false)
def tyX5 : Nat → FieldType := fun k => match k with
  | 0 => .array .int
  | 1 => .int
  | _ => .int
abbrev wsX50 : List Cond := u_ws RX5 TX5 3
theorem nmX5 : ∀ a, a < 3 → ∀ b, b < 3 → a ≠ b → (TX5 a).2.1 ≠ (TX5 b).2.1 := by decide +kernel
theorem tyX5_ok : ∀ k, k < 3 → parseFieldDescriptor (TX5 k).2.2.1 = some (tyX5 k) := by decide +kernel
abbrev cX5_init : ByteArray := prog_7_method_1_code
def yX5_init : MethodName := ⟨RX5, "<init>", "()V"⟩
abbrev cX5_seek : ByteArray := prog_7_method_2_code
def yX5_seek : MethodName := ⟨RX5, "seek", "(LQuietChannels$Products;LQuietChannels$Scene;I)I"⟩
abbrev cX5_untune : ByteArray := prog_7_method_3_code
def yX5_untune : MethodName := ⟨RX5, "untune", "(LQuietChannels$Scene;I)V"⟩
def RX6 : String := "QuietChannels"
def TX6 : u_T := fun k => match k with
  | 0 => ("QuietChannels", "tape", "[I", true)
  | 1 => ("QuietChannels", "tapeSize", "I", false)
  | 2 => ("QuietChannels", "faultKind", "I", false)
  | 3 => ("QuietChannels", "faultPlace", "I", false)
  | 4 => ("QuietChannels", "scene", "LQuietChannels$Scene;", false)
  | 5 => ("QuietChannels", "trial", "LQuietChannels$Scene;", true)
  | 6 => ("QuietChannels", "list", "LQuietChannels$Products;", true)
  | 7 => ("QuietChannels", "search", "LQuietChannels$Search;", true)
  | 8 => ("QuietChannels", "history", "LQuietChannels$History;", true)
  | 9 => ("QuietChannels", "image", "LQuietChannels$Image;", true)
  | _ => ("QuietChannels", "imageKept", "Z", false)
def tyX6 : Nat → FieldType := fun k => match k with
  | 0 => .array .int
  | 1 => .int
  | 2 => .int
  | 3 => .int
  | 4 => .object "QuietChannels$Scene"
  | 5 => .object "QuietChannels$Scene"
  | 6 => .object "QuietChannels$Products"
  | 7 => .object "QuietChannels$Search"
  | 8 => .object "QuietChannels$History"
  | 9 => .object "QuietChannels$Image"
  | _ => .boolean
abbrev wsX60 : List Cond := u_ws RX6 TX6 11
theorem nmX6 : ∀ a, a < 11 → ∀ b, b < 11 → a ≠ b → (TX6 a).2.1 ≠ (TX6 b).2.1 := by decide +kernel
theorem tyX6_ok : ∀ k, k < 11 → parseFieldDescriptor (TX6 k).2.2.1 = some (tyX6 k) := by decide +kernel
abbrev cX6_init : ByteArray := prog_1_method_1_code
def yX6_init : MethodName := ⟨RX6, "<init>", "()V"⟩
abbrev cX6_feed : ByteArray := prog_1_method_2_code
def yX6_feed : MethodName := ⟨RX6, "feed", "(IIIII)I"⟩
abbrev cX6_putBytes : ByteArray := prog_1_method_3_code
def yX6_putBytes : MethodName := ⟨RX6, "putBytes", "(I)V"⟩
abbrev cX6_text : ByteArray := prog_1_method_4_code
def yX6_text : MethodName := ⟨RX6, "text", "(I)I"⟩
abbrev cX6_fault : ByteArray := prog_1_method_5_code
def yX6_fault : MethodName := ⟨RX6, "fault", "(I)I"⟩
abbrev cX6_named : ByteArray := prog_1_method_6_code
def yX6_named : MethodName := ⟨RX6, "named", "(I)I"⟩
abbrev cX6_tune : ByteArray := prog_1_method_7_code
def yX6_tune : MethodName := ⟨RX6, "tune", "(II)I"⟩
abbrev cX6_block : ByteArray := prog_1_method_8_code
def yX6_block : MethodName := ⟨RX6, "block", "(I)I"⟩
abbrev cX6_power : ByteArray := prog_1_method_9_code
def yX6_power : MethodName := ⟨RX6, "power", "(II)I"⟩
abbrev cX6_slots : ByteArray := prog_1_method_10_code
def yX6_slots : MethodName := ⟨RX6, "slots", "(II)I"⟩
abbrev cX6_complete : ByteArray := prog_1_method_11_code
def yX6_complete : MethodName := ⟨RX6, "complete", "()I"⟩
abbrev cX6_mend : ByteArray := prog_1_method_12_code
def yX6_mend : MethodName := ⟨RX6, "mend", "()I"⟩
abbrev cX6_adoptTrial : ByteArray := prog_1_method_13_code
def yX6_adoptTrial : MethodName := ⟨RX6, "adoptTrial", "()V"⟩
abbrev cX6_undo : ByteArray := prog_1_method_14_code
def yX6_undo : MethodName := ⟨RX6, "undo", "()I"⟩
abbrev cX6_keep : ByteArray := prog_1_method_15_code
def yX6_keep : MethodName := ⟨RX6, "keep", "()I"⟩
abbrev cX6_back : ByteArray := prog_1_method_16_code
def yX6_back : MethodName := ⟨RX6, "back", "()I"⟩
abbrev cX6_user : ByteArray := prog_1_method_17_code
def yX6_user : MethodName := ⟨RX6, "user", "(II)I"⟩
abbrev cX6_blocked : ByteArray := prog_1_method_18_code
def yX6_blocked : MethodName := ⟨RX6, "blocked", "(I)I"⟩
abbrev cX6_linked : ByteArray := prog_1_method_19_code
def yX6_linked : MethodName := ⟨RX6, "linked", "(II)I"⟩
abbrev cX6_count : ByteArray := prog_1_method_20_code
def yX6_count : MethodName := ⟨RX6, "count", "(I)I"⟩
abbrev cX6_products : ByteArray := prog_1_method_21_code
def yX6_products : MethodName := ⟨RX6, "products", "(I)I"⟩
abbrev cX6_product : ByteArray := prog_1_method_22_code
def yX6_product : MethodName := ⟨RX6, "product", "(II)I"⟩
abbrev cX6_bySort : ByteArray := prog_1_method_23_code
def yX6_bySort : MethodName := ⟨RX6, "bySort", "(II)I"⟩
abbrev cX6_hits : ByteArray := prog_1_method_24_code
def yX6_hits : MethodName := ⟨RX6, "hits", "(I)I"⟩
abbrev cX6_hitBy : ByteArray := prog_1_method_25_code
def yX6_hitBy : MethodName := ⟨RX6, "hitBy", "(II)I"⟩
abbrev cX6_loudest : ByteArray := prog_1_method_26_code
def yX6_loudest : MethodName := ⟨RX6, "loudest", "()I"⟩
abbrev cX6_when : ByteArray := prog_1_method_27_code
def yX6_when : MethodName := ⟨RX6, "when", "(I)I"⟩
abbrev cX6_clearance : ByteArray := prog_1_method_28_code
def yX6_clearance : MethodName := ⟨RX6, "clearance", "(I)I"⟩
abbrev cX6_worst : ByteArray := prog_1_method_29_code
def yX6_worst : MethodName := ⟨RX6, "worst", "()I"⟩
abbrev cX6_rank : ByteArray := prog_1_method_30_code
def yX6_rank : MethodName := ⟨RX6, "rank", "(I)I"⟩
abbrev cX6_crowds : ByteArray := prog_1_method_31_code
def yX6_crowds : MethodName := ⟨RX6, "crowds", "(I)I"⟩
abbrev cX6_nearest : ByteArray := prog_1_method_32_code
def yX6_nearest : MethodName := ⟨RX6, "nearest", "(I)I"⟩
abbrev cX6_mostSpace : ByteArray := prog_1_method_33_code
def yX6_mostSpace : MethodName := ⟨RX6, "mostSpace", "()I"⟩
abbrev cX6_clean : ByteArray := prog_1_method_34_code
def yX6_clean : MethodName := ⟨RX6, "clean", "()I"⟩
abbrev cX6_fits : ByteArray := prog_1_method_35_code
def yX6_fits : MethodName := ⟨RX6, "fits", "(II)I"⟩
abbrev cX6_fitsOnTrial : ByteArray := prog_1_method_36_code
def yX6_fitsOnTrial : MethodName := ⟨RX6, "fitsOnTrial", "(II)Z"⟩
abbrev cX6_free : ByteArray := prog_1_method_37_code
def yX6_free : MethodName := ⟨RX6, "free", "(I)I"⟩
abbrev cX6_freeAt : ByteArray := prog_1_method_38_code
def yX6_freeAt : MethodName := ⟨RX6, "freeAt", "(II)I"⟩
abbrev cX6_spare : ByteArray := prog_1_method_39_code
def yX6_spare : MethodName := ⟨RX6, "spare", "(I)I"⟩
abbrev cX6_trouble : ByteArray := prog_1_method_40_code
def yX6_trouble : MethodName := ⟨RX6, "trouble", "(LQuietChannels$Scene;)I"⟩
abbrev cX6_ifTuned : ByteArray := prog_1_method_41_code
def yX6_ifTuned : MethodName := ⟨RX6, "ifTuned", "(II)I"⟩
abbrev cX6_quietest : ByteArray := prog_1_method_42_code
def yX6_quietest : MethodName := ⟨RX6, "quietest", "(I)I"⟩
abbrev cX6_bestSwap : ByteArray := prog_1_method_43_code
def yX6_bestSwap : MethodName := ⟨RX6, "bestSwap", "()I"⟩
abbrev cX6_troubleOfSwap : ByteArray := prog_1_method_44_code
def yX6_troubleOfSwap : MethodName := ⟨RX6, "troubleOfSwap", "(II)I"⟩
abbrev cX6_mostPower : ByteArray := prog_1_method_45_code
def yX6_mostPower : MethodName := ⟨RX6, "mostPower", "(I)I"⟩
abbrev cX6_mostGuard : ByteArray := prog_1_method_46_code
def yX6_mostGuard : MethodName := ⟨RX6, "mostGuard", "()I"⟩
abbrev cX6_turned : ByteArray := prog_1_method_47_code
def yX6_turned : MethodName := ⟨RX6, "turned", "(I)I"⟩
abbrev cX6_left : ByteArray := prog_1_method_48_code
def yX6_left : MethodName := ⟨RX6, "left", "()I"⟩
abbrev cX6_turnDown : ByteArray := prog_1_method_49_code
def yX6_turnDown : MethodName := ⟨RX6, "turnDown", "()I"⟩
abbrev cX6_planAll : ByteArray := prog_1_method_50_code
def yX6_planAll : MethodName := ⟨RX6, "planAll", "()I"⟩
abbrev cX6_planned : ByteArray := prog_1_method_51_code
def yX6_planned : MethodName := ⟨RX6, "planned", "(I)I"⟩
abbrev cX6_mended : ByteArray := prog_1_method_52_code
def yX6_mended : MethodName := ⟨RX6, "mended", "()I"⟩
abbrev cX6_findMend : ByteArray := prog_1_method_53_code
def yX6_findMend : MethodName := ⟨RX6, "findMend", "()I"⟩
abbrev cX6_leastBand : ByteArray := prog_1_method_54_code
def yX6_leastBand : MethodName := ⟨RX6, "leastBand", "()I"⟩
abbrev cX6_grown : ByteArray := prog_1_method_55_code
def yX6_grown : MethodName := ⟨RX6, "grown", "(IIII)I"⟩
abbrev cX6_growTrial : ByteArray := prog_1_method_56_code
def yX6_growTrial : MethodName := ⟨RX6, "growTrial", "(II)I"⟩
abbrev cX6_chance : ByteArray := prog_1_method_57_code
def yX6_chance : MethodName := ⟨RX6, "chance", "(III)I"⟩
abbrev cX6_loseOnTrial : ByteArray := prog_1_method_58_code
def yX6_loseOnTrial : MethodName := ⟨RX6, "loseOnTrial", "(I)I"⟩
def RX7 : String := "QuietChannelsModel"
def TX7 : u_T := fun k => match k with
  | 0 => ("QuietChannelsModel", "thrown", "I", false)
  | 1 => ("QuietChannelsModel", "tape", "[I", true)
  | 2 => ("QuietChannelsModel", "taped", "I", false)
  | 3 => ("QuietChannelsModel", "number", "[I", true)
  | 4 => ("QuietChannelsModel", "isTold", "[Z", true)
  | 5 => ("QuietChannelsModel", "name", "[I", true)
  | 6 => ("QuietChannelsModel", "site", "[I", true)
  | 7 => ("QuietChannelsModel", "powerTold", "[I", true)
  | 8 => ("QuietChannelsModel", "low", "[I", true)
  | 9 => ("QuietChannelsModel", "high", "[I", true)
  | 10 => ("QuietChannelsModel", "fixed", "[I", true)
  | 11 => ("QuietChannelsModel", "slotsTold", "[I", true)
  | 12 => ("QuietChannelsModel", "linkLoss", "[I", true)
  | 13 => ("QuietChannelsModel", "isBlocked", "[Z", true)
  | 14 => ("QuietChannelsModel", "isBehind", "Z", false)
  | 15 => ("QuietChannelsModel", "lines", "I", false)
  | 16 => ("QuietChannelsModel", "size", "I", false)
  | 17 => ("QuietChannelsModel", "at", "I", false)
  | 18 => ("QuietChannelsModel", "place", "I", false)
  | 19 => ("QuietChannelsModel", "sort", "I", false)
  | 20 => ("QuietChannelsModel", "value", "I", false)
  | 21 => ("QuietChannelsModel", "fault", "I", false)
  | 22 => ("QuietChannelsModel", "faultPlace", "I", false)
  | 23 => ("QuietChannelsModel", "lastFault", "I", false)
  | 24 => ("QuietChannelsModel", "lastPlace", "I", false)
  | 25 => ("QuietChannelsModel", "s", "[I", true)
  | 26 => ("QuietChannelsModel", "kept", "[I", true)
  | 27 => ("QuietChannelsModel", "aside", "[I", true)
  | 28 => ("QuietChannelsModel", "undoable", "I", false)
  | 29 => ("QuietChannelsModel", "hasImage", "Z", false)
  | 30 => ("QuietChannelsModel", "band", "I", false)
  | 31 => ("QuietChannelsModel", "guard", "I", false)
  | 32 => ("QuietChannelsModel", "space", "I", false)
  | 33 => ("QuietChannelsModel", "orders", "I", false)
  | 34 => ("QuietChannelsModel", "pSort", "[I", true)
  | 35 => ("QuietChannelsModel", "pA", "[I", true)
  | 36 => ("QuietChannelsModel", "pB", "[I", true)
  | 37 => ("QuietChannelsModel", "pC", "[I", true)
  | 38 => ("QuietChannelsModel", "pChannel", "[I", true)
  | 39 => ("QuietChannelsModel", "pLevel", "[I", true)
  | 40 => ("QuietChannelsModel", "pSlots", "[I", true)
  | 41 => ("QuietChannelsModel", "products", "I", false)
  | 42 => ("QuietChannelsModel", "looks", "I", false)
  | 43 => ("QuietChannelsModel", "row", "[I", true)
  | 44 => ("QuietChannelsModel", "drawn", "I", false)
  | _ => ("QuietChannelsModel", "first", "[I", true)
def tyX7 : Nat → FieldType := fun k => match k with
  | 0 => .int
  | 1 => .array .int
  | 2 => .int
  | 3 => .array .int
  | 4 => .array .boolean
  | 5 => .array .int
  | 6 => .array .int
  | 7 => .array .int
  | 8 => .array .int
  | 9 => .array .int
  | 10 => .array .int
  | 11 => .array .int
  | 12 => .array .int
  | 13 => .array .boolean
  | 14 => .boolean
  | 15 => .int
  | 16 => .int
  | 17 => .int
  | 18 => .int
  | 19 => .int
  | 20 => .int
  | 21 => .int
  | 22 => .int
  | 23 => .int
  | 24 => .int
  | 25 => .array .int
  | 26 => .array .int
  | 27 => .array .int
  | 28 => .int
  | 29 => .boolean
  | 30 => .int
  | 31 => .int
  | 32 => .int
  | 33 => .int
  | 34 => .array .int
  | 35 => .array .int
  | 36 => .array .int
  | 37 => .array .int
  | 38 => .array .int
  | 39 => .array .int
  | 40 => .array .int
  | 41 => .int
  | 42 => .int
  | 43 => .array .int
  | 44 => .int
  | _ => .array .int
abbrev wsX70 : List Cond := u_ws RX7 TX7 46
theorem nmX7 : ∀ a, a < 46 → ∀ b, b < 46 → a ≠ b → (TX7 a).2.1 ≠ (TX7 b).2.1 := by decide +kernel
theorem tyX7_ok : ∀ k, k < 46 → parseFieldDescriptor (TX7 k).2.2.1 = some (tyX7 k) := by decide +kernel
abbrev cX7_init : ByteArray := prog_9_method_1_code
def yX7_init : MethodName := ⟨RX7, "<init>", "()V"⟩
abbrev cX7_thrown : ByteArray := prog_9_method_2_code
def yX7_thrown : MethodName := ⟨RX7, "thrown", "()I"⟩
abbrev cX7_feed : ByteArray := prog_9_method_3_code
def yX7_feed : MethodName := ⟨RX7, "feed", "(IIIII)I"⟩
abbrev cX7_here : ByteArray := prog_9_method_4_code
def yX7_here : MethodName := ⟨RX7, "here", "()I"⟩
abbrev cX7_isSmall : ByteArray := prog_9_method_5_code
def yX7_isSmall : MethodName := ⟨RX7, "isSmall", "(I)Z"⟩
abbrev cX7_isDigit : ByteArray := prog_9_method_6_code
def yX7_isDigit : MethodName := ⟨RX7, "isDigit", "(I)Z"⟩
abbrev cX7_token : ByteArray := prog_9_method_7_code
def yX7_token : MethodName := ⟨RX7, "token", "()V"⟩
abbrev cX7_wordHere : ByteArray := prog_9_method_8_code
def yX7_wordHere : MethodName := ⟨RX7, "wordHere", "()I"⟩
abbrev cX7_nameHere : ByteArray := prog_9_method_9_code
def yX7_nameHere : MethodName := ⟨RX7, "nameHere", "()V"⟩
abbrev cX7_wrong : ByteArray := prog_9_method_10_code
def yX7_wrong : MethodName := ⟨RX7, "wrong", "(I)V"⟩
abbrev cX7_goOn : ByteArray := prog_9_method_11_code
def yX7_goOn : MethodName := ⟨RX7, "goOn", "()V"⟩
abbrev cX7_numeral : ByteArray := prog_9_method_12_code
def yX7_numeral : MethodName := ⟨RX7, "numeral", "(II)I"⟩
abbrev cX7_reading : ByteArray := prog_9_method_13_code
def yX7_reading : MethodName := ⟨RX7, "reading", "(I)I"⟩
abbrev cX7_reads : ByteArray := prog_9_method_14_code
def yX7_reads : MethodName := ⟨RX7, "reads", "(II)V"⟩
abbrev cX7_once : ByteArray := prog_9_method_15_code
def yX7_once : MethodName := ⟨RX7, "once", "(I)V"⟩
abbrev cX7_readOnce : ByteArray := prog_9_method_16_code
def yX7_readOnce : MethodName := ⟨RX7, "readOnce", "(IIII)V"⟩
abbrev cX7_namedAt : ByteArray := prog_9_method_17_code
def yX7_namedAt : MethodName := ⟨RX7, "namedAt", "(III)I"⟩
abbrev cX7_readBand : ByteArray := prog_9_method_18_code
def yX7_readBand : MethodName := ⟨RX7, "readBand", "()V"⟩
abbrev cX7_readLoss : ByteArray := prog_9_method_19_code
def yX7_readLoss : MethodName := ⟨RX7, "readLoss", "()V"⟩
abbrev cX7_readUser : ByteArray := prog_9_method_20_code
def yX7_readUser : MethodName := ⟨RX7, "readUser", "()V"⟩
abbrev cX7_userOnce : ByteArray := prog_9_method_21_code
def yX7_userOnce : MethodName := ⟨RX7, "userOnce", "([I)I"⟩
abbrev cX7_readFixed : ByteArray := prog_9_method_22_code
def yX7_readFixed : MethodName := ⟨RX7, "readFixed", "()V"⟩
abbrev cX7_readSlots : ByteArray := prog_9_method_23_code
def yX7_readSlots : MethodName := ⟨RX7, "readSlots", "()V"⟩
abbrev cX7_readLink : ByteArray := prog_9_method_24_code
def yX7_readLink : MethodName := ⟨RX7, "readLink", "()V"⟩
abbrev cX7_readBlock : ByteArray := prog_9_method_25_code
def yX7_readBlock : MethodName := ⟨RX7, "readBlock", "()V"⟩
abbrev cX7_readLine : ByteArray := prog_9_method_26_code
def yX7_readLine : MethodName := ⟨RX7, "readLine", "()V"⟩
abbrev cX7_freshText : ByteArray := prog_9_method_27_code
def yX7_freshText : MethodName := ⟨RX7, "freshText", "()V"⟩
abbrev cX7_readText : ByteArray := prog_9_method_28_code
def yX7_readText : MethodName := ⟨RX7, "readText", "(I)V"⟩
abbrev cX7_takeText : ByteArray := prog_9_method_29_code
def yX7_takeText : MethodName := ⟨RX7, "takeText", "()V"⟩
abbrev cX7_text : ByteArray := prog_9_method_30_code
def yX7_text : MethodName := ⟨RX7, "text", "(I)I"⟩
abbrev cX7_fault : ByteArray := prog_9_method_31_code
def yX7_fault : MethodName := ⟨RX7, "fault", "(I)I"⟩
abbrev cX7_users : ByteArray := prog_9_method_32_code
def yX7_users : MethodName := ⟨RX7, "users", "()I"⟩
abbrev cX7_named : ByteArray := prog_9_method_33_code
def yX7_named : MethodName := ⟨RX7, "named", "(I)I"⟩
abbrev cX7_begins : ByteArray := prog_9_method_34_code
def yX7_begins : MethodName := ⟨RX7, "begins", "()V"⟩
abbrev cX7_asTold : ByteArray := prog_9_method_35_code
def yX7_asTold : MethodName := ⟨RX7, "asTold", "()V"⟩
abbrev cX7_lays : ByteArray := prog_9_method_36_code
def yX7_lays : MethodName := ⟨RX7, "lays", "(I)V"⟩
abbrev cX7_laysBack : ByteArray := prog_9_method_37_code
def yX7_laysBack : MethodName := ⟨RX7, "laysBack", "(I)V"⟩
abbrev cX7_goesAside : ByteArray := prog_9_method_38_code
def yX7_goesAside : MethodName := ⟨RX7, "goesAside", "()V"⟩
abbrev cX7_comesBack : ByteArray := prog_9_method_39_code
def yX7_comesBack : MethodName := ⟨RX7, "comesBack", "()V"⟩
abbrev cX7_remembers : ByteArray := prog_9_method_40_code
def yX7_remembers : MethodName := ⟨RX7, "remembers", "()V"⟩
abbrev cX7_undo : ByteArray := prog_9_method_41_code
def yX7_undo : MethodName := ⟨RX7, "undo", "()I"⟩
abbrev cX7_tuned : ByteArray := prog_9_method_42_code
def yX7_tuned : MethodName := ⟨RX7, "tuned", "()I"⟩
abbrev cX7_keep : ByteArray := prog_9_method_43_code
def yX7_keep : MethodName := ⟨RX7, "keep", "()I"⟩
abbrev cX7_back : ByteArray := prog_9_method_44_code
def yX7_back : MethodName := ⟨RX7, "back", "()I"⟩
abbrev cX7_isUser : ByteArray := prog_9_method_45_code
def yX7_isUser : MethodName := ⟨RX7, "isUser", "(I)Z"⟩
abbrev cX7_isChannel : ByteArray := prog_9_method_46_code
def yX7_isChannel : MethodName := ⟨RX7, "isChannel", "(I)Z"⟩
abbrev cX7_tune : ByteArray := prog_9_method_47_code
def yX7_tune : MethodName := ⟨RX7, "tune", "(II)I"⟩
abbrev cX7_block : ByteArray := prog_9_method_48_code
def yX7_block : MethodName := ⟨RX7, "block", "(I)I"⟩
abbrev cX7_power : ByteArray := prog_9_method_49_code
def yX7_power : MethodName := ⟨RX7, "power", "(II)I"⟩
abbrev cX7_slots : ByteArray := prog_9_method_50_code
def yX7_slots : MethodName := ⟨RX7, "slots", "(II)I"⟩
abbrev cX7_bitOf : ByteArray := prog_9_method_51_code
def yX7_bitOf : MethodName := ⟨RX7, "bitOf", "(I)I"⟩
abbrev cX7_lossOf : ByteArray := prog_9_method_52_code
def yX7_lossOf : MethodName := ⟨RX7, "lossOf", "(I)I"⟩
abbrev cX7_isThere : ByteArray := prog_9_method_53_code
def yX7_isThere : MethodName := ⟨RX7, "isThere", "(II)Z"⟩
abbrev cX7_timesA : ByteArray := prog_9_method_54_code
def yX7_timesA : MethodName := ⟨RX7, "timesA", "(I)I"⟩
abbrev cX7_timesB : ByteArray := prog_9_method_55_code
def yX7_timesB : MethodName := ⟨RX7, "timesB", "(I)I"⟩
abbrev cX7_timesC : ByteArray := prog_9_method_56_code
def yX7_timesC : MethodName := ⟨RX7, "timesC", "(I)I"⟩
abbrev cX7_without : ByteArray := prog_9_method_57_code
def yX7_without : MethodName := ⟨RX7, "without", "(I)I"⟩
abbrev cX7_adds : ByteArray := prog_9_method_58_code
def yX7_adds : MethodName := ⟨RX7, "adds", "(IIII)V"⟩
abbrev cX7_laysProducts : ByteArray := prog_9_method_59_code
def yX7_laysProducts : MethodName := ⟨RX7, "laysProducts", "()V"⟩
abbrev cX7_laysSort : ByteArray := prog_9_method_60_code
def yX7_laysSort : MethodName := ⟨RX7, "laysSort", "(II)V"⟩
abbrev cX7_isIn : ByteArray := prog_9_method_61_code
def yX7_isIn : MethodName := ⟨RX7, "isIn", "(II)Z"⟩
abbrev cX7_hits : ByteArray := prog_9_method_62_code
def yX7_hits : MethodName := ⟨RX7, "hits", "(II)Z"⟩
abbrev cX7_mayHit : ByteArray := prog_9_method_63_code
def yX7_mayHit : MethodName := ⟨RX7, "mayHit", "(II)Z"⟩
abbrev cX7_hitsOf : ByteArray := prog_9_method_64_code
def yX7_hitsOf : MethodName := ⟨RX7, "hitsOf", "(I)I"⟩
abbrev cX7_bits : ByteArray := prog_9_method_65_code
def yX7_bits : MethodName := ⟨RX7, "bits", "(I)I"⟩
abbrev cX7_allHits : ByteArray := prog_9_method_66_code
def yX7_allHits : MethodName := ⟨RX7, "allHits", "()I"⟩
abbrev cX7_crowd : ByteArray := prog_9_method_67_code
def yX7_crowd : MethodName := ⟨RX7, "crowd", "(II)Z"⟩
abbrev cX7_crowdsOf : ByteArray := prog_9_method_68_code
def yX7_crowdsOf : MethodName := ⟨RX7, "crowdsOf", "(I)I"⟩
abbrev cX7_allCrowds : ByteArray := prog_9_method_69_code
def yX7_allCrowds : MethodName := ⟨RX7, "allCrowds", "()I"⟩
abbrev cX7_highOf : ByteArray := prog_9_method_70_code
def yX7_highOf : MethodName := ⟨RX7, "highOf", "(I)I"⟩
abbrev cX7_isRight : ByteArray := prog_9_method_71_code
def yX7_isRight : MethodName := ⟨RX7, "isRight", "(I)Z"⟩
abbrev cX7_isClean : ByteArray := prog_9_method_72_code
def yX7_isClean : MethodName := ⟨RX7, "isClean", "()Z"⟩
abbrev cX7_searches : ByteArray := prog_9_method_73_code
def yX7_searches : MethodName := ⟨RX7, "searches", "(I)I"⟩
abbrev cX7_clears : ByteArray := prog_9_method_74_code
def yX7_clears : MethodName := ⟨RX7, "clears", "(I)V"⟩
abbrev cX7_nextOf : ByteArray := prog_9_method_75_code
def yX7_nextOf : MethodName := ⟨RX7, "nextOf", "(II)I"⟩
abbrev cX7_aheadOf : ByteArray := prog_9_method_76_code
def yX7_aheadOf : MethodName := ⟨RX7, "aheadOf", "(II)I"⟩
abbrev cX7_nextFit : ByteArray := prog_9_method_77_code
def yX7_nextFit : MethodName := ⟨RX7, "nextFit", "(I)I"⟩
abbrev cX7_withoutChannels : ByteArray := prog_9_method_78_code
def yX7_withoutChannels : MethodName := ⟨RX7, "withoutChannels", "()I"⟩
abbrev cX7_complete : ByteArray := prog_9_method_79_code
def yX7_complete : MethodName := ⟨RX7, "complete", "()I"⟩
abbrev cX7_swapsIn : ByteArray := prog_9_method_80_code
def yX7_swapsIn : MethodName := ⟨RX7, "swapsIn", "()V"⟩
abbrev cX7_mends : ByteArray := prog_9_method_81_code
def yX7_mends : MethodName := ⟨RX7, "mends", "()I"⟩
abbrev cX7_mend : ByteArray := prog_9_method_82_code
def yX7_mend : MethodName := ⟨RX7, "mend", "()I"⟩
abbrev cX7_mended : ByteArray := prog_9_method_83_code
def yX7_mended : MethodName := ⟨RX7, "mended", "()I"⟩
abbrev cX7_planned : ByteArray := prog_9_method_84_code
def yX7_planned : MethodName := ⟨RX7, "planned", "(I)I"⟩
abbrev cX7_leastBand : ByteArray := prog_9_method_85_code
def yX7_leastBand : MethodName := ⟨RX7, "leastBand", "()I"⟩
abbrev cX7_sumOf : ByteArray := prog_9_method_86_code
def yX7_sumOf : MethodName := ⟨RX7, "sumOf", "(IIII)I"⟩
abbrev cX7_hitsRow : ByteArray := prog_9_method_87_code
def yX7_hitsRow : MethodName := ⟨RX7, "hitsRow", "(IIIIII)Z"⟩
abbrev cX7_isRowClean : ByteArray := prog_9_method_88_code
def yX7_isRowClean : MethodName := ⟨RX7, "isRowClean", "(IIII)Z"⟩
abbrev cX7_grown : ByteArray := prog_9_method_89_code
def yX7_grown : MethodName := ⟨RX7, "grown", "(IIII)I"⟩
abbrev cX7_user : ByteArray := prog_9_method_90_code
def yX7_user : MethodName := ⟨RX7, "user", "(II)I"⟩
abbrev cX7_blocked : ByteArray := prog_9_method_91_code
def yX7_blocked : MethodName := ⟨RX7, "blocked", "(I)I"⟩
abbrev cX7_products : ByteArray := prog_9_method_92_code
def yX7_products : MethodName := ⟨RX7, "products", "(I)I"⟩
abbrev cX7_heard : ByteArray := prog_9_method_93_code
def yX7_heard : MethodName := ⟨RX7, "heard", "()I"⟩
abbrev cX7_product : ByteArray := prog_9_method_94_code
def yX7_product : MethodName := ⟨RX7, "product", "(II)I"⟩
abbrev cX7_hits_ : ByteArray := prog_9_method_95_code
def yX7_hits_ : MethodName := ⟨RX7, "hits", "(I)I"⟩
abbrev cX7_hitBy : ByteArray := prog_9_method_96_code
def yX7_hitBy : MethodName := ⟨RX7, "hitBy", "(II)I"⟩
abbrev cX7_crowds : ByteArray := prog_9_method_97_code
def yX7_crowds : MethodName := ⟨RX7, "crowds", "(I)I"⟩
abbrev cX7_clean : ByteArray := prog_9_method_98_code
def yX7_clean : MethodName := ⟨RX7, "clean", "()I"⟩
abbrev cX7_fitsAt : ByteArray := prog_9_method_99_code
def yX7_fitsAt : MethodName := ⟨RX7, "fitsAt", "(II)Z"⟩
abbrev cX7_fits : ByteArray := prog_9_method_100_code
def yX7_fits : MethodName := ⟨RX7, "fits", "(II)I"⟩
abbrev cX7_free : ByteArray := prog_9_method_101_code
def yX7_free : MethodName := ⟨RX7, "free", "(I)I"⟩
abbrev cX7_freeAt : ByteArray := prog_9_method_102_code
def yX7_freeAt : MethodName := ⟨RX7, "freeAt", "(II)I"⟩
abbrev cX7_noiseAt : ByteArray := prog_9_method_103_code
def yX7_noiseAt : MethodName := ⟨RX7, "noiseAt", "(II)I"⟩
abbrev cX7_quietest : ByteArray := prog_9_method_104_code
def yX7_quietest : MethodName := ⟨RX7, "quietest", "(I)I"⟩
abbrev cX7_ifTuned : ByteArray := prog_9_method_105_code
def yX7_ifTuned : MethodName := ⟨RX7, "ifTuned", "(II)I"⟩
abbrev cX7_madeBy : ByteArray := prog_9_method_106_code
def yX7_madeBy : MethodName := ⟨RX7, "madeBy", "(I)I"⟩
abbrev cX7_worstNow : ByteArray := prog_9_method_107_code
def yX7_worstNow : MethodName := ⟨RX7, "worstNow", "()I"⟩
abbrev cX7_worst : ByteArray := prog_9_method_108_code
def yX7_worst : MethodName := ⟨RX7, "worst", "()I"⟩
abbrev cX7_rank : ByteArray := prog_9_method_109_code
def yX7_rank : MethodName := ⟨RX7, "rank", "(I)I"⟩
abbrev cX7_bySort : ByteArray := prog_9_method_110_code
def yX7_bySort : MethodName := ⟨RX7, "bySort", "(II)I"⟩
abbrev cX7_loudest : ByteArray := prog_9_method_111_code
def yX7_loudest : MethodName := ⟨RX7, "loudest", "()I"⟩
abbrev cX7_turnsDown : ByteArray := prog_9_method_112_code
def yX7_turnsDown : MethodName := ⟨RX7, "turnsDown", "()I"⟩
abbrev cX7_turned : ByteArray := prog_9_method_113_code
def yX7_turned : MethodName := ⟨RX7, "turned", "(I)I"⟩
abbrev cX7_left : ByteArray := prog_9_method_114_code
def yX7_left : MethodName := ⟨RX7, "left", "()I"⟩
abbrev cX7_exchanges : ByteArray := prog_9_method_115_code
def yX7_exchanges : MethodName := ⟨RX7, "exchanges", "(II)V"⟩
abbrev cX7_bestSwap : ByteArray := prog_9_method_116_code
def yX7_bestSwap : MethodName := ⟨RX7, "bestSwap", "()I"⟩
abbrev cX7_when : ByteArray := prog_9_method_117_code
def yX7_when : MethodName := ⟨RX7, "when", "(I)I"⟩
abbrev cX7_linked : ByteArray := prog_9_method_118_code
def yX7_linked : MethodName := ⟨RX7, "linked", "(II)I"⟩
abbrev cX7_clearance : ByteArray := prog_9_method_119_code
def yX7_clearance : MethodName := ⟨RX7, "clearance", "(I)I"⟩
abbrev cX7_nearest : ByteArray := prog_9_method_120_code
def yX7_nearest : MethodName := ⟨RX7, "nearest", "(I)I"⟩
abbrev cX7_mostSpace : ByteArray := prog_9_method_121_code
def yX7_mostSpace : MethodName := ⟨RX7, "mostSpace", "()I"⟩
abbrev cX7_spare : ByteArray := prog_9_method_122_code
def yX7_spare : MethodName := ⟨RX7, "spare", "(I)I"⟩
abbrev cX7_hasHits : ByteArray := prog_9_method_123_code
def yX7_hasHits : MethodName := ⟨RX7, "hasHits", "()Z"⟩
abbrev cX7_mostPower : ByteArray := prog_9_method_124_code
def yX7_mostPower : MethodName := ⟨RX7, "mostPower", "(I)I"⟩
abbrev cX7_mostGuard : ByteArray := prog_9_method_125_code
def yX7_mostGuard : MethodName := ⟨RX7, "mostGuard", "()I"⟩
abbrev cX7_draw : ByteArray := prog_9_method_126_code
def yX7_draw : MethodName := ⟨RX7, "draw", "(I)I"⟩
abbrev cX7_chance : ByteArray := prog_9_method_127_code
def yX7_chance : MethodName := ⟨RX7, "chance", "(III)I"⟩
abbrev cX7_blockedMany : ByteArray := prog_9_method_128_code
def yX7_blockedMany : MethodName := ⟨RX7, "blockedMany", "()I"⟩
abbrev cX7_count : ByteArray := prog_9_method_129_code
def yX7_count : MethodName := ⟨RX7, "count", "(I)I"⟩
def RJx145de : String := "java/io/Serializable"
def TJx145de : u_T := fun k => match k with
  | _ => ("", "", "", false)
def tyJx145de : Nat → FieldType := fun k => match k with
  | _ => .int
abbrev wsJx145de0 : List Cond := u_ws RJx145de TJx145de 0
theorem nmJx145de : ∀ a, a < 0 → ∀ b, b < 0 → a ≠ b → (TJx145de a).2.1 ≠ (TJx145de b).2.1 := by decide +kernel
theorem tyJx145de_ok : ∀ k, k < 0 → parseFieldDescriptor (TJx145de k).2.2.1 = some (tyJx145de k) := by decide +kernel
def RJx9f9b0 : String := "java/lang/CharSequence"
def TJx9f9b0 : u_T := fun k => match k with
  | _ => ("", "", "", false)
def tyJx9f9b0 : Nat → FieldType := fun k => match k with
  | _ => .int
abbrev wsJx9f9b00 : List Cond := u_ws RJx9f9b0 TJx9f9b0 0
theorem nmJx9f9b0 : ∀ a, a < 0 → ∀ b, b < 0 → a ≠ b → (TJx9f9b0 a).2.1 ≠ (TJx9f9b0 b).2.1 := by decide +kernel
theorem tyJx9f9b0_ok : ∀ k, k < 0 → parseFieldDescriptor (TJx9f9b0 k).2.2.1 = some (tyJx9f9b0 k) := by decide +kernel
def RJxb160c : String := "java/lang/Comparable"
def TJxb160c : u_T := fun k => match k with
  | _ => ("", "", "", false)
def tyJxb160c : Nat → FieldType := fun k => match k with
  | _ => .int
abbrev wsJxb160c0 : List Cond := u_ws RJxb160c TJxb160c 0
theorem nmJxb160c : ∀ a, a < 0 → ∀ b, b < 0 → a ≠ b → (TJxb160c a).2.1 ≠ (TJxb160c b).2.1 := by decide +kernel
theorem tyJxb160c_ok : ∀ k, k < 0 → parseFieldDescriptor (TJxb160c k).2.2.1 = some (tyJxb160c k) := by decide +kernel
def RJ6 : String := "java/lang/Integer"
def TJ6 : u_T := fun k => match k with
  | _ => ("", "", "", false)
def tyJ6 : Nat → FieldType := fun k => match k with
  | _ => .int
abbrev wsJ60 : List Cond := u_ws RJ6 TJ6 0
theorem nmJ6 : ∀ a, a < 0 → ∀ b, b < 0 → a ≠ b → (TJ6 a).2.1 ≠ (TJ6 b).2.1 := by decide +kernel
theorem tyJ6_ok : ∀ k, k < 0 → parseFieldDescriptor (TJ6 k).2.2.1 = some (tyJ6 k) := by decide +kernel
abbrev cJ6_bitCount_0f7a4 : ByteArray := prog_15_method_49_code
def yJ6_bitCount_0f7a4 : MethodName := ⟨RJ6, "bitCount", "(I)I"⟩
def RJ13 : String := "java/lang/Long"
def TJ13 : u_T := fun k => match k with
  | _ => ("", "", "", false)
def tyJ13 : Nat → FieldType := fun k => match k with
  | _ => .int
abbrev wsJ130 : List Cond := u_ws RJ13 TJ13 0
theorem nmJ13 : ∀ a, a < 0 → ∀ b, b < 0 → a ≠ b → (TJ13 a).2.1 ≠ (TJ13 b).2.1 := by decide +kernel
theorem tyJ13_ok : ∀ k, k < 0 → parseFieldDescriptor (TJ13 k).2.2.1 = some (tyJ13 k) := by decide +kernel
abbrev cJ13_bitCount_95d88 : ByteArray := prog_16_method_50_code
def yJ13_bitCount_95d88 : MethodName := ⟨RJ13, "bitCount", "(J)I"⟩
def RJ9 : String := "java/lang/Math"
def TJ9 : u_T := fun k => match k with
  | _ => ("", "", "", false)
def tyJ9 : Nat → FieldType := fun k => match k with
  | _ => .int
abbrev wsJ90 : List Cond := u_ws RJ9 TJ9 0
theorem nmJ9 : ∀ a, a < 0 → ∀ b, b < 0 → a ≠ b → (TJ9 a).2.1 ≠ (TJ9 b).2.1 := by decide +kernel
theorem tyJ9_ok : ∀ k, k < 0 → parseFieldDescriptor (TJ9 k).2.2.1 = some (tyJ9 k) := by decide +kernel
abbrev cJ9_abs_0f7a4 : ByteArray := prog_17_method_59_code
def yJ9_abs_0f7a4 : MethodName := ⟨RJ9, "abs", "(I)I"⟩
abbrev cJ9_max_7cf53 : ByteArray := prog_17_method_65_code
def yJ9_max_7cf53 : MethodName := ⟨RJ9, "max", "(II)I"⟩
abbrev cJ9_min_7cf53 : ByteArray := prog_17_method_69_code
def yJ9_min_7cf53 : MethodName := ⟨RJ9, "min", "(II)I"⟩
def RJ0 : String := "java/lang/String"
def TJ0 : u_T := fun k => match k with
  | _ => ("", "", "", false)
def tyJ0 : Nat → FieldType := fun k => match k with
  | _ => .int
abbrev wsJ00 : List Cond := u_ws RJ0 TJ0 0
theorem nmJ0 : ∀ a, a < 0 → ∀ b, b < 0 → a ≠ b → (TJ0 a).2.1 ≠ (TJ0 b).2.1 := by decide +kernel
theorem tyJ0_ok : ∀ k, k < 0 → parseFieldDescriptor (TJ0 k).2.2.1 = some (tyJ0 k) := by decide +kernel
abbrev cJ0_length_8abf5 : ByteArray := prog_19_method_54_code
def yJ0_length_8abf5 : MethodName := ⟨RJ0, "length", "()I"⟩
abbrev cJ0_charAt_5068e : ByteArray := prog_19_method_56_code
def yJ0_charAt_5068e : MethodName := ⟨RJ0, "charAt", "(I)C"⟩
abbrev cJ0_coder_7d493 : ByteArray := prog_19_method_152_code
def yJ0_coder_7d493 : MethodName := ⟨RJ0, "coder", "()B"⟩
abbrev cJ0_isLatin1_aae02 : ByteArray := prog_19_method_154_code
def yJ0_isLatin1_aae02 : MethodName := ⟨RJ0, "isLatin1", "()Z"⟩
abbrev cJ0_checkIndex_df160 : ByteArray := prog_19_method_155_code
def yJ0_checkIndex_df160 : MethodName := ⟨RJ0, "checkIndex", "(II)V"⟩
def RJ1 : String := "java/lang/StringLatin1"
def TJ1 : u_T := fun k => match k with
  | _ => ("", "", "", false)
def tyJ1 : Nat → FieldType := fun k => match k with
  | _ => .int
abbrev wsJ10 : List Cond := u_ws RJ1 TJ1 0
theorem nmJ1 : ∀ a, a < 0 → ∀ b, b < 0 → a ≠ b → (TJ1 a).2.1 ≠ (TJ1 b).2.1 := by decide +kernel
theorem tyJ1_ok : ∀ k, k < 0 → parseFieldDescriptor (TJ1 k).2.2.1 = some (tyJ1 k) := by decide +kernel
abbrev cJ1_charAt_3b067 : ByteArray := prog_20_method_2_code
def yJ1_charAt_3b067 : MethodName := ⟨RJ1, "charAt", "([BI)C"⟩
def RJ2 : String := "java/lang/StringUTF16"
def TJ2 : u_T := fun k => match k with
  | _ => ("", "", "", false)
def tyJ2 : Nat → FieldType := fun k => match k with
  | _ => .int
abbrev wsJ20 : List Cond := u_ws RJ2 TJ2 0
theorem nmJ2 : ∀ a, a < 0 → ∀ b, b < 0 → a ≠ b → (TJ2 a).2.1 ≠ (TJ2 b).2.1 := by decide +kernel
theorem tyJ2_ok : ∀ k, k < 0 → parseFieldDescriptor (TJ2 k).2.2.1 = some (tyJ2 k) := by decide +kernel
abbrev cJ2_getChar_3b067 : ByteArray := prog_21_method_5_code
def yJ2_getChar_3b067 : MethodName := ⟨RJ2, "getChar", "([BI)C"⟩
abbrev cJ2_length_9d52b : ByteArray := prog_21_method_6_code
def yJ2_length_9d52b : MethodName := ⟨RJ2, "length", "([B)I"⟩
abbrev cJ2_charAt_3b067 : ByteArray := prog_21_method_83_code
def yJ2_charAt_3b067 : MethodName := ⟨RJ2, "charAt", "([BI)C"⟩
abbrev cJ2_checkIndex_2214a : ByteArray := prog_21_method_91_code
def yJ2_checkIndex_2214a : MethodName := ⟨RJ2, "checkIndex", "(I[B)V"⟩
def RJ10 : String := "java/lang/System"
def TJ10 : u_T := fun k => match k with
  | _ => ("", "", "", false)
def tyJ10 : Nat → FieldType := fun k => match k with
  | _ => .int
abbrev wsJ100 : List Cond := u_ws RJ10 TJ10 0
theorem nmJ10 : ∀ a, a < 0 → ∀ b, b < 0 → a ≠ b → (TJ10 a).2.1 ≠ (TJ10 b).2.1 := by decide +kernel
theorem tyJ10_ok : ∀ k, k < 0 → parseFieldDescriptor (TJ10 k).2.2.1 = some (tyJ10 k) := by decide +kernel
def RJxfd54e : String := "java/lang/constant/Constable"
def TJxfd54e : u_T := fun k => match k with
  | _ => ("", "", "", false)
def tyJxfd54e : Nat → FieldType := fun k => match k with
  | _ => .int
abbrev wsJxfd54e0 : List Cond := u_ws RJxfd54e TJxfd54e 0
theorem nmJxfd54e : ∀ a, a < 0 → ∀ b, b < 0 → a ≠ b → (TJxfd54e a).2.1 ≠ (TJxfd54e b).2.1 := by decide +kernel
theorem tyJxfd54e_ok : ∀ k, k < 0 → parseFieldDescriptor (TJxfd54e k).2.2.1 = some (tyJxfd54e k) := by decide +kernel
def RJx3cf43 : String := "java/lang/constant/ConstantDesc"
def TJx3cf43 : u_T := fun k => match k with
  | _ => ("", "", "", false)
def tyJx3cf43 : Nat → FieldType := fun k => match k with
  | _ => .int
abbrev wsJx3cf430 : List Cond := u_ws RJx3cf43 TJx3cf43 0
theorem nmJx3cf43 : ∀ a, a < 0 → ∀ b, b < 0 → a ≠ b → (TJx3cf43 a).2.1 ≠ (TJx3cf43 b).2.1 := by decide +kernel
theorem tyJx3cf43_ok : ∀ k, k < 0 → parseFieldDescriptor (TJx3cf43 k).2.2.1 = some (tyJx3cf43 k) := by decide +kernel
def RJ3 : String := "jdk/internal/util/Preconditions"
def TJ3 : u_T := fun k => match k with
  | _ => ("", "", "", false)
def tyJ3 : Nat → FieldType := fun k => match k with
  | _ => .int
abbrev wsJ30 : List Cond := u_ws RJ3 TJ3 0
theorem nmJ3 : ∀ a, a < 0 → ∀ b, b < 0 → a ≠ b → (TJ3 a).2.1 ≠ (TJ3 b).2.1 := by decide +kernel
theorem tyJ3_ok : ∀ k, k < 0 → parseFieldDescriptor (TJ3 k).2.2.1 = some (tyJ3 k) := by decide +kernel
abbrev cJ3_checkIndex_8e157 : ByteArray := prog_27_method_11_code
def yJ3_checkIndex_8e157 : MethodName := ⟨RJ3, "checkIndex", "(IILjava/util/function/BiFunction;)I"⟩
def RL : String := "QuietChannelsLaw"
abbrev cL_user : ByteArray := method_3_code
def yL_user : MethodName := ⟨RL, "user", "(LQuietChannels;II[J)I"⟩
abbrev cL_law : ByteArray := code
def yL_law : MethodName := ⟨RL, "law", "([I)Z"⟩
abbrev vwCl : List vw_C := [(RX0, TX0, 2), (RX1, TX1, 4), (RX2, TX2, 7), (RX3, TX3, 14), (RX4, TX4, 16), (RX5, TX5, 3), (RX6, TX6, 11), (RX7, TX7, 46)]
