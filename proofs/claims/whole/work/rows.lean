section
-- ===== PART A: goes FIRST, ahead of the names: the tables' words, and 'selects' of the private methods out of them =====
/-- a private method of a class that the tables say can be made, by its rows of tables_1 -/
def lw_okq (q : MethodName × Nat) : Prop := (q.1.cls ≠ "java/lang/invoke/MethodHandle" ∧ q.1.cls ≠ "java/lang/invoke/VarHandle") ∧ Cond.instantiable q.1.cls q.2 ∈ tables_1 ∧ Cond.privateMethod q.1 ∈ tables_1 ∧ Cond.instanceMethod q.1 ∈ tables_1
theorem lw_p0 : lw_okq (⟨"TinkerTailor", "refuse", "(I)I"⟩, 11) := ⟨⟨by decide +kernel, by decide +kernel⟩, List.mem_of_getElem? (i := 16) (by decide +kernel), List.mem_of_getElem? (i := 199) (by decide +kernel), List.mem_of_getElem? (i := 200) (by decide +kernel)⟩
theorem lw_p1 : lw_okq (⟨"TinkerTailor$Letters", "hasRoom", "()Z"⟩, 2) := ⟨⟨by decide +kernel, by decide +kernel⟩, List.mem_of_getElem? (i := 103) (by decide +kernel), List.mem_of_getElem? (i := 203) (by decide +kernel), List.mem_of_getElem? (i := 204) (by decide +kernel)⟩
theorem lw_p2 : lw_okq (⟨"TinkerTailor$Letters", "add", "(I)V"⟩, 2) := ⟨⟨by decide +kernel, by decide +kernel⟩, List.mem_of_getElem? (i := 103) (by decide +kernel), List.mem_of_getElem? (i := 207) (by decide +kernel), List.mem_of_getElem? (i := 208) (by decide +kernel)⟩
theorem lw_p3 : lw_okq (⟨"TinkerTailor$Letters", "wrongPlace", "()I"⟩, 2) := ⟨⟨by decide +kernel, by decide +kernel⟩, List.mem_of_getElem? (i := 103) (by decide +kernel), List.mem_of_getElem? (i := 215) (by decide +kernel), List.mem_of_getElem? (i := 216) (by decide +kernel)⟩
theorem lw_p4 : lw_okq (⟨"TinkerTailor$Letters", "signAt", "(I)I"⟩, 2) := ⟨⟨by decide +kernel, by decide +kernel⟩, List.mem_of_getElem? (i := 103) (by decide +kernel), List.mem_of_getElem? (i := 219) (by decide +kernel), List.mem_of_getElem? (i := 220) (by decide +kernel)⟩
theorem lw_p5 : lw_okq (⟨"TinkerTailor$Letters", "isDigit", "(I)Z"⟩, 2) := ⟨⟨by decide +kernel, by decide +kernel⟩, List.mem_of_getElem? (i := 103) (by decide +kernel), List.mem_of_getElem? (i := 284) (by decide +kernel), List.mem_of_getElem? (i := 285) (by decide +kernel)⟩
theorem lw_p6 : lw_okq (⟨"TinkerTailor$Board", "copyFrom", "(LTinkerTailor$Board;)V"⟩, 14) := ⟨⟨by decide +kernel, by decide +kernel⟩, List.mem_of_getElem? (i := 24) (by decide +kernel), List.mem_of_getElem? (i := 288) (by decide +kernel), List.mem_of_getElem? (i := 289) (by decide +kernel)⟩
theorem lw_p7 : lw_okq (⟨"TinkerTailor$Letters", "bring", "(LTinkerTailor$Board;I)Z"⟩, 2) := ⟨⟨by decide +kernel, by decide +kernel⟩, List.mem_of_getElem? (i := 103) (by decide +kernel), List.mem_of_getElem? (i := 295) (by decide +kernel), List.mem_of_getElem? (i := 296) (by decide +kernel)⟩
theorem lw_p8 : lw_okq (⟨"TinkerTailor$Letters", "digitsFrom", "(I)I"⟩, 2) := ⟨⟨by decide +kernel, by decide +kernel⟩, List.mem_of_getElem? (i := 103) (by decide +kernel), List.mem_of_getElem? (i := 299) (by decide +kernel), List.mem_of_getElem? (i := 300) (by decide +kernel)⟩
theorem lw_p9 : lw_okq (⟨"TinkerTailor$Letters", "numberAt", "(II)I"⟩, 2) := ⟨⟨by decide +kernel, by decide +kernel⟩, List.mem_of_getElem? (i := 103) (by decide +kernel), List.mem_of_getElem? (i := 303) (by decide +kernel), List.mem_of_getElem? (i := 304) (by decide +kernel)⟩
theorem lw_p10 : lw_okq (⟨"TinkerTailor$Board", "addRhyme", "(I)Z"⟩, 14) := ⟨⟨by decide +kernel, by decide +kernel⟩, List.mem_of_getElem? (i := 24) (by decide +kernel), List.mem_of_getElem? (i := 307) (by decide +kernel), List.mem_of_getElem? (i := 308) (by decide +kernel)⟩
theorem lw_p11 : lw_okq (⟨"TinkerTailor$Board", "addEater", "(IIII)Z"⟩, 14) := ⟨⟨by decide +kernel, by decide +kernel⟩, List.mem_of_getElem? (i := 24) (by decide +kernel), List.mem_of_getElem? (i := 311) (by decide +kernel), List.mem_of_getElem? (i := 312) (by decide +kernel)⟩
theorem lw_p12 : lw_okq (⟨"TinkerTailor$Board", "fillBowl", "(III)Z"⟩, 14) := ⟨⟨by decide +kernel, by decide +kernel⟩, List.mem_of_getElem? (i := 24) (by decide +kernel), List.mem_of_getElem? (i := 315) (by decide +kernel), List.mem_of_getElem? (i := 316) (by decide +kernel)⟩
theorem lw_p13 : lw_okq (⟨"TinkerTailor$Board", "beginWith", "(II)Z"⟩, 14) := ⟨⟨by decide +kernel, by decide +kernel⟩, List.mem_of_getElem? (i := 24) (by decide +kernel), List.mem_of_getElem? (i := 319) (by decide +kernel), List.mem_of_getElem? (i := 320) (by decide +kernel)⟩
theorem lw_p14 : lw_okq (⟨"TinkerTailor$Board", "hasWord", "(II)Z"⟩, 14) := ⟨⟨by decide +kernel, by decide +kernel⟩, List.mem_of_getElem? (i := 24) (by decide +kernel), List.mem_of_getElem? (i := 323) (by decide +kernel), List.mem_of_getElem? (i := 324) (by decide +kernel)⟩
theorem lw_p15 : lw_okq (⟨"TinkerTailor$Board", "hasRhyme", "(I)Z"⟩, 14) := ⟨⟨by decide +kernel, by decide +kernel⟩, List.mem_of_getElem? (i := 24) (by decide +kernel), List.mem_of_getElem? (i := 327) (by decide +kernel), List.mem_of_getElem? (i := 328) (by decide +kernel)⟩
def lw_privs_1 : List (MethodName × Nat) := [(⟨"TinkerTailor", "refuse", "(I)I"⟩, 11), (⟨"TinkerTailor$Letters", "hasRoom", "()Z"⟩, 2), (⟨"TinkerTailor$Letters", "add", "(I)V"⟩, 2), (⟨"TinkerTailor$Letters", "wrongPlace", "()I"⟩, 2), (⟨"TinkerTailor$Letters", "signAt", "(I)I"⟩, 2), (⟨"TinkerTailor$Letters", "isDigit", "(I)Z"⟩, 2), (⟨"TinkerTailor$Board", "copyFrom", "(LTinkerTailor$Board;)V"⟩, 14), (⟨"TinkerTailor$Letters", "bring", "(LTinkerTailor$Board;I)Z"⟩, 2), (⟨"TinkerTailor$Letters", "digitsFrom", "(I)I"⟩, 2), (⟨"TinkerTailor$Letters", "numberAt", "(II)I"⟩, 2), (⟨"TinkerTailor$Board", "addRhyme", "(I)Z"⟩, 14), (⟨"TinkerTailor$Board", "addEater", "(IIII)Z"⟩, 14), (⟨"TinkerTailor$Board", "fillBowl", "(III)Z"⟩, 14), (⟨"TinkerTailor$Board", "beginWith", "(II)Z"⟩, 14), (⟨"TinkerTailor$Board", "hasWord", "(II)Z"⟩, 14), (⟨"TinkerTailor$Board", "hasRhyme", "(I)Z"⟩, 14)]
theorem lw_r1 : ∀ q ∈ lw_privs_1, lw_okq q := List.forall_mem_cons.mpr ⟨lw_p0, List.forall_mem_cons.mpr ⟨lw_p1, List.forall_mem_cons.mpr ⟨lw_p2, List.forall_mem_cons.mpr ⟨lw_p3, List.forall_mem_cons.mpr ⟨lw_p4, List.forall_mem_cons.mpr ⟨lw_p5, List.forall_mem_cons.mpr ⟨lw_p6, List.forall_mem_cons.mpr ⟨lw_p7, List.forall_mem_cons.mpr ⟨lw_p8, List.forall_mem_cons.mpr ⟨lw_p9, List.forall_mem_cons.mpr ⟨lw_p10, List.forall_mem_cons.mpr ⟨lw_p11, List.forall_mem_cons.mpr ⟨lw_p12, List.forall_mem_cons.mpr ⟨lw_p13, List.forall_mem_cons.mpr ⟨lw_p14, List.forall_mem_cons.mpr ⟨lw_p15, fun _ h => absurd h List.not_mem_nil⟩⟩⟩⟩⟩⟩⟩⟩⟩⟩⟩⟩⟩⟩⟩⟩
theorem lw_p16 : lw_okq (⟨"TinkerTailor$Board", "takeTurn", "()I"⟩, 14) := ⟨⟨by decide +kernel, by decide +kernel⟩, List.mem_of_getElem? (i := 24) (by decide +kernel), List.mem_of_getElem? (i := 331) (by decide +kernel), List.mem_of_getElem? (i := 332) (by decide +kernel)⟩
theorem lw_p17 : lw_okq (⟨"TinkerTailor$Board", "wanted", "()I"⟩, 14) := ⟨⟨by decide +kernel, by decide +kernel⟩, List.mem_of_getElem? (i := 24) (by decide +kernel), List.mem_of_getElem? (i := 335) (by decide +kernel), List.mem_of_getElem? (i := 336) (by decide +kernel)⟩
theorem lw_p18 : lw_okq (⟨"TinkerTailor$Board", "hasEater", "(I)Z"⟩, 14) := ⟨⟨by decide +kernel, by decide +kernel⟩, List.mem_of_getElem? (i := 24) (by decide +kernel), List.mem_of_getElem? (i := 339) (by decide +kernel), List.mem_of_getElem? (i := 340) (by decide +kernel)⟩
theorem lw_p19 : lw_okq (⟨"TinkerTailor$Board", "leastToPlease", "(II)I"⟩, 14) := ⟨⟨by decide +kernel, by decide +kernel⟩, List.mem_of_getElem? (i := 24) (by decide +kernel), List.mem_of_getElem? (i := 343) (by decide +kernel), List.mem_of_getElem? (i := 344) (by decide +kernel)⟩
theorem lw_p20 : lw_okq (⟨"TinkerTailor$Board", "pleases", "(II)Z"⟩, 14) := ⟨⟨by decide +kernel, by decide +kernel⟩, List.mem_of_getElem? (i := 24) (by decide +kernel), List.mem_of_getElem? (i := 350) (by decide +kernel), List.mem_of_getElem? (i := 351) (by decide +kernel)⟩
theorem lw_p21 : lw_okq (⟨"TinkerTailor$Board", "numberInPlay", "()I"⟩, 14) := ⟨⟨by decide +kernel, by decide +kernel⟩, List.mem_of_getElem? (i := 24) (by decide +kernel), List.mem_of_getElem? (i := 360) (by decide +kernel), List.mem_of_getElem? (i := 361) (by decide +kernel)⟩
theorem lw_p22 : lw_okq (⟨"TinkerTailor$Board", "take", "(I)I"⟩, 14) := ⟨⟨by decide +kernel, by decide +kernel⟩, List.mem_of_getElem? (i := 24) (by decide +kernel), List.mem_of_getElem? (i := 364) (by decide +kernel), List.mem_of_getElem? (i := 365) (by decide +kernel)⟩
theorem lw_p23 : lw_okq (⟨"TinkerTailor$Letters", "endOf", "(I)I"⟩, 2) := ⟨⟨by decide +kernel, by decide +kernel⟩, List.mem_of_getElem? (i := 103) (by decide +kernel), List.mem_of_getElem? (i := 368) (by decide +kernel), List.mem_of_getElem? (i := 369) (by decide +kernel)⟩
theorem lw_p24 : lw_okq (⟨"TinkerTailor$Past", "forget", "()V"⟩, 4) := ⟨⟨by decide +kernel, by decide +kernel⟩, List.mem_of_getElem? (i := 117) (by decide +kernel), List.mem_of_getElem? (i := 373) (by decide +kernel), List.mem_of_getElem? (i := 374) (by decide +kernel)⟩
theorem lw_p25 : lw_okq (⟨"TinkerTailor$Board", "wordTo", "(II)I"⟩, 14) := ⟨⟨by decide +kernel, by decide +kernel⟩, List.mem_of_getElem? (i := 24) (by decide +kernel), List.mem_of_getElem? (i := 392) (by decide +kernel), List.mem_of_getElem? (i := 393) (by decide +kernel)⟩
theorem lw_p26 : lw_okq (⟨"TinkerTailor", "leastSaidByAll", "()I"⟩, 11) := ⟨⟨by decide +kernel, by decide +kernel⟩, List.mem_of_getElem? (i := 16) (by decide +kernel), List.mem_of_getElem? (i := 400) (by decide +kernel), List.mem_of_getElem? (i := 401) (by decide +kernel)⟩
theorem lw_p27 : lw_okq (⟨"TinkerTailor", "cycleOfTold", "()I"⟩, 11) := ⟨⟨by decide +kernel, by decide +kernel⟩, List.mem_of_getElem? (i := 16) (by decide +kernel), List.mem_of_getElem? (i := 410) (by decide +kernel), List.mem_of_getElem? (i := 411) (by decide +kernel)⟩
theorem lw_p28 : lw_okq (⟨"TinkerTailor$Board", "pleasedBy", "(II)I"⟩, 14) := ⟨⟨by decide +kernel, by decide +kernel⟩, List.mem_of_getElem? (i := 24) (by decide +kernel), List.mem_of_getElem? (i := 426) (by decide +kernel), List.mem_of_getElem? (i := 427) (by decide +kernel)⟩
theorem lw_p29 : lw_okq (⟨"TinkerTailor$Board", "isPleased", "(I)Z"⟩, 14) := ⟨⟨by decide +kernel, by decide +kernel⟩, List.mem_of_getElem? (i := 24) (by decide +kernel), List.mem_of_getElem? (i := 439) (by decide +kernel), List.mem_of_getElem? (i := 440) (by decide +kernel)⟩
theorem lw_p30 : lw_okq (⟨"TinkerTailor", "refusalToSet", "(II)I"⟩, 11) := ⟨⟨by decide +kernel, by decide +kernel⟩, List.mem_of_getElem? (i := 16) (by decide +kernel), List.mem_of_getElem? (i := 455) (by decide +kernel), List.mem_of_getElem? (i := 456) (by decide +kernel)⟩
theorem lw_p31 : lw_okq (⟨"TinkerTailor$Past", "remember", "(LTinkerTailor$Board;)V"⟩, 4) := ⟨⟨by decide +kernel, by decide +kernel⟩, List.mem_of_getElem? (i := 117) (by decide +kernel), List.mem_of_getElem? (i := 463) (by decide +kernel), List.mem_of_getElem? (i := 464) (by decide +kernel)⟩
def lw_privs_2 : List (MethodName × Nat) := [(⟨"TinkerTailor$Board", "takeTurn", "()I"⟩, 14), (⟨"TinkerTailor$Board", "wanted", "()I"⟩, 14), (⟨"TinkerTailor$Board", "hasEater", "(I)Z"⟩, 14), (⟨"TinkerTailor$Board", "leastToPlease", "(II)I"⟩, 14), (⟨"TinkerTailor$Board", "pleases", "(II)Z"⟩, 14), (⟨"TinkerTailor$Board", "numberInPlay", "()I"⟩, 14), (⟨"TinkerTailor$Board", "take", "(I)I"⟩, 14), (⟨"TinkerTailor$Letters", "endOf", "(I)I"⟩, 2), (⟨"TinkerTailor$Past", "forget", "()V"⟩, 4), (⟨"TinkerTailor$Board", "wordTo", "(II)I"⟩, 14), (⟨"TinkerTailor", "leastSaidByAll", "()I"⟩, 11), (⟨"TinkerTailor", "cycleOfTold", "()I"⟩, 11), (⟨"TinkerTailor$Board", "pleasedBy", "(II)I"⟩, 14), (⟨"TinkerTailor$Board", "isPleased", "(I)Z"⟩, 14), (⟨"TinkerTailor", "refusalToSet", "(II)I"⟩, 11), (⟨"TinkerTailor$Past", "remember", "(LTinkerTailor$Board;)V"⟩, 4)]
theorem lw_r2 : ∀ q ∈ lw_privs_2, lw_okq q := List.forall_mem_cons.mpr ⟨lw_p16, List.forall_mem_cons.mpr ⟨lw_p17, List.forall_mem_cons.mpr ⟨lw_p18, List.forall_mem_cons.mpr ⟨lw_p19, List.forall_mem_cons.mpr ⟨lw_p20, List.forall_mem_cons.mpr ⟨lw_p21, List.forall_mem_cons.mpr ⟨lw_p22, List.forall_mem_cons.mpr ⟨lw_p23, List.forall_mem_cons.mpr ⟨lw_p24, List.forall_mem_cons.mpr ⟨lw_p25, List.forall_mem_cons.mpr ⟨lw_p26, List.forall_mem_cons.mpr ⟨lw_p27, List.forall_mem_cons.mpr ⟨lw_p28, List.forall_mem_cons.mpr ⟨lw_p29, List.forall_mem_cons.mpr ⟨lw_p30, List.forall_mem_cons.mpr ⟨lw_p31, fun _ h => absurd h List.not_mem_nil⟩⟩⟩⟩⟩⟩⟩⟩⟩⟩⟩⟩⟩⟩⟩⟩
theorem lw_p32 : lw_okq (⟨"TinkerTailor$Past", "dropOldest", "()V"⟩, 4) := ⟨⟨by decide +kernel, by decide +kernel⟩, List.mem_of_getElem? (i := 117) (by decide +kernel), List.mem_of_getElem? (i := 468) (by decide +kernel), List.mem_of_getElem? (i := 469) (by decide +kernel)⟩
theorem lw_p33 : lw_okq (⟨"TinkerTailor$Past", "undo", "(LTinkerTailor$Board;)I"⟩, 4) := ⟨⟨by decide +kernel, by decide +kernel⟩, List.mem_of_getElem? (i := 117) (by decide +kernel), List.mem_of_getElem? (i := 478) (by decide +kernel), List.mem_of_getElem? (i := 479) (by decide +kernel)⟩
theorem lw_p34 : lw_okq (⟨"TinkerTailor$Board", "eatUp", "()I"⟩, 14) := ⟨⟨by decide +kernel, by decide +kernel⟩, List.mem_of_getElem? (i := 24) (by decide +kernel), List.mem_of_getElem? (i := 486) (by decide +kernel), List.mem_of_getElem? (i := 487) (by decide +kernel)⟩
theorem lw_p35 : lw_okq (⟨"TinkerTailor$Board", "pleasedBits", "()I"⟩, 14) := ⟨⟨by decide +kernel, by decide +kernel⟩, List.mem_of_getElem? (i := 24) (by decide +kernel), List.mem_of_getElem? (i := 491) (by decide +kernel), List.mem_of_getElem? (i := 492) (by decide +kernel)⟩
theorem lw_p36 : lw_okq (⟨"TinkerTailor", "bringsTold", "(LTinkerTailor$Board;)Z"⟩, 11) := ⟨⟨by decide +kernel, by decide +kernel⟩, List.mem_of_getElem? (i := 16) (by decide +kernel), List.mem_of_getElem? (i := 508) (by decide +kernel), List.mem_of_getElem? (i := 509) (by decide +kernel)⟩
theorem lw_p37 : lw_okq (⟨"TinkerTailor", "firstNotSo", "()I"⟩, 11) := ⟨⟨by decide +kernel, by decide +kernel⟩, List.mem_of_getElem? (i := 16) (by decide +kernel), List.mem_of_getElem? (i := 533) (by decide +kernel), List.mem_of_getElem? (i := 534) (by decide +kernel)⟩
theorem lw_p38 : lw_okq (⟨"TinkerTailor", "refuseLong", "(I)J"⟩, 11) := ⟨⟨by decide +kernel, by decide +kernel⟩, List.mem_of_getElem? (i := 16) (by decide +kernel), List.mem_of_getElem? (i := 562) (by decide +kernel), List.mem_of_getElem? (i := 563) (by decide +kernel)⟩
theorem lw_p39 : lw_okq (⟨"TinkerTailor$Shares", "waysToPleaseAll", "(LTinkerTailor$Board;I)J"⟩, 2) := ⟨⟨by decide +kernel, by decide +kernel⟩, List.mem_of_getElem? (i := 147) (by decide +kernel), List.mem_of_getElem? (i := 567) (by decide +kernel), List.mem_of_getElem? (i := 568) (by decide +kernel)⟩
theorem lw_p40 : lw_okq (⟨"TinkerTailor$Shares", "waysWith", "(LTinkerTailor$Board;III)J"⟩, 2) := ⟨⟨by decide +kernel, by decide +kernel⟩, List.mem_of_getElem? (i := 147) (by decide +kernel), List.mem_of_getElem? (i := 571) (by decide +kernel), List.mem_of_getElem? (i := 572) (by decide +kernel)⟩
theorem lw_p41 : lw_okq (⟨"TinkerTailor$Shares", "canPlease", "(LTinkerTailor$Board;I)Z"⟩, 2) := ⟨⟨by decide +kernel, by decide +kernel⟩, List.mem_of_getElem? (i := 147) (by decide +kernel), List.mem_of_getElem? (i := 587) (by decide +kernel), List.mem_of_getElem? (i := 588) (by decide +kernel)⟩
theorem lw_p42 : lw_okq (⟨"TinkerTailor$Shares", "leastNeeded", "(LTinkerTailor$Board;I)I"⟩, 2) := ⟨⟨by decide +kernel, by decide +kernel⟩, List.mem_of_getElem? (i := 147) (by decide +kernel), List.mem_of_getElem? (i := 592) (by decide +kernel), List.mem_of_getElem? (i := 593) (by decide +kernel)⟩
theorem lw_p43 : lw_okq (⟨"TinkerTailor$Board", "pleasedByPush", "(III)I"⟩, 14) := ⟨⟨by decide +kernel, by decide +kernel⟩, List.mem_of_getElem? (i := 24) (by decide +kernel), List.mem_of_getElem? (i := 601) (by decide +kernel), List.mem_of_getElem? (i := 602) (by decide +kernel)⟩
theorem lw_p44 : lw_okq (⟨"TinkerTailor$Shares", "fewestPushes", "(LTinkerTailor$Board;)I"⟩, 2) := ⟨⟨by decide +kernel, by decide +kernel⟩, List.mem_of_getElem? (i := 147) (by decide +kernel), List.mem_of_getElem? (i := 609) (by decide +kernel), List.mem_of_getElem? (i := 610) (by decide +kernel)⟩
theorem lw_p45 : lw_okq (⟨"TinkerTailor$Board", "allStones", "()I"⟩, 14) := ⟨⟨by decide +kernel, by decide +kernel⟩, List.mem_of_getElem? (i := 24) (by decide +kernel), List.mem_of_getElem? (i := 613) (by decide +kernel), List.mem_of_getElem? (i := 614) (by decide +kernel)⟩
theorem lw_p46 : lw_okq (⟨"TinkerTailor$Board", "leastPleasing", "(I)I"⟩, 14) := ⟨⟨by decide +kernel, by decide +kernel⟩, List.mem_of_getElem? (i := 24) (by decide +kernel), List.mem_of_getElem? (i := 618) (by decide +kernel), List.mem_of_getElem? (i := 619) (by decide +kernel)⟩
theorem lw_p47 : lw_okq (⟨"TinkerTailor$Shares", "costWith", "(LTinkerTailor$Board;III)I"⟩, 2) := ⟨⟨by decide +kernel, by decide +kernel⟩, List.mem_of_getElem? (i := 147) (by decide +kernel), List.mem_of_getElem? (i := 622) (by decide +kernel), List.mem_of_getElem? (i := 623) (by decide +kernel)⟩
def lw_privs_3 : List (MethodName × Nat) := [(⟨"TinkerTailor$Past", "dropOldest", "()V"⟩, 4), (⟨"TinkerTailor$Past", "undo", "(LTinkerTailor$Board;)I"⟩, 4), (⟨"TinkerTailor$Board", "eatUp", "()I"⟩, 14), (⟨"TinkerTailor$Board", "pleasedBits", "()I"⟩, 14), (⟨"TinkerTailor", "bringsTold", "(LTinkerTailor$Board;)Z"⟩, 11), (⟨"TinkerTailor", "firstNotSo", "()I"⟩, 11), (⟨"TinkerTailor", "refuseLong", "(I)J"⟩, 11), (⟨"TinkerTailor$Shares", "waysToPleaseAll", "(LTinkerTailor$Board;I)J"⟩, 2), (⟨"TinkerTailor$Shares", "waysWith", "(LTinkerTailor$Board;III)J"⟩, 2), (⟨"TinkerTailor$Shares", "canPlease", "(LTinkerTailor$Board;I)Z"⟩, 2), (⟨"TinkerTailor$Shares", "leastNeeded", "(LTinkerTailor$Board;I)I"⟩, 2), (⟨"TinkerTailor$Board", "pleasedByPush", "(III)I"⟩, 14), (⟨"TinkerTailor$Shares", "fewestPushes", "(LTinkerTailor$Board;)I"⟩, 2), (⟨"TinkerTailor$Board", "allStones", "()I"⟩, 14), (⟨"TinkerTailor$Board", "leastPleasing", "(I)I"⟩, 14), (⟨"TinkerTailor$Shares", "costWith", "(LTinkerTailor$Board;III)I"⟩, 2)]
theorem lw_r3 : ∀ q ∈ lw_privs_3, lw_okq q := List.forall_mem_cons.mpr ⟨lw_p32, List.forall_mem_cons.mpr ⟨lw_p33, List.forall_mem_cons.mpr ⟨lw_p34, List.forall_mem_cons.mpr ⟨lw_p35, List.forall_mem_cons.mpr ⟨lw_p36, List.forall_mem_cons.mpr ⟨lw_p37, List.forall_mem_cons.mpr ⟨lw_p38, List.forall_mem_cons.mpr ⟨lw_p39, List.forall_mem_cons.mpr ⟨lw_p40, List.forall_mem_cons.mpr ⟨lw_p41, List.forall_mem_cons.mpr ⟨lw_p42, List.forall_mem_cons.mpr ⟨lw_p43, List.forall_mem_cons.mpr ⟨lw_p44, List.forall_mem_cons.mpr ⟨lw_p45, List.forall_mem_cons.mpr ⟨lw_p46, List.forall_mem_cons.mpr ⟨lw_p47, fun _ h => absurd h List.not_mem_nil⟩⟩⟩⟩⟩⟩⟩⟩⟩⟩⟩⟩⟩⟩⟩⟩
theorem lw_p48 : lw_okq (⟨"TinkerTailor$Games", "playAgainst", "(LTinkerTailor$Board;I)V"⟩, 1) := ⟨⟨by decide +kernel, by decide +kernel⟩, List.mem_of_getElem? (i := 137) (by decide +kernel), List.mem_of_getElem? (i := 630) (by decide +kernel), List.mem_of_getElem? (i := 631) (by decide +kernel)⟩
theorem lw_p49 : lw_okq (⟨"TinkerTailor$Games", "slot", "(III)I"⟩, 1) := ⟨⟨by decide +kernel, by decide +kernel⟩, List.mem_of_getElem? (i := 137) (by decide +kernel), List.mem_of_getElem? (i := 634) (by decide +kernel), List.mem_of_getElem? (i := 635) (by decide +kernel)⟩
theorem lw_p50 : lw_okq (⟨"TinkerTailor$Games", "sureOutcome", "(LTinkerTailor$Board;IIII)I"⟩, 1) := ⟨⟨by decide +kernel, by decide +kernel⟩, List.mem_of_getElem? (i := 137) (by decide +kernel), List.mem_of_getElem? (i := 638) (by decide +kernel), List.mem_of_getElem? (i := 639) (by decide +kernel)⟩
theorem lw_p51 : lw_okq (⟨"TinkerTailor$Games", "outcomeNow", "(LTinkerTailor$Board;)I"⟩, 1) := ⟨⟨by decide +kernel, by decide +kernel⟩, List.mem_of_getElem? (i := 137) (by decide +kernel), List.mem_of_getElem? (i := 648) (by decide +kernel), List.mem_of_getElem? (i := 649) (by decide +kernel)⟩
theorem lw_p52 : lw_okq (⟨"TinkerTailor$Games", "firstSureNumber", "(LTinkerTailor$Board;I)I"⟩, 1) := ⟨⟨by decide +kernel, by decide +kernel⟩, List.mem_of_getElem? (i := 137) (by decide +kernel), List.mem_of_getElem? (i := 652) (by decide +kernel), List.mem_of_getElem? (i := 653) (by decide +kernel)⟩
theorem lw_p53 : lw_okq (⟨"TinkerTailor$Games", "playDuel", "(LTinkerTailor$Board;)V"⟩, 1) := ⟨⟨by decide +kernel, by decide +kernel⟩, List.mem_of_getElem? (i := 137) (by decide +kernel), List.mem_of_getElem? (i := 664) (by decide +kernel), List.mem_of_getElem? (i := 665) (by decide +kernel)⟩
theorem lw_p54 : lw_okq (⟨"TinkerTailor$Games", "duelOutcome", "(LTinkerTailor$Board;III)I"⟩, 1) := ⟨⟨by decide +kernel, by decide +kernel⟩, List.mem_of_getElem? (i := 137) (by decide +kernel), List.mem_of_getElem? (i := 668) (by decide +kernel), List.mem_of_getElem? (i := 669) (by decide +kernel)⟩
theorem lw_p55 : lw_okq (⟨"TinkerTailor$Games", "duelNumber", "(LTinkerTailor$Board;III)I"⟩, 1) := ⟨⟨by decide +kernel, by decide +kernel⟩, List.mem_of_getElem? (i := 137) (by decide +kernel), List.mem_of_getElem? (i := 672) (by decide +kernel), List.mem_of_getElem? (i := 673) (by decide +kernel)⟩
theorem lw_p56 : lw_okq (⟨"TinkerTailor$Games", "afterNumber", "(IIII)I"⟩, 1) := ⟨⟨by decide +kernel, by decide +kernel⟩, List.mem_of_getElem? (i := 137) (by decide +kernel), List.mem_of_getElem? (i := 676) (by decide +kernel), List.mem_of_getElem? (i := 677) (by decide +kernel)⟩
theorem lw_p57 : lw_okq (⟨"TinkerTailor", "likeliestWord", "(I)I"⟩, 11) := ⟨⟨by decide +kernel, by decide +kernel⟩, List.mem_of_getElem? (i := 16) (by decide +kernel), List.mem_of_getElem? (i := 714) (by decide +kernel), List.mem_of_getElem? (i := 715) (by decide +kernel)⟩
theorem lw_p58 : lw_okq (⟨"TinkerTailor", "weightFor", "(II)I"⟩, 11) := ⟨⟨by decide +kernel, by decide +kernel⟩, List.mem_of_getElem? (i := 16) (by decide +kernel), List.mem_of_getElem? (i := 718) (by decide +kernel), List.mem_of_getElem? (i := 719) (by decide +kernel)⟩
theorem lw_p59 : lw_okq (⟨"TinkerTailor$Board", "allOnPiles", "()I"⟩, 14) := ⟨⟨by decide +kernel, by decide +kernel⟩, List.mem_of_getElem? (i := 24) (by decide +kernel), List.mem_of_getElem? (i := 748) (by decide +kernel), List.mem_of_getElem? (i := 749) (by decide +kernel)⟩
theorem lw_p60 : lw_okq (⟨"TinkerTailorModel", "carryAll", "([IZ)V"⟩, 45) := ⟨⟨by decide +kernel, by decide +kernel⟩, List.mem_of_getElem? (i := 752) (by decide +kernel), List.mem_of_getElem? (i := 899) (by decide +kernel), List.mem_of_getElem? (i := 900) (by decide +kernel)⟩
theorem lw_p61 : lw_okq (⟨"TinkerTailorModel", "carry", "(I)I"⟩, 45) := ⟨⟨by decide +kernel, by decide +kernel⟩, List.mem_of_getElem? (i := 752) (by decide +kernel), List.mem_of_getElem? (i := 903) (by decide +kernel), List.mem_of_getElem? (i := 904) (by decide +kernel)⟩
theorem lw_p62 : lw_okq (⟨"TinkerTailorModel", "refuse", "(I)I"⟩, 45) := ⟨⟨by decide +kernel, by decide +kernel⟩, List.mem_of_getElem? (i := 752) (by decide +kernel), List.mem_of_getElem? (i := 911) (by decide +kernel), List.mem_of_getElem? (i := 912) (by decide +kernel)⟩
theorem lw_p63 : lw_okq (⟨"TinkerTailorModel", "readStatement", "()V"⟩, 45) := ⟨⟨by decide +kernel, by decide +kernel⟩, List.mem_of_getElem? (i := 752) (by decide +kernel), List.mem_of_getElem? (i := 923) (by decide +kernel), List.mem_of_getElem? (i := 924) (by decide +kernel)⟩
def lw_privs_4 : List (MethodName × Nat) := [(⟨"TinkerTailor$Games", "playAgainst", "(LTinkerTailor$Board;I)V"⟩, 1), (⟨"TinkerTailor$Games", "slot", "(III)I"⟩, 1), (⟨"TinkerTailor$Games", "sureOutcome", "(LTinkerTailor$Board;IIII)I"⟩, 1), (⟨"TinkerTailor$Games", "outcomeNow", "(LTinkerTailor$Board;)I"⟩, 1), (⟨"TinkerTailor$Games", "firstSureNumber", "(LTinkerTailor$Board;I)I"⟩, 1), (⟨"TinkerTailor$Games", "playDuel", "(LTinkerTailor$Board;)V"⟩, 1), (⟨"TinkerTailor$Games", "duelOutcome", "(LTinkerTailor$Board;III)I"⟩, 1), (⟨"TinkerTailor$Games", "duelNumber", "(LTinkerTailor$Board;III)I"⟩, 1), (⟨"TinkerTailor$Games", "afterNumber", "(IIII)I"⟩, 1), (⟨"TinkerTailor", "likeliestWord", "(I)I"⟩, 11), (⟨"TinkerTailor", "weightFor", "(II)I"⟩, 11), (⟨"TinkerTailor$Board", "allOnPiles", "()I"⟩, 14), (⟨"TinkerTailorModel", "carryAll", "([IZ)V"⟩, 45), (⟨"TinkerTailorModel", "carry", "(I)I"⟩, 45), (⟨"TinkerTailorModel", "refuse", "(I)I"⟩, 45), (⟨"TinkerTailorModel", "readStatement", "()V"⟩, 45)]
theorem lw_r4 : ∀ q ∈ lw_privs_4, lw_okq q := List.forall_mem_cons.mpr ⟨lw_p48, List.forall_mem_cons.mpr ⟨lw_p49, List.forall_mem_cons.mpr ⟨lw_p50, List.forall_mem_cons.mpr ⟨lw_p51, List.forall_mem_cons.mpr ⟨lw_p52, List.forall_mem_cons.mpr ⟨lw_p53, List.forall_mem_cons.mpr ⟨lw_p54, List.forall_mem_cons.mpr ⟨lw_p55, List.forall_mem_cons.mpr ⟨lw_p56, List.forall_mem_cons.mpr ⟨lw_p57, List.forall_mem_cons.mpr ⟨lw_p58, List.forall_mem_cons.mpr ⟨lw_p59, List.forall_mem_cons.mpr ⟨lw_p60, List.forall_mem_cons.mpr ⟨lw_p61, List.forall_mem_cons.mpr ⟨lw_p62, List.forall_mem_cons.mpr ⟨lw_p63, fun _ h => absurd h List.not_mem_nil⟩⟩⟩⟩⟩⟩⟩⟩⟩⟩⟩⟩⟩⟩⟩⟩
theorem lw_p64 : lw_okq (⟨"TinkerTailorModel", "here", "()I"⟩, 45) := ⟨⟨by decide +kernel, by decide +kernel⟩, List.mem_of_getElem? (i := 752) (by decide +kernel), List.mem_of_getElem? (i := 927) (by decide +kernel), List.mem_of_getElem? (i := 928) (by decide +kernel)⟩
theorem lw_p65 : lw_okq (⟨"TinkerTailorModel", "readOneOrTwo", "()I"⟩, 45) := ⟨⟨by decide +kernel, by decide +kernel⟩, List.mem_of_getElem? (i := 752) (by decide +kernel), List.mem_of_getElem? (i := 931) (by decide +kernel), List.mem_of_getElem? (i := 932) (by decide +kernel)⟩
theorem lw_p66 : lw_okq (⟨"TinkerTailorModel", "readDigit", "()I"⟩, 45) := ⟨⟨by decide +kernel, by decide +kernel⟩, List.mem_of_getElem? (i := 752) (by decide +kernel), List.mem_of_getElem? (i := 935) (by decide +kernel), List.mem_of_getElem? (i := 936) (by decide +kernel)⟩
theorem lw_p67 : lw_okq (⟨"TinkerTailorModel", "readTwo", "()I"⟩, 45) := ⟨⟨by decide +kernel, by decide +kernel⟩, List.mem_of_getElem? (i := 752) (by decide +kernel), List.mem_of_getElem? (i := 944) (by decide +kernel), List.mem_of_getElem? (i := 945) (by decide +kernel)⟩
theorem lw_p68 : lw_okq (⟨"TinkerTailorModel", "take", "(I)V"⟩, 45) := ⟨⟨by decide +kernel, by decide +kernel⟩, List.mem_of_getElem? (i := 752) (by decide +kernel), List.mem_of_getElem? (i := 948) (by decide +kernel), List.mem_of_getElem? (i := 949) (by decide +kernel)⟩
theorem lw_p69 : lw_okq (⟨"TinkerTailorModel", "open", "()V"⟩, 45) := ⟨⟨by decide +kernel, by decide +kernel⟩, List.mem_of_getElem? (i := 752) (by decide +kernel), List.mem_of_getElem? (i := 952) (by decide +kernel), List.mem_of_getElem? (i := 953) (by decide +kernel)⟩
theorem lw_p70 : lw_okq (⟨"TinkerTailorModel", "comes", "(I)Z"⟩, 45) := ⟨⟨by decide +kernel, by decide +kernel⟩, List.mem_of_getElem? (i := 752) (by decide +kernel), List.mem_of_getElem? (i := 956) (by decide +kernel), List.mem_of_getElem? (i := 957) (by decide +kernel)⟩
theorem lw_p71 : lw_okq (⟨"TinkerTailorModel", "rhymeComes", "(I)Z"⟩, 45) := ⟨⟨by decide +kernel, by decide +kernel⟩, List.mem_of_getElem? (i := 752) (by decide +kernel), List.mem_of_getElem? (i := 960) (by decide +kernel), List.mem_of_getElem? (i := 961) (by decide +kernel)⟩
theorem lw_p72 : lw_okq (⟨"TinkerTailorModel", "eaterComes", "(I)Z"⟩, 45) := ⟨⟨by decide +kernel, by decide +kernel⟩, List.mem_of_getElem? (i := 752) (by decide +kernel), List.mem_of_getElem? (i := 966) (by decide +kernel), List.mem_of_getElem? (i := 967) (by decide +kernel)⟩
theorem lw_p73 : lw_okq (⟨"TinkerTailorModel", "bowlComes", "(III)Z"⟩, 45) := ⟨⟨by decide +kernel, by decide +kernel⟩, List.mem_of_getElem? (i := 752) (by decide +kernel), List.mem_of_getElem? (i := 970) (by decide +kernel), List.mem_of_getElem? (i := 971) (by decide +kernel)⟩
theorem lw_p74 : lw_okq (⟨"TinkerTailorModel", "wordComes", "(II)Z"⟩, 45) := ⟨⟨by decide +kernel, by decide +kernel⟩, List.mem_of_getElem? (i := 752) (by decide +kernel), List.mem_of_getElem? (i := 976) (by decide +kernel), List.mem_of_getElem? (i := 977) (by decide +kernel)⟩
theorem lw_p75 : lw_okq (⟨"TinkerTailorModel", "isRhyme", "(I)Z"⟩, 45) := ⟨⟨by decide +kernel, by decide +kernel⟩, List.mem_of_getElem? (i := 752) (by decide +kernel), List.mem_of_getElem? (i := 980) (by decide +kernel), List.mem_of_getElem? (i := 981) (by decide +kernel)⟩
theorem lw_p76 : lw_okq (⟨"TinkerTailorModel", "turnOne", "()I"⟩, 45) := ⟨⟨by decide +kernel, by decide +kernel⟩, List.mem_of_getElem? (i := 752) (by decide +kernel), List.mem_of_getElem? (i := 984) (by decide +kernel), List.mem_of_getElem? (i := 985) (by decide +kernel)⟩
theorem lw_p77 : lw_okq (⟨"TinkerTailorModel", "wants", "(I)I"⟩, 45) := ⟨⟨by decide +kernel, by decide +kernel⟩, List.mem_of_getElem? (i := 752) (by decide +kernel), List.mem_of_getElem? (i := 988) (by decide +kernel), List.mem_of_getElem? (i := 989) (by decide +kernel)⟩
theorem lw_p78 : lw_okq (⟨"TinkerTailorModel", "leastFor", "(II)I"⟩, 45) := ⟨⟨by decide +kernel, by decide +kernel⟩, List.mem_of_getElem? (i := 752) (by decide +kernel), List.mem_of_getElem? (i := 992) (by decide +kernel), List.mem_of_getElem? (i := 993) (by decide +kernel)⟩
theorem lw_p79 : lw_okq (⟨"TinkerTailorModel", "wouldHave", "(II)Z"⟩, 45) := ⟨⟨by decide +kernel, by decide +kernel⟩, List.mem_of_getElem? (i := 752) (by decide +kernel), List.mem_of_getElem? (i := 996) (by decide +kernel), List.mem_of_getElem? (i := 997) (by decide +kernel)⟩
def lw_privs_5 : List (MethodName × Nat) := [(⟨"TinkerTailorModel", "here", "()I"⟩, 45), (⟨"TinkerTailorModel", "readOneOrTwo", "()I"⟩, 45), (⟨"TinkerTailorModel", "readDigit", "()I"⟩, 45), (⟨"TinkerTailorModel", "readTwo", "()I"⟩, 45), (⟨"TinkerTailorModel", "take", "(I)V"⟩, 45), (⟨"TinkerTailorModel", "open", "()V"⟩, 45), (⟨"TinkerTailorModel", "comes", "(I)Z"⟩, 45), (⟨"TinkerTailorModel", "rhymeComes", "(I)Z"⟩, 45), (⟨"TinkerTailorModel", "eaterComes", "(I)Z"⟩, 45), (⟨"TinkerTailorModel", "bowlComes", "(III)Z"⟩, 45), (⟨"TinkerTailorModel", "wordComes", "(II)Z"⟩, 45), (⟨"TinkerTailorModel", "isRhyme", "(I)Z"⟩, 45), (⟨"TinkerTailorModel", "turnOne", "()I"⟩, 45), (⟨"TinkerTailorModel", "wants", "(I)I"⟩, 45), (⟨"TinkerTailorModel", "leastFor", "(II)I"⟩, 45), (⟨"TinkerTailorModel", "wouldHave", "(II)Z"⟩, 45)]
theorem lw_r5 : ∀ q ∈ lw_privs_5, lw_okq q := List.forall_mem_cons.mpr ⟨lw_p64, List.forall_mem_cons.mpr ⟨lw_p65, List.forall_mem_cons.mpr ⟨lw_p66, List.forall_mem_cons.mpr ⟨lw_p67, List.forall_mem_cons.mpr ⟨lw_p68, List.forall_mem_cons.mpr ⟨lw_p69, List.forall_mem_cons.mpr ⟨lw_p70, List.forall_mem_cons.mpr ⟨lw_p71, List.forall_mem_cons.mpr ⟨lw_p72, List.forall_mem_cons.mpr ⟨lw_p73, List.forall_mem_cons.mpr ⟨lw_p74, List.forall_mem_cons.mpr ⟨lw_p75, List.forall_mem_cons.mpr ⟨lw_p76, List.forall_mem_cons.mpr ⟨lw_p77, List.forall_mem_cons.mpr ⟨lw_p78, List.forall_mem_cons.mpr ⟨lw_p79, fun _ h => absurd h List.not_mem_nil⟩⟩⟩⟩⟩⟩⟩⟩⟩⟩⟩⟩⟩⟩⟩⟩
theorem lw_p80 : lw_okq (⟨"TinkerTailorModel", "wordTo", "(I)I"⟩, 45) := ⟨⟨by decide +kernel, by decide +kernel⟩, List.mem_of_getElem? (i := 752) (by decide +kernel), List.mem_of_getElem? (i := 1000) (by decide +kernel), List.mem_of_getElem? (i := 1001) (by decide +kernel)⟩
theorem lw_p81 : lw_okq (⟨"TinkerTailorModel", "saidBy", "(II)I"⟩, 45) := ⟨⟨by decide +kernel, by decide +kernel⟩, List.mem_of_getElem? (i := 752) (by decide +kernel), List.mem_of_getElem? (i := 1004) (by decide +kernel), List.mem_of_getElem? (i := 1005) (by decide +kernel)⟩
theorem lw_p82 : lw_okq (⟨"TinkerTailorModel", "playful", "()I"⟩, 45) := ⟨⟨by decide +kernel, by decide +kernel⟩, List.mem_of_getElem? (i := 752) (by decide +kernel), List.mem_of_getElem? (i := 1008) (by decide +kernel), List.mem_of_getElem? (i := 1009) (by decide +kernel)⟩
theorem lw_p83 : lw_okq (⟨"TinkerTailorModel", "putBack", "()V"⟩, 45) := ⟨⟨by decide +kernel, by decide +kernel⟩, List.mem_of_getElem? (i := 752) (by decide +kernel), List.mem_of_getElem? (i := 1012) (by decide +kernel), List.mem_of_getElem? (i := 1013) (by decide +kernel)⟩
theorem lw_p84 : lw_okq (⟨"TinkerTailorModel", "isEater", "(I)Z"⟩, 45) := ⟨⟨by decide +kernel, by decide +kernel⟩, List.mem_of_getElem? (i := 752) (by decide +kernel), List.mem_of_getElem? (i := 1035) (by decide +kernel), List.mem_of_getElem? (i := 1036) (by decide +kernel)⟩
theorem lw_p85 : lw_okq (⟨"TinkerTailorModel", "has", "(I)Z"⟩, 45) := ⟨⟨by decide +kernel, by decide +kernel⟩, List.mem_of_getElem? (i := 752) (by decide +kernel), List.mem_of_getElem? (i := 1040) (by decide +kernel), List.mem_of_getElem? (i := 1041) (by decide +kernel)⟩
theorem lw_p86 : lw_okq (⟨"TinkerTailorModel", "wrongSetting", "(II)I"⟩, 45) := ⟨⟨by decide +kernel, by decide +kernel⟩, List.mem_of_getElem? (i := 752) (by decide +kernel), List.mem_of_getElem? (i := 1056) (by decide +kernel), List.mem_of_getElem? (i := 1057) (by decide +kernel)⟩
theorem lw_p87 : lw_okq (⟨"TinkerTailorModel", "keepTurn", "()V"⟩, 45) := ⟨⟨by decide +kernel, by decide +kernel⟩, List.mem_of_getElem? (i := 752) (by decide +kernel), List.mem_of_getElem? (i := 1064) (by decide +kernel), List.mem_of_getElem? (i := 1065) (by decide +kernel)⟩
theorem lw_p88 : lw_okq (⟨"TinkerTailorModel", "supperNow", "()I"⟩, 45) := ⟨⟨by decide +kernel, by decide +kernel⟩, List.mem_of_getElem? (i := 752) (by decide +kernel), List.mem_of_getElem? (i := 1076) (by decide +kernel), List.mem_of_getElem? (i := 1077) (by decide +kernel)⟩
theorem lw_p89 : lw_okq (⟨"TinkerTailorModel", "haveBits", "()I"⟩, 45) := ⟨⟨by decide +kernel, by decide +kernel⟩, List.mem_of_getElem? (i := 752) (by decide +kernel), List.mem_of_getElem? (i := 1080) (by decide +kernel), List.mem_of_getElem? (i := 1081) (by decide +kernel)⟩
theorem lw_p90 : lw_okq (⟨"TinkerTailorModel", "allSay", "(I)Z"⟩, 45) := ⟨⟨by decide +kernel, by decide +kernel⟩, List.mem_of_getElem? (i := 752) (by decide +kernel), List.mem_of_getElem? (i := 1092) (by decide +kernel), List.mem_of_getElem? (i := 1093) (by decide +kernel)⟩
theorem lw_p91 : lw_okq (⟨"TinkerTailorModel", "wrongShare", "(I)I"⟩, 45) := ⟨⟨by decide +kernel, by decide +kernel⟩, List.mem_of_getElem? (i := 752) (by decide +kernel), List.mem_of_getElem? (i := 1100) (by decide +kernel), List.mem_of_getElem? (i := 1101) (by decide +kernel)⟩
theorem lw_p92 : lw_okq (⟨"TinkerTailorModel", "beginWays", "()V"⟩, 45) := ⟨⟨by decide +kernel, by decide +kernel⟩, List.mem_of_getElem? (i := 752) (by decide +kernel), List.mem_of_getElem? (i := 1105) (by decide +kernel), List.mem_of_getElem? (i := 1106) (by decide +kernel)⟩
theorem lw_p93 : lw_okq (⟨"TinkerTailorModel", "eatsToo", "(IZI)V"⟩, 45) := ⟨⟨by decide +kernel, by decide +kernel⟩, List.mem_of_getElem? (i := 752) (by decide +kernel), List.mem_of_getElem? (i := 1109) (by decide +kernel), List.mem_of_getElem? (i := 1110) (by decide +kernel)⟩
theorem lw_p94 : lw_okq (⟨"TinkerTailorModel", "canAll", "(I)Z"⟩, 45) := ⟨⟨by decide +kernel, by decide +kernel⟩, List.mem_of_getElem? (i := 752) (by decide +kernel), List.mem_of_getElem? (i := 1120) (by decide +kernel), List.mem_of_getElem? (i := 1121) (by decide +kernel)⟩
theorem lw_p95 : lw_okq (⟨"TinkerTailorModel", "laySure", "(I)V"⟩, 45) := ⟨⟨by decide +kernel, by decide +kernel⟩, List.mem_of_getElem? (i := 752) (by decide +kernel), List.mem_of_getElem? (i := 1128) (by decide +kernel), List.mem_of_getElem? (i := 1129) (by decide +kernel)⟩
def lw_privs_6 : List (MethodName × Nat) := [(⟨"TinkerTailorModel", "wordTo", "(I)I"⟩, 45), (⟨"TinkerTailorModel", "saidBy", "(II)I"⟩, 45), (⟨"TinkerTailorModel", "playful", "()I"⟩, 45), (⟨"TinkerTailorModel", "putBack", "()V"⟩, 45), (⟨"TinkerTailorModel", "isEater", "(I)Z"⟩, 45), (⟨"TinkerTailorModel", "has", "(I)Z"⟩, 45), (⟨"TinkerTailorModel", "wrongSetting", "(II)I"⟩, 45), (⟨"TinkerTailorModel", "keepTurn", "()V"⟩, 45), (⟨"TinkerTailorModel", "supperNow", "()I"⟩, 45), (⟨"TinkerTailorModel", "haveBits", "()I"⟩, 45), (⟨"TinkerTailorModel", "allSay", "(I)Z"⟩, 45), (⟨"TinkerTailorModel", "wrongShare", "(I)I"⟩, 45), (⟨"TinkerTailorModel", "beginWays", "()V"⟩, 45), (⟨"TinkerTailorModel", "eatsToo", "(IZI)V"⟩, 45), (⟨"TinkerTailorModel", "canAll", "(I)Z"⟩, 45), (⟨"TinkerTailorModel", "laySure", "(I)V"⟩, 45)]
theorem lw_r6 : ∀ q ∈ lw_privs_6, lw_okq q := List.forall_mem_cons.mpr ⟨lw_p80, List.forall_mem_cons.mpr ⟨lw_p81, List.forall_mem_cons.mpr ⟨lw_p82, List.forall_mem_cons.mpr ⟨lw_p83, List.forall_mem_cons.mpr ⟨lw_p84, List.forall_mem_cons.mpr ⟨lw_p85, List.forall_mem_cons.mpr ⟨lw_p86, List.forall_mem_cons.mpr ⟨lw_p87, List.forall_mem_cons.mpr ⟨lw_p88, List.forall_mem_cons.mpr ⟨lw_p89, List.forall_mem_cons.mpr ⟨lw_p90, List.forall_mem_cons.mpr ⟨lw_p91, List.forall_mem_cons.mpr ⟨lw_p92, List.forall_mem_cons.mpr ⟨lw_p93, List.forall_mem_cons.mpr ⟨lw_p94, List.forall_mem_cons.mpr ⟨lw_p95, fun _ h => absurd h List.not_mem_nil⟩⟩⟩⟩⟩⟩⟩⟩⟩⟩⟩⟩⟩⟩⟩⟩
theorem lw_p96 : lw_okq (⟨"TinkerTailorModel", "isSure", "(IIII)Z"⟩, 45) := ⟨⟨by decide +kernel, by decide +kernel⟩, List.mem_of_getElem? (i := 752) (by decide +kernel), List.mem_of_getElem? (i := 1135) (by decide +kernel), List.mem_of_getElem? (i := 1136) (by decide +kernel)⟩
theorem lw_p97 : lw_okq (⟨"TinkerTailorModel", "sureFirst", "(I)I"⟩, 45) := ⟨⟨by decide +kernel, by decide +kernel⟩, List.mem_of_getElem? (i := 752) (by decide +kernel), List.mem_of_getElem? (i := 1139) (by decide +kernel), List.mem_of_getElem? (i := 1140) (by decide +kernel)⟩
theorem lw_p98 : lw_okq (⟨"TinkerTailorModel", "wrongSpoons", "(IIIIII)I"⟩, 45) := ⟨⟨by decide +kernel, by decide +kernel⟩, List.mem_of_getElem? (i := 752) (by decide +kernel), List.mem_of_getElem? (i := 1151) (by decide +kernel), List.mem_of_getElem? (i := 1152) (by decide +kernel)⟩
theorem lw_p99 : lw_okq (⟨"TinkerTailorModel", "haveBy", "(I)I"⟩, 45) := ⟨⟨by decide +kernel, by decide +kernel⟩, List.mem_of_getElem? (i := 752) (by decide +kernel), List.mem_of_getElem? (i := 1165) (by decide +kernel), List.mem_of_getElem? (i := 1166) (by decide +kernel)⟩
theorem lw_p100 : lw_okq (⟨"TinkerTailorModel", "haveAfter", "(III)I"⟩, 45) := ⟨⟨by decide +kernel, by decide +kernel⟩, List.mem_of_getElem? (i := 752) (by decide +kernel), List.mem_of_getElem? (i := 1173) (by decide +kernel), List.mem_of_getElem? (i := 1174) (by decide +kernel)⟩
theorem lw_p101 : lw_okq (⟨"TinkerTailorModel", "wrongPetals", "(I)I"⟩, 45) := ⟨⟨by decide +kernel, by decide +kernel⟩, List.mem_of_getElem? (i := 752) (by decide +kernel), List.mem_of_getElem? (i := 1181) (by decide +kernel), List.mem_of_getElem? (i := 1182) (by decide +kernel)⟩
theorem lw_p102 : lw_okq (⟨"TinkerTailorModel", "bestWord", "(I)I"⟩, 45) := ⟨⟨by decide +kernel, by decide +kernel⟩, List.mem_of_getElem? (i := 752) (by decide +kernel), List.mem_of_getElem? (i := 1185) (by decide +kernel), List.mem_of_getElem? (i := 1186) (by decide +kernel)⟩
theorem lw_p103 : lw_okq (⟨"TinkerTailorModel", "weightBy", "(II)I"⟩, 45) := ⟨⟨by decide +kernel, by decide +kernel⟩, List.mem_of_getElem? (i := 752) (by decide +kernel), List.mem_of_getElem? (i := 1189) (by decide +kernel), List.mem_of_getElem? (i := 1190) (by decide +kernel)⟩
theorem lw_p104 : lw_okq (⟨"TinkerTailorModel", "areRims", "()Z"⟩, 45) := ⟨⟨by decide +kernel, by decide +kernel⟩, List.mem_of_getElem? (i := 752) (by decide +kernel), List.mem_of_getElem? (i := 1205) (by decide +kernel), List.mem_of_getElem? (i := 1206) (by decide +kernel)⟩
theorem lw_p105 : lw_okq (⟨"TinkerTailorModel", "haveWith", "(II)I"⟩, 45) := ⟨⟨by decide +kernel, by decide +kernel⟩, List.mem_of_getElem? (i := 752) (by decide +kernel), List.mem_of_getElem? (i := 1225) (by decide +kernel), List.mem_of_getElem? (i := 1226) (by decide +kernel)⟩
theorem lw_p106 : lw_okq (⟨"TinkerTailorModel", "givesToo", "(I)V"⟩, 45) := ⟨⟨by decide +kernel, by decide +kernel⟩, List.mem_of_getElem? (i := 752) (by decide +kernel), List.mem_of_getElem? (i := 1234) (by decide +kernel), List.mem_of_getElem? (i := 1235) (by decide +kernel)⟩
theorem lw_p107 : lw_okq (⟨"TinkerTailorModel", "takeSo", "(I)V"⟩, 45) := ⟨⟨by decide +kernel, by decide +kernel⟩, List.mem_of_getElem? (i := 752) (by decide +kernel), List.mem_of_getElem? (i := 1246) (by decide +kernel), List.mem_of_getElem? (i := 1247) (by decide +kernel)⟩
theorem lw_p108 : lw_okq (⟨"TinkerTailorModel", "ownTurns", "(I)I"⟩, 45) := ⟨⟨by decide +kernel, by decide +kernel⟩, List.mem_of_getElem? (i := 752) (by decide +kernel), List.mem_of_getElem? (i := 1254) (by decide +kernel), List.mem_of_getElem? (i := 1255) (by decide +kernel)⟩
theorem lw_p109 : lw_okq (⟨"TinkerTailorModel", "bringsWish", "(III)Z"⟩, 45) := ⟨⟨by decide +kernel, by decide +kernel⟩, List.mem_of_getElem? (i := 752) (by decide +kernel), List.mem_of_getElem? (i := 1258) (by decide +kernel), List.mem_of_getElem? (i := 1259) (by decide +kernel)⟩
theorem lw_p110 : lw_okq (⟨"TinkerTailorModel", "layWins", "(Z)V"⟩, 45) := ⟨⟨by decide +kernel, by decide +kernel⟩, List.mem_of_getElem? (i := 752) (by decide +kernel), List.mem_of_getElem? (i := 1275) (by decide +kernel), List.mem_of_getElem? (i := 1276) (by decide +kernel)⟩
theorem lw_p111 : lw_okq (⟨"TinkerTailorModel", "firstMove", "()I"⟩, 45) := ⟨⟨by decide +kernel, by decide +kernel⟩, List.mem_of_getElem? (i := 752) (by decide +kernel), List.mem_of_getElem? (i := 1282) (by decide +kernel), List.mem_of_getElem? (i := 1283) (by decide +kernel)⟩
def lw_privs_7 : List (MethodName × Nat) := [(⟨"TinkerTailorModel", "isSure", "(IIII)Z"⟩, 45), (⟨"TinkerTailorModel", "sureFirst", "(I)I"⟩, 45), (⟨"TinkerTailorModel", "wrongSpoons", "(IIIIII)I"⟩, 45), (⟨"TinkerTailorModel", "haveBy", "(I)I"⟩, 45), (⟨"TinkerTailorModel", "haveAfter", "(III)I"⟩, 45), (⟨"TinkerTailorModel", "wrongPetals", "(I)I"⟩, 45), (⟨"TinkerTailorModel", "bestWord", "(I)I"⟩, 45), (⟨"TinkerTailorModel", "weightBy", "(II)I"⟩, 45), (⟨"TinkerTailorModel", "areRims", "()Z"⟩, 45), (⟨"TinkerTailorModel", "haveWith", "(II)I"⟩, 45), (⟨"TinkerTailorModel", "givesToo", "(I)V"⟩, 45), (⟨"TinkerTailorModel", "takeSo", "(I)V"⟩, 45), (⟨"TinkerTailorModel", "ownTurns", "(I)I"⟩, 45), (⟨"TinkerTailorModel", "bringsWish", "(III)Z"⟩, 45), (⟨"TinkerTailorModel", "layWins", "(Z)V"⟩, 45), (⟨"TinkerTailorModel", "firstMove", "()I"⟩, 45)]
theorem lw_r7 : ∀ q ∈ lw_privs_7, lw_okq q := List.forall_mem_cons.mpr ⟨lw_p96, List.forall_mem_cons.mpr ⟨lw_p97, List.forall_mem_cons.mpr ⟨lw_p98, List.forall_mem_cons.mpr ⟨lw_p99, List.forall_mem_cons.mpr ⟨lw_p100, List.forall_mem_cons.mpr ⟨lw_p101, List.forall_mem_cons.mpr ⟨lw_p102, List.forall_mem_cons.mpr ⟨lw_p103, List.forall_mem_cons.mpr ⟨lw_p104, List.forall_mem_cons.mpr ⟨lw_p105, List.forall_mem_cons.mpr ⟨lw_p106, List.forall_mem_cons.mpr ⟨lw_p107, List.forall_mem_cons.mpr ⟨lw_p108, List.forall_mem_cons.mpr ⟨lw_p109, List.forall_mem_cons.mpr ⟨lw_p110, List.forall_mem_cons.mpr ⟨lw_p111, fun _ h => absurd h List.not_mem_nil⟩⟩⟩⟩⟩⟩⟩⟩⟩⟩⟩⟩⟩⟩⟩⟩
theorem lw_p112 : lw_okq (⟨"TinkerTailorModel", "pileState", "()I"⟩, 45) := ⟨⟨by decide +kernel, by decide +kernel⟩, List.mem_of_getElem? (i := 752) (by decide +kernel), List.mem_of_getElem? (i := 1286) (by decide +kernel), List.mem_of_getElem? (i := 1287) (by decide +kernel)⟩
theorem lw_p113 : lw_okq (⟨"TinkerTailorModel", "layDuel", "()V"⟩, 45) := ⟨⟨by decide +kernel, by decide +kernel⟩, List.mem_of_getElem? (i := 752) (by decide +kernel), List.mem_of_getElem? (i := 1294) (by decide +kernel), List.mem_of_getElem? (i := 1295) (by decide +kernel)⟩
theorem lw_p114 : lw_okq (⟨"TinkerTailorModel", "bestTake", "(III)I"⟩, 45) := ⟨⟨by decide +kernel, by decide +kernel⟩, List.mem_of_getElem? (i := 752) (by decide +kernel), List.mem_of_getElem? (i := 1301) (by decide +kernel), List.mem_of_getElem? (i := 1302) (by decide +kernel)⟩
theorem lw_p115 : lw_okq (⟨"TinkerTailorModel", "endBy", "(IIII)I"⟩, 45) := ⟨⟨by decide +kernel, by decide +kernel⟩, List.mem_of_getElem? (i := 752) (by decide +kernel), List.mem_of_getElem? (i := 1305) (by decide +kernel), List.mem_of_getElem? (i := 1306) (by decide +kernel)⟩
theorem lw_p116 : lw_okq (⟨"TinkerTailorModel", "draw", "(I)I"⟩, 45) := ⟨⟨by decide +kernel, by decide +kernel⟩, List.mem_of_getElem? (i := 752) (by decide +kernel), List.mem_of_getElem? (i := 1328) (by decide +kernel), List.mem_of_getElem? (i := 1329) (by decide +kernel)⟩
def lw_privs_8 : List (MethodName × Nat) := [(⟨"TinkerTailorModel", "pileState", "()I"⟩, 45), (⟨"TinkerTailorModel", "layDuel", "()V"⟩, 45), (⟨"TinkerTailorModel", "bestTake", "(III)I"⟩, 45), (⟨"TinkerTailorModel", "endBy", "(IIII)I"⟩, 45), (⟨"TinkerTailorModel", "draw", "(I)I"⟩, 45)]
theorem lw_r8 : ∀ q ∈ lw_privs_8, lw_okq q := List.forall_mem_cons.mpr ⟨lw_p112, List.forall_mem_cons.mpr ⟨lw_p113, List.forall_mem_cons.mpr ⟨lw_p114, List.forall_mem_cons.mpr ⟨lw_p115, List.forall_mem_cons.mpr ⟨lw_p116, fun _ h => absurd h List.not_mem_nil⟩⟩⟩⟩⟩
def lw_privs : List (MethodName × Nat) := lw_privs_1 ++ (lw_privs_2 ++ (lw_privs_3 ++ (lw_privs_4 ++ (lw_privs_5 ++ (lw_privs_6 ++ (lw_privs_7 ++ (lw_privs_8)))))))
def lw_tbl : List Cond := k2_sels lw_privs ++ tables_1
theorem lw_privs_ok : ∀ q ∈ lw_privs, lw_okq q := by
  show ∀ q ∈ lw_privs_1 ++ (lw_privs_2 ++ (lw_privs_3 ++ (lw_privs_4 ++ (lw_privs_5 ++ (lw_privs_6 ++ (lw_privs_7 ++ (lw_privs_8))))))), lw_okq q
  exact List.forall_mem_append.mpr ⟨lw_r1, List.forall_mem_append.mpr ⟨lw_r2, List.forall_mem_append.mpr ⟨lw_r3, List.forall_mem_append.mpr ⟨lw_r4, List.forall_mem_append.mpr ⟨lw_r5, List.forall_mem_append.mpr ⟨lw_r6, List.forall_mem_append.mpr ⟨lw_r7, lw_r8⟩⟩⟩⟩⟩⟩⟩
end
section
def RX0 : String := "TinkerTailor$Board"
def TX0 : u_T := fun k => match k with
  | 0 => ("TinkerTailor$Board", "rhymeCount", "I", false)
  | 1 => ("TinkerTailor$Board", "lengths", "[I", true)
  | 2 => ("TinkerTailor$Board", "firsts", "[I", true)
  | 3 => ("TinkerTailor$Board", "eaterCount", "I", false)
  | 4 => ("TinkerTailor$Board", "kinds", "[I", true)
  | 5 => ("TinkerTailor$Board", "figures", "[I", true)
  | 6 => ("TinkerTailor$Board", "wishes", "[I", true)
  | 7 => ("TinkerTailor$Board", "stones", "[I", true)
  | 8 => ("TinkerTailor$Board", "fruits", "I", false)
  | 9 => ("TinkerTailor$Board", "bunch", "I", false)
  | 10 => ("TinkerTailor$Board", "most", "I", false)
  | 11 => ("TinkerTailor$Board", "next", "I", false)
  | 12 => ("TinkerTailor$Board", "pileCount", "I", false)
  | _ => ("TinkerTailor$Board", "piles", "[I", true)
def tyX0 : Nat → FieldType := fun k => match k with
  | 0 => .int
  | 1 => .array .int
  | 2 => .array .int
  | 3 => .int
  | 4 => .array .int
  | 5 => .array .int
  | 6 => .array .int
  | 7 => .array .int
  | 8 => .int
  | 9 => .int
  | 10 => .int
  | 11 => .int
  | 12 => .int
  | _ => .array .int
abbrev wsX00 : List Cond := u_ws RX0 TX0 14
theorem nmX0 : ∀ a, a < 14 → ∀ b, b < 14 → a ≠ b → (TX0 a).2.1 ≠ (TX0 b).2.1 := by decide +kernel
theorem tyX0_ok : ∀ k, k < 14 → parseFieldDescriptor (TX0 k).2.2.1 = some (tyX0 k) := by decide +kernel
abbrev cX0_init : ByteArray := prog_2_method_1_code
def yX0_init : MethodName := ⟨RX0, "<init>", "()V"⟩
abbrev cX0_copyFrom : ByteArray := prog_2_method_2_code
def yX0_copyFrom : MethodName := ⟨RX0, "copyFrom", "(LTinkerTailor$Board;)V"⟩
abbrev cX0_hasRhyme : ByteArray := prog_2_method_3_code
def yX0_hasRhyme : MethodName := ⟨RX0, "hasRhyme", "(I)Z"⟩
abbrev cX0_hasWord : ByteArray := prog_2_method_4_code
def yX0_hasWord : MethodName := ⟨RX0, "hasWord", "(II)Z"⟩
abbrev cX0_hasEater : ByteArray := prog_2_method_5_code
def yX0_hasEater : MethodName := ⟨RX0, "hasEater", "(I)Z"⟩
abbrev cX0_wordTo : ByteArray := prog_2_method_6_code
def yX0_wordTo : MethodName := ⟨RX0, "wordTo", "(II)I"⟩
abbrev cX0_pleases : ByteArray := prog_2_method_7_code
def yX0_pleases : MethodName := ⟨RX0, "pleases", "(II)Z"⟩
abbrev cX0_leastPleasing : ByteArray := prog_2_method_8_code
def yX0_leastPleasing : MethodName := ⟨RX0, "leastPleasing", "(I)I"⟩
abbrev cX0_isPleased : ByteArray := prog_2_method_9_code
def yX0_isPleased : MethodName := ⟨RX0, "isPleased", "(I)Z"⟩
abbrev cX0_pleasedBits : ByteArray := prog_2_method_10_code
def yX0_pleasedBits : MethodName := ⟨RX0, "pleasedBits", "()I"⟩
abbrev cX0_pleasedBy : ByteArray := prog_2_method_11_code
def yX0_pleasedBy : MethodName := ⟨RX0, "pleasedBy", "(II)I"⟩
abbrev cX0_pleasedByPush : ByteArray := prog_2_method_12_code
def yX0_pleasedByPush : MethodName := ⟨RX0, "pleasedByPush", "(III)I"⟩
abbrev cX0_allStones : ByteArray := prog_2_method_13_code
def yX0_allStones : MethodName := ⟨RX0, "allStones", "()I"⟩
abbrev cX0_allOnPiles : ByteArray := prog_2_method_14_code
def yX0_allOnPiles : MethodName := ⟨RX0, "allOnPiles", "()I"⟩
abbrev cX0_addRhyme : ByteArray := prog_2_method_15_code
def yX0_addRhyme : MethodName := ⟨RX0, "addRhyme", "(I)Z"⟩
abbrev cX0_addEater : ByteArray := prog_2_method_16_code
def yX0_addEater : MethodName := ⟨RX0, "addEater", "(IIII)Z"⟩
abbrev cX0_fillBowl : ByteArray := prog_2_method_17_code
def yX0_fillBowl : MethodName := ⟨RX0, "fillBowl", "(III)Z"⟩
abbrev cX0_beginWith : ByteArray := prog_2_method_18_code
def yX0_beginWith : MethodName := ⟨RX0, "beginWith", "(II)Z"⟩
abbrev cX0_takeTurn : ByteArray := prog_2_method_19_code
def yX0_takeTurn : MethodName := ⟨RX0, "takeTurn", "()I"⟩
abbrev cX0_take : ByteArray := prog_2_method_20_code
def yX0_take : MethodName := ⟨RX0, "take", "(I)I"⟩
abbrev cX0_wanted : ByteArray := prog_2_method_21_code
def yX0_wanted : MethodName := ⟨RX0, "wanted", "()I"⟩
abbrev cX0_leastToPlease : ByteArray := prog_2_method_22_code
def yX0_leastToPlease : MethodName := ⟨RX0, "leastToPlease", "(II)I"⟩
abbrev cX0_numberInPlay : ByteArray := prog_2_method_23_code
def yX0_numberInPlay : MethodName := ⟨RX0, "numberInPlay", "()I"⟩
abbrev cX0_eatUp : ByteArray := prog_2_method_24_code
def yX0_eatUp : MethodName := ⟨RX0, "eatUp", "()I"⟩
def RX1 : String := "TinkerTailor$Games"
def TX1 : u_T := fun k => match k with
  | _ => ("TinkerTailor$Games", "outcomes", "[I", true)
def tyX1 : Nat → FieldType := fun k => match k with
  | _ => .array .int
abbrev wsX10 : List Cond := u_ws RX1 TX1 1
theorem nmX1 : ∀ a, a < 1 → ∀ b, b < 1 → a ≠ b → (TX1 a).2.1 ≠ (TX1 b).2.1 := by decide +kernel
theorem tyX1_ok : ∀ k, k < 1 → parseFieldDescriptor (TX1 k).2.2.1 = some (tyX1 k) := by decide +kernel
abbrev cX1_init : ByteArray := prog_3_method_1_code
def yX1_init : MethodName := ⟨RX1, "<init>", "()V"⟩
abbrev cX1_slot : ByteArray := prog_3_method_2_code
def yX1_slot : MethodName := ⟨RX1, "slot", "(III)I"⟩
abbrev cX1_outcomeNow : ByteArray := prog_3_method_3_code
def yX1_outcomeNow : MethodName := ⟨RX1, "outcomeNow", "(LTinkerTailor$Board;)I"⟩
abbrev cX1_behindOne : ByteArray := prog_3_method_4_code
def yX1_behindOne : MethodName := ⟨RX1, "behindOne", "(LTinkerTailor$Board;I)I"⟩
abbrev cX1_playAgainst : ByteArray := prog_3_method_5_code
def yX1_playAgainst : MethodName := ⟨RX1, "playAgainst", "(LTinkerTailor$Board;I)V"⟩
abbrev cX1_sureOutcome : ByteArray := prog_3_method_6_code
def yX1_sureOutcome : MethodName := ⟨RX1, "sureOutcome", "(LTinkerTailor$Board;IIII)I"⟩
abbrev cX1_firstSureNumber : ByteArray := prog_3_method_7_code
def yX1_firstSureNumber : MethodName := ⟨RX1, "firstSureNumber", "(LTinkerTailor$Board;I)I"⟩
abbrev cX1_playDuel : ByteArray := prog_3_method_8_code
def yX1_playDuel : MethodName := ⟨RX1, "playDuel", "(LTinkerTailor$Board;)V"⟩
abbrev cX1_duelOutcome : ByteArray := prog_3_method_9_code
def yX1_duelOutcome : MethodName := ⟨RX1, "duelOutcome", "(LTinkerTailor$Board;III)I"⟩
abbrev cX1_afterNumber : ByteArray := prog_3_method_10_code
def yX1_afterNumber : MethodName := ⟨RX1, "afterNumber", "(IIII)I"⟩
abbrev cX1_duelNumber : ByteArray := prog_3_method_11_code
def yX1_duelNumber : MethodName := ⟨RX1, "duelNumber", "(LTinkerTailor$Board;III)I"⟩
abbrev cX1_worthTo : ByteArray := prog_3_method_12_code
def yX1_worthTo : MethodName := ⟨RX1, "worthTo", "(II)I"⟩
abbrev cX1_moverLoses : ByteArray := prog_3_method_13_code
def yX1_moverLoses : MethodName := ⟨RX1, "moverLoses", "(LTinkerTailor$Board;IIZ)Z"⟩
def RX2 : String := "TinkerTailor$Letters"
def TX2 : u_T := fun k => match k with
  | 0 => ("TinkerTailor$Letters", "signs", "[I", true)
  | _ => ("TinkerTailor$Letters", "size", "I", false)
def tyX2 : Nat → FieldType := fun k => match k with
  | 0 => .array .int
  | _ => .int
abbrev wsX20 : List Cond := u_ws RX2 TX2 2
theorem nmX2 : ∀ a, a < 2 → ∀ b, b < 2 → a ≠ b → (TX2 a).2.1 ≠ (TX2 b).2.1 := by decide +kernel
theorem tyX2_ok : ∀ k, k < 2 → parseFieldDescriptor (TX2 k).2.2.1 = some (tyX2 k) := by decide +kernel
abbrev cX2_init : ByteArray := prog_4_method_1_code
def yX2_init : MethodName := ⟨RX2, "<init>", "()V"⟩
abbrev cX2_hasRoom : ByteArray := prog_4_method_2_code
def yX2_hasRoom : MethodName := ⟨RX2, "hasRoom", "()Z"⟩
abbrev cX2_add : ByteArray := prog_4_method_3_code
def yX2_add : MethodName := ⟨RX2, "add", "(I)V"⟩
abbrev cX2_signAt : ByteArray := prog_4_method_4_code
def yX2_signAt : MethodName := ⟨RX2, "signAt", "(I)I"⟩
abbrev cX2_isDigit : ByteArray := prog_4_method_5_code
def yX2_isDigit : MethodName := ⟨RX2, "isDigit", "(I)Z"⟩
abbrev cX2_formOf : ByteArray := prog_4_method_6_code
def yX2_formOf : MethodName := ⟨RX2, "formOf", "(I)Ljava/lang/String;"⟩
abbrev cX2_wrongPlace : ByteArray := prog_4_method_7_code
def yX2_wrongPlace : MethodName := ⟨RX2, "wrongPlace", "()I"⟩
abbrev cX2_endOf : ByteArray := prog_4_method_8_code
def yX2_endOf : MethodName := ⟨RX2, "endOf", "(I)I"⟩
abbrev cX2_digitsFrom : ByteArray := prog_4_method_9_code
def yX2_digitsFrom : MethodName := ⟨RX2, "digitsFrom", "(I)I"⟩
abbrev cX2_numberAt : ByteArray := prog_4_method_10_code
def yX2_numberAt : MethodName := ⟨RX2, "numberAt", "(II)I"⟩
abbrev cX2_bring : ByteArray := prog_4_method_11_code
def yX2_bring : MethodName := ⟨RX2, "bring", "(LTinkerTailor$Board;I)Z"⟩
def RX3 : String := "TinkerTailor$Past"
def TX3 : u_T := fun k => match k with
  | 0 => ("TinkerTailor$Past", "eaters", "[I", true)
  | 1 => ("TinkerTailor$Past", "fruits", "[I", true)
  | 2 => ("TinkerTailor$Past", "stones", "[I", true)
  | _ => ("TinkerTailor$Past", "size", "I", false)
def tyX3 : Nat → FieldType := fun k => match k with
  | 0 => .array .int
  | 1 => .array .int
  | 2 => .array .int
  | _ => .int
abbrev wsX30 : List Cond := u_ws RX3 TX3 4
theorem nmX3 : ∀ a, a < 4 → ∀ b, b < 4 → a ≠ b → (TX3 a).2.1 ≠ (TX3 b).2.1 := by decide +kernel
theorem tyX3_ok : ∀ k, k < 4 → parseFieldDescriptor (TX3 k).2.2.1 = some (tyX3 k) := by decide +kernel
abbrev cX3_init : ByteArray := prog_5_method_1_code
def yX3_init : MethodName := ⟨RX3, "<init>", "()V"⟩
abbrev cX3_forget : ByteArray := prog_5_method_2_code
def yX3_forget : MethodName := ⟨RX3, "forget", "()V"⟩
abbrev cX3_remember : ByteArray := prog_5_method_3_code
def yX3_remember : MethodName := ⟨RX3, "remember", "(LTinkerTailor$Board;)V"⟩
abbrev cX3_dropOldest : ByteArray := prog_5_method_4_code
def yX3_dropOldest : MethodName := ⟨RX3, "dropOldest", "()V"⟩
abbrev cX3_undo : ByteArray := prog_5_method_5_code
def yX3_undo : MethodName := ⟨RX3, "undo", "(LTinkerTailor$Board;)I"⟩
def RX4 : String := "TinkerTailor$Shares"
def TX4 : u_T := fun k => match k with
  | 0 => ("TinkerTailor$Shares", "ways", "[J", true)
  | _ => ("TinkerTailor$Shares", "costs", "[I", true)
def tyX4 : Nat → FieldType := fun k => match k with
  | 0 => .array .long
  | _ => .array .int
abbrev wsX40 : List Cond := u_ws RX4 TX4 2
theorem nmX4 : ∀ a, a < 2 → ∀ b, b < 2 → a ≠ b → (TX4 a).2.1 ≠ (TX4 b).2.1 := by decide +kernel
theorem tyX4_ok : ∀ k, k < 2 → parseFieldDescriptor (TX4 k).2.2.1 = some (tyX4 k) := by decide +kernel
abbrev cX4_init : ByteArray := prog_6_method_1_code
def yX4_init : MethodName := ⟨RX4, "<init>", "()V"⟩
abbrev cX4_waysToPleaseAll : ByteArray := prog_6_method_2_code
def yX4_waysToPleaseAll : MethodName := ⟨RX4, "waysToPleaseAll", "(LTinkerTailor$Board;I)J"⟩
abbrev cX4_waysWith : ByteArray := prog_6_method_3_code
def yX4_waysWith : MethodName := ⟨RX4, "waysWith", "(LTinkerTailor$Board;III)J"⟩
abbrev cX4_canPlease : ByteArray := prog_6_method_4_code
def yX4_canPlease : MethodName := ⟨RX4, "canPlease", "(LTinkerTailor$Board;I)Z"⟩
abbrev cX4_leastNeeded : ByteArray := prog_6_method_5_code
def yX4_leastNeeded : MethodName := ⟨RX4, "leastNeeded", "(LTinkerTailor$Board;I)I"⟩
abbrev cX4_fewestPushes : ByteArray := prog_6_method_6_code
def yX4_fewestPushes : MethodName := ⟨RX4, "fewestPushes", "(LTinkerTailor$Board;)I"⟩
abbrev cX4_costWith : ByteArray := prog_6_method_7_code
def yX4_costWith : MethodName := ⟨RX4, "costWith", "(LTinkerTailor$Board;III)I"⟩
def RX5 : String := "TinkerTailor"
def TX5 : u_T := fun k => match k with
  | 0 => ("TinkerTailor", "now", "LTinkerTailor$Board;", true)
  | 1 => ("TinkerTailor", "mind", "LTinkerTailor$Board;", true)
  | 2 => ("TinkerTailor", "kept", "LTinkerTailor$Board;", true)
  | 3 => ("TinkerTailor", "isKept", "Z", false)
  | 4 => ("TinkerTailor", "letters", "LTinkerTailor$Letters;", true)
  | 5 => ("TinkerTailor", "past", "LTinkerTailor$Past;", true)
  | 6 => ("TinkerTailor", "told", "[I", true)
  | 7 => ("TinkerTailor", "toldCount", "I", false)
  | 8 => ("TinkerTailor", "refused", "[I", true)
  | 9 => ("TinkerTailor", "games", "LTinkerTailor$Games;", true)
  | _ => ("TinkerTailor", "shares", "LTinkerTailor$Shares;", true)
def tyX5 : Nat → FieldType := fun k => match k with
  | 0 => .object "TinkerTailor$Board"
  | 1 => .object "TinkerTailor$Board"
  | 2 => .object "TinkerTailor$Board"
  | 3 => .boolean
  | 4 => .object "TinkerTailor$Letters"
  | 5 => .object "TinkerTailor$Past"
  | 6 => .array .int
  | 7 => .int
  | 8 => .array .int
  | 9 => .object "TinkerTailor$Games"
  | _ => .object "TinkerTailor$Shares"
abbrev wsX50 : List Cond := u_ws RX5 TX5 11
theorem nmX5 : ∀ a, a < 11 → ∀ b, b < 11 → a ≠ b → (TX5 a).2.1 ≠ (TX5 b).2.1 := by decide +kernel
theorem tyX5_ok : ∀ k, k < 11 → parseFieldDescriptor (TX5 k).2.2.1 = some (tyX5 k) := by decide +kernel
abbrev cX5_init : ByteArray := prog_1_method_1_code
def yX5_init : MethodName := ⟨RX5, "<init>", "()V"⟩
abbrev cX5_feed : ByteArray := prog_1_method_2_code
def yX5_feed : MethodName := ⟨RX5, "feed", "(I)I"⟩
abbrev cX5_table : ByteArray := prog_1_method_3_code
def yX5_table : MethodName := ⟨RX5, "table", "()I"⟩
abbrev cX5_rhyme : ByteArray := prog_1_method_4_code
def yX5_rhyme : MethodName := ⟨RX5, "rhyme", "(II)I"⟩
abbrev cX5_begins : ByteArray := prog_1_method_5_code
def yX5_begins : MethodName := ⟨RX5, "begins", "(II)I"⟩
abbrev cX5_says : ByteArray := prog_1_method_6_code
def yX5_says : MethodName := ⟨RX5, "says", "(II)I"⟩
abbrev cX5_both : ByteArray := prog_1_method_7_code
def yX5_both : MethodName := ⟨RX5, "both", "(I)I"⟩
abbrev cX5_leastSaidByAll : ByteArray := prog_1_method_8_code
def yX5_leastSaidByAll : MethodName := ⟨RX5, "leastSaidByAll", "()I"⟩
abbrev cX5_cycleOfTold : ByteArray := prog_1_method_9_code
def yX5_cycleOfTold : MethodName := ⟨RX5, "cycleOfTold", "()I"⟩
abbrev cX5_cycle : ByteArray := prog_1_method_10_code
def yX5_cycle : MethodName := ⟨RX5, "cycle", "()I"⟩
abbrev cX5_same : ByteArray := prog_1_method_11_code
def yX5_same : MethodName := ⟨RX5, "same", "(II)I"⟩
abbrev cX5_fair : ByteArray := prog_1_method_12_code
def yX5_fair : MethodName := ⟨RX5, "fair", "(I)I"⟩
abbrev cX5_rhymed : ByteArray := prog_1_method_13_code
def yX5_rhymed : MethodName := ⟨RX5, "rhymed", "(I)I"⟩
abbrev cX5_eater : ByteArray := prog_1_method_14_code
def yX5_eater : MethodName := ⟨RX5, "eater", "(II)I"⟩
abbrev cX5_lay : ByteArray := prog_1_method_15_code
def yX5_lay : MethodName := ⟨RX5, "lay", "(III)I"⟩
abbrev cX5_kind : ByteArray := prog_1_method_16_code
def yX5_kind : MethodName := ⟨RX5, "kind", "(III)I"⟩
abbrev cX5_set : ByteArray := prog_1_method_17_code
def yX5_set : MethodName := ⟨RX5, "set", "(II)I"⟩
abbrev cX5_refusalToSet : ByteArray := prog_1_method_18_code
def yX5_refusalToSet : MethodName := ⟨RX5, "refusalToSet", "(II)I"⟩
abbrev cX5_turn : ByteArray := prog_1_method_19_code
def yX5_turn : MethodName := ⟨RX5, "turn", "()I"⟩
abbrev cX5_back : ByteArray := prog_1_method_20_code
def yX5_back : MethodName := ⟨RX5, "back", "()I"⟩
abbrev cX5_supper : ByteArray := prog_1_method_21_code
def yX5_supper : MethodName := ⟨RX5, "supper", "(I)I"⟩
abbrev cX5_behind : ByteArray := prog_1_method_22_code
def yX5_behind : MethodName := ⟨RX5, "behind", "(I)I"⟩
abbrev cX5_best : ByteArray := prog_1_method_23_code
def yX5_best : MethodName := ⟨RX5, "best", "(I)I"⟩
abbrev cX5_rims : ByteArray := prog_1_method_24_code
def yX5_rims : MethodName := ⟨RX5, "rims", "()I"⟩
abbrev cX5_bringsTold : ByteArray := prog_1_method_25_code
def yX5_bringsTold : MethodName := ⟨RX5, "bringsTold", "(LTinkerTailor$Board;)Z"⟩
abbrev cX5_wished : ByteArray := prog_1_method_26_code
def yX5_wished : MethodName := ⟨RX5, "wished", "(I)I"⟩
abbrev cX5_seeds : ByteArray := prog_1_method_27_code
def yX5_seeds : MethodName := ⟨RX5, "seeds", "(IIII)I"⟩
abbrev cX5_nextSeed : ByteArray := prog_1_method_28_code
def yX5_nextSeed : MethodName := ⟨RX5, "nextSeed", "(I)I"⟩
abbrev cX5_drawBelow : ByteArray := prog_1_method_29_code
def yX5_drawBelow : MethodName := ⟨RX5, "drawBelow", "(II)I"⟩
abbrev cX5_judge : ByteArray := prog_1_method_30_code
def yX5_judge : MethodName := ⟨RX5, "judge", "()I"⟩
abbrev cX5_firstNotSo : ByteArray := prog_1_method_31_code
def yX5_firstNotSo : MethodName := ⟨RX5, "firstNotSo", "()I"⟩
abbrev cX5_planned : ByteArray := prog_1_method_32_code
def yX5_planned : MethodName := ⟨RX5, "planned", "(I)I"⟩
abbrev cX5_scheme : ByteArray := prog_1_method_33_code
def yX5_scheme : MethodName := ⟨RX5, "scheme", "(I)I"⟩
abbrev cX5_numberLeadsToWish : ByteArray := prog_1_method_34_code
def yX5_numberLeadsToWish : MethodName := ⟨RX5, "numberLeadsToWish", "(LTinkerTailor$Board;III)Z"⟩
abbrev cX5_leadsToWish : ByteArray := prog_1_method_35_code
def yX5_leadsToWish : MethodName := ⟨RX5, "leadsToWish", "(LTinkerTailor$Board;II)Z"⟩
abbrev cX5_aloneLeadsToWish : ByteArray := prog_1_method_36_code
def yX5_aloneLeadsToWish : MethodName := ⟨RX5, "aloneLeadsToWish", "(LTinkerTailor$Board;II)Z"⟩
abbrev cX5_shared : ByteArray := prog_1_method_37_code
def yX5_shared : MethodName := ⟨RX5, "shared", "(I)J"⟩
abbrev cX5_can : ByteArray := prog_1_method_38_code
def yX5_can : MethodName := ⟨RX5, "can", "(I)I"⟩
abbrev cX5_gift : ByteArray := prog_1_method_39_code
def yX5_gift : MethodName := ⟨RX5, "gift", "()I"⟩
abbrev cX5_pushes : ByteArray := prog_1_method_40_code
def yX5_pushes : MethodName := ⟨RX5, "pushes", "()I"⟩
abbrev cX5_sure : ByteArray := prog_1_method_41_code
def yX5_sure : MethodName := ⟨RX5, "sure", "(II)I"⟩
abbrev cX5_last : ByteArray := prog_1_method_42_code
def yX5_last : MethodName := ⟨RX5, "last", "(I)I"⟩
abbrev cX5_duel : ByteArray := prog_1_method_43_code
def yX5_duel : MethodName := ⟨RX5, "duel", "(I)I"⟩
abbrev cX5_pile : ByteArray := prog_1_method_44_code
def yX5_pile : MethodName := ⟨RX5, "pile", "(I)I"⟩
abbrev cX5_move : ByteArray := prog_1_method_45_code
def yX5_move : MethodName := ⟨RX5, "move", "(II)I"⟩
abbrev cX5_wins : ByteArray := prog_1_method_46_code
def yX5_wins : MethodName := ⟨RX5, "wins", "(I)I"⟩
abbrev cX5_spoons : ByteArray := prog_1_method_47_code
def yX5_spoons : MethodName := ⟨RX5, "spoons", "(IIIIII)J"⟩
abbrev cX5_unknown : ByteArray := prog_1_method_48_code
def yX5_unknown : MethodName := ⟨RX5, "unknown", "(IIII)J"⟩
abbrev cX5_petals : ByteArray := prog_1_method_49_code
def yX5_petals : MethodName := ⟨RX5, "petals", "(I)I"⟩
abbrev cX5_petal : ByteArray := prog_1_method_50_code
def yX5_petal : MethodName := ⟨RX5, "petal", "(II)J"⟩
abbrev cX5_likeliestWord : ByteArray := prog_1_method_51_code
def yX5_likeliestWord : MethodName := ⟨RX5, "likeliestWord", "(I)I"⟩
abbrev cX5_weightFor : ByteArray := prog_1_method_52_code
def yX5_weightFor : MethodName := ⟨RX5, "weightFor", "(II)I"⟩
abbrev cX5_row : ByteArray := prog_1_method_53_code
def yX5_row : MethodName := ⟨RX5, "row", "(I)I"⟩
abbrev cX5_clear : ByteArray := prog_1_method_54_code
def yX5_clear : MethodName := ⟨RX5, "clear", "()I"⟩
abbrev cX5_image : ByteArray := prog_1_method_55_code
def yX5_image : MethodName := ⟨RX5, "image", "()I"⟩
abbrev cX5_restore : ByteArray := prog_1_method_56_code
def yX5_restore : MethodName := ⟨RX5, "restore", "()I"⟩
abbrev cX5_count : ByteArray := prog_1_method_57_code
def yX5_count : MethodName := ⟨RX5, "count", "(I)I"⟩
abbrev cX5_refuse : ByteArray := prog_1_method_58_code
def yX5_refuse : MethodName := ⟨RX5, "refuse", "(I)I"⟩
abbrev cX5_refuseLong : ByteArray := prog_1_method_59_code
def yX5_refuseLong : MethodName := ⟨RX5, "refuseLong", "(I)J"⟩
abbrev cX5_spoken : ByteArray := prog_1_method_60_code
def yX5_spoken : MethodName := ⟨RX5, "spoken", "(III)I"⟩
abbrev cX5_commonDivisor : ByteArray := prog_1_method_61_code
def yX5_commonDivisor : MethodName := ⟨RX5, "commonDivisor", "(JJ)J"⟩
abbrev cX5_commonMultiple : ByteArray := prog_1_method_62_code
def yX5_commonMultiple : MethodName := ⟨RX5, "commonMultiple", "(II)I"⟩
abbrev cX5_partOf : ByteArray := prog_1_method_63_code
def yX5_partOf : MethodName := ⟨RX5, "partOf", "(JJI)J"⟩
def RX6 : String := "TinkerTailorModel"
def TX6 : u_T := fun k => match k with
  | 0 => ("TinkerTailorModel", "rhymes", "I", false)
  | 1 => ("TinkerTailorModel", "eaters", "I", false)
  | 2 => ("TinkerTailorModel", "fruits", "I", false)
  | 3 => ("TinkerTailorModel", "bunch", "I", false)
  | 4 => ("TinkerTailorModel", "most", "I", false)
  | 5 => ("TinkerTailorModel", "next", "I", false)
  | 6 => ("TinkerTailorModel", "lengths", "[I", true)
  | 7 => ("TinkerTailorModel", "begins", "[I", true)
  | 8 => ("TinkerTailorModel", "kinds", "[I", true)
  | 9 => ("TinkerTailorModel", "figures", "[I", true)
  | 10 => ("TinkerTailorModel", "wishes", "[I", true)
  | 11 => ("TinkerTailorModel", "stones", "[I", true)
  | 12 => ("TinkerTailorModel", "thrown", "I", false)
  | 13 => ("TinkerTailorModel", "refusals", "[I", true)
  | 14 => ("TinkerTailorModel", "kept", "[I", true)
  | 15 => ("TinkerTailorModel", "imaged", "[I", true)
  | 16 => ("TinkerTailorModel", "hasImage", "Z", false)
  | 17 => ("TinkerTailorModel", "place0", "I", false)
  | 18 => ("TinkerTailorModel", "isTaking", "Z", false)
  | 19 => ("TinkerTailorModel", "keptIn", "[I", false)
  | 20 => ("TinkerTailorModel", "letters", "[I", true)
  | 21 => ("TinkerTailorModel", "letterMany", "I", false)
  | 22 => ("TinkerTailorModel", "at", "I", false)
  | 23 => ("TinkerTailorModel", "isBad", "Z", false)
  | 24 => ("TinkerTailorModel", "statements", "I", false)
  | 25 => ("TinkerTailorModel", "placeIn", "[I", true)
  | 26 => ("TinkerTailorModel", "letterOf", "[I", true)
  | 27 => ("TinkerTailorModel", "told", "[I", true)
  | 28 => ("TinkerTailorModel", "backWho", "[I", true)
  | 29 => ("TinkerTailorModel", "backStones", "[I", true)
  | 30 => ("TinkerTailorModel", "backFruits", "[I", true)
  | 31 => ("TinkerTailorModel", "turned", "I", false)
  | 32 => ("TinkerTailorModel", "ways", "[J", true)
  | 33 => ("TinkerTailorModel", "waysThen", "[J", true)
  | 34 => ("TinkerTailorModel", "surely", "[Z", true)
  | 35 => ("TinkerTailorModel", "choose", "[I", true)
  | 36 => ("TinkerTailorModel", "given", "[I", true)
  | 37 => ("TinkerTailorModel", "givenThen", "[I", true)
  | 38 => ("TinkerTailorModel", "piles", "[I", true)
  | 39 => ("TinkerTailorModel", "pileMany", "I", false)
  | 40 => ("TinkerTailorModel", "winsBy", "[Z", true)
  | 41 => ("TinkerTailorModel", "ends", "[I", true)
  | 42 => ("TinkerTailorModel", "row", "[I", true)
  | 43 => ("TinkerTailorModel", "rowMany", "I", false)
  | _ => ("TinkerTailorModel", "seed", "I", false)
def tyX6 : Nat → FieldType := fun k => match k with
  | 0 => .int
  | 1 => .int
  | 2 => .int
  | 3 => .int
  | 4 => .int
  | 5 => .int
  | 6 => .array .int
  | 7 => .array .int
  | 8 => .array .int
  | 9 => .array .int
  | 10 => .array .int
  | 11 => .array .int
  | 12 => .int
  | 13 => .array .int
  | 14 => .array .int
  | 15 => .array .int
  | 16 => .boolean
  | 17 => .int
  | 18 => .boolean
  | 19 => .array .int
  | 20 => .array .int
  | 21 => .int
  | 22 => .int
  | 23 => .boolean
  | 24 => .int
  | 25 => .array .int
  | 26 => .array .int
  | 27 => .array .int
  | 28 => .array .int
  | 29 => .array .int
  | 30 => .array .int
  | 31 => .int
  | 32 => .array .long
  | 33 => .array .long
  | 34 => .array .boolean
  | 35 => .array .int
  | 36 => .array .int
  | 37 => .array .int
  | 38 => .array .int
  | 39 => .int
  | 40 => .array .boolean
  | 41 => .array .int
  | 42 => .array .int
  | 43 => .int
  | _ => .int
abbrev wsX60 : List Cond := u_ws RX6 TX6 45
theorem nmX6 : ∀ a, a < 45 → ∀ b, b < 45 → a ≠ b → (TX6 a).2.1 ≠ (TX6 b).2.1 := by decide +kernel
theorem tyX6_ok : ∀ k, k < 45 → parseFieldDescriptor (TX6 k).2.2.1 = some (tyX6 k) := by decide +kernel
abbrev cX6_init : ByteArray := prog_8_method_1_code
def yX6_init : MethodName := ⟨RX6, "<init>", "()V"⟩
abbrev cX6_in : ByteArray := prog_8_method_3_code
def yX6_in : MethodName := ⟨RX6, "in", "(JJJ)Z"⟩
abbrev cX6_refuse : ByteArray := prog_8_method_4_code
def yX6_refuse : MethodName := ⟨RX6, "refuse", "(I)I"⟩
abbrev cX6_isRhyme : ByteArray := prog_8_method_5_code
def yX6_isRhyme : MethodName := ⟨RX6, "isRhyme", "(I)Z"⟩
abbrev cX6_isEater : ByteArray := prog_8_method_6_code
def yX6_isEater : MethodName := ⟨RX6, "isEater", "(I)Z"⟩
abbrev cX6_wrongNumber : ByteArray := prog_8_method_7_code
def yX6_wrongNumber : MethodName := ⟨RX6, "wrongNumber", "(III)I"⟩
abbrev cX6_ones : ByteArray := prog_8_method_8_code
def yX6_ones : MethodName := ⟨RX6, "ones", "(I)I"⟩
abbrev cX6_saidBy : ByteArray := prog_8_method_9_code
def yX6_saidBy : MethodName := ⟨RX6, "saidBy", "(II)I"⟩
abbrev cX6_wordTo : ByteArray := prog_8_method_10_code
def yX6_wordTo : MethodName := ⟨RX6, "wordTo", "(I)I"⟩
abbrev cX6_wouldHave : ByteArray := prog_8_method_11_code
def yX6_wouldHave : MethodName := ⟨RX6, "wouldHave", "(II)Z"⟩
abbrev cX6_has : ByteArray := prog_8_method_12_code
def yX6_has : MethodName := ⟨RX6, "has", "(I)Z"⟩
abbrev cX6_leastFor : ByteArray := prog_8_method_13_code
def yX6_leastFor : MethodName := ⟨RX6, "leastFor", "(II)I"⟩
abbrev cX6_playful : ByteArray := prog_8_method_14_code
def yX6_playful : MethodName := ⟨RX6, "playful", "()I"⟩
abbrev cX6_wants : ByteArray := prog_8_method_15_code
def yX6_wants : MethodName := ⟨RX6, "wants", "(I)I"⟩
abbrev cX6_turnOne : ByteArray := prog_8_method_16_code
def yX6_turnOne : MethodName := ⟨RX6, "turnOne", "()I"⟩
abbrev cX6_supperNow : ByteArray := prog_8_method_17_code
def yX6_supperNow : MethodName := ⟨RX6, "supperNow", "()I"⟩
abbrev cX6_haveBits : ByteArray := prog_8_method_18_code
def yX6_haveBits : MethodName := ⟨RX6, "haveBits", "()I"⟩
abbrev cX6_carry : ByteArray := prog_8_method_19_code
def yX6_carry : MethodName := ⟨RX6, "carry", "(I)I"⟩
abbrev cX6_carryAll : ByteArray := prog_8_method_20_code
def yX6_carryAll : MethodName := ⟨RX6, "carryAll", "([IZ)V"⟩
abbrev cX6_open : ByteArray := prog_8_method_21_code
def yX6_open : MethodName := ⟨RX6, "open", "()V"⟩
abbrev cX6_putBack : ByteArray := prog_8_method_22_code
def yX6_putBack : MethodName := ⟨RX6, "putBack", "()V"⟩
abbrev cX6_image : ByteArray := prog_8_method_23_code
def yX6_image : MethodName := ⟨RX6, "image", "()I"⟩
abbrev cX6_restore : ByteArray := prog_8_method_24_code
def yX6_restore : MethodName := ⟨RX6, "restore", "()I"⟩
abbrev cX6_feed : ByteArray := prog_8_method_25_code
def yX6_feed : MethodName := ⟨RX6, "feed", "(I)I"⟩
abbrev cX6_here : ByteArray := prog_8_method_26_code
def yX6_here : MethodName := ⟨RX6, "here", "()I"⟩
abbrev cX6_readDigit : ByteArray := prog_8_method_27_code
def yX6_readDigit : MethodName := ⟨RX6, "readDigit", "()I"⟩
abbrev cX6_readOneOrTwo : ByteArray := prog_8_method_28_code
def yX6_readOneOrTwo : MethodName := ⟨RX6, "readOneOrTwo", "()I"⟩
abbrev cX6_readTwo : ByteArray := prog_8_method_29_code
def yX6_readTwo : MethodName := ⟨RX6, "readTwo", "()I"⟩
abbrev cX6_take : ByteArray := prog_8_method_30_code
def yX6_take : MethodName := ⟨RX6, "take", "(I)V"⟩
abbrev cX6_readStatement : ByteArray := prog_8_method_31_code
def yX6_readStatement : MethodName := ⟨RX6, "readStatement", "()V"⟩
abbrev cX6_rhymeComes : ByteArray := prog_8_method_32_code
def yX6_rhymeComes : MethodName := ⟨RX6, "rhymeComes", "(I)Z"⟩
abbrev cX6_eaterComes : ByteArray := prog_8_method_33_code
def yX6_eaterComes : MethodName := ⟨RX6, "eaterComes", "(I)Z"⟩
abbrev cX6_bowlComes : ByteArray := prog_8_method_34_code
def yX6_bowlComes : MethodName := ⟨RX6, "bowlComes", "(III)Z"⟩
abbrev cX6_wordComes : ByteArray := prog_8_method_35_code
def yX6_wordComes : MethodName := ⟨RX6, "wordComes", "(II)Z"⟩
abbrev cX6_comes : ByteArray := prog_8_method_36_code
def yX6_comes : MethodName := ⟨RX6, "comes", "(I)Z"⟩
abbrev cX6_table : ByteArray := prog_8_method_37_code
def yX6_table : MethodName := ⟨RX6, "table", "()I"⟩
abbrev cX6_rhyme : ByteArray := prog_8_method_38_code
def yX6_rhyme : MethodName := ⟨RX6, "rhyme", "(II)I"⟩
abbrev cX6_begins : ByteArray := prog_8_method_39_code
def yX6_begins : MethodName := ⟨RX6, "begins", "(II)I"⟩
abbrev cX6_says : ByteArray := prog_8_method_40_code
def yX6_says : MethodName := ⟨RX6, "says", "(II)I"⟩
abbrev cX6_eater : ByteArray := prog_8_method_41_code
def yX6_eater : MethodName := ⟨RX6, "eater", "(II)I"⟩
abbrev cX6_lay : ByteArray := prog_8_method_42_code
def yX6_lay : MethodName := ⟨RX6, "lay", "(III)I"⟩
abbrev cX6_kind : ByteArray := prog_8_method_43_code
def yX6_kind : MethodName := ⟨RX6, "kind", "(III)I"⟩
abbrev cX6_wrongSetting : ByteArray := prog_8_method_44_code
def yX6_wrongSetting : MethodName := ⟨RX6, "wrongSetting", "(II)I"⟩
abbrev cX6_set : ByteArray := prog_8_method_45_code
def yX6_set : MethodName := ⟨RX6, "set", "(II)I"⟩
abbrev cX6_turn : ByteArray := prog_8_method_46_code
def yX6_turn : MethodName := ⟨RX6, "turn", "()I"⟩
abbrev cX6_keepTurn : ByteArray := prog_8_method_47_code
def yX6_keepTurn : MethodName := ⟨RX6, "keepTurn", "()V"⟩
abbrev cX6_back : ByteArray := prog_8_method_48_code
def yX6_back : MethodName := ⟨RX6, "back", "()I"⟩
abbrev cX6_supper : ByteArray := prog_8_method_49_code
def yX6_supper : MethodName := ⟨RX6, "supper", "(I)I"⟩
abbrev cX6_behind : ByteArray := prog_8_method_50_code
def yX6_behind : MethodName := ⟨RX6, "behind", "(I)I"⟩
abbrev cX6_allSay : ByteArray := prog_8_method_51_code
def yX6_allSay : MethodName := ⟨RX6, "allSay", "(I)Z"⟩
abbrev cX6_both : ByteArray := prog_8_method_52_code
def yX6_both : MethodName := ⟨RX6, "both", "(I)I"⟩
abbrev cX6_beginWays : ByteArray := prog_8_method_53_code
def yX6_beginWays : MethodName := ⟨RX6, "beginWays", "()V"⟩
abbrev cX6_eatsToo : ByteArray := prog_8_method_54_code
def yX6_eatsToo : MethodName := ⟨RX6, "eatsToo", "(IZI)V"⟩
abbrev cX6_wrongShare : ByteArray := prog_8_method_55_code
def yX6_wrongShare : MethodName := ⟨RX6, "wrongShare", "(I)I"⟩
abbrev cX6_shared : ByteArray := prog_8_method_56_code
def yX6_shared : MethodName := ⟨RX6, "shared", "(I)J"⟩
abbrev cX6_canAll : ByteArray := prog_8_method_57_code
def yX6_canAll : MethodName := ⟨RX6, "canAll", "(I)Z"⟩
abbrev cX6_can : ByteArray := prog_8_method_58_code
def yX6_can : MethodName := ⟨RX6, "can", "(I)I"⟩
abbrev cX6_stateOf : ByteArray := prog_8_method_59_code
def yX6_stateOf : MethodName := ⟨RX6, "stateOf", "(III)I"⟩
abbrev cX6_isSure : ByteArray := prog_8_method_60_code
def yX6_isSure : MethodName := ⟨RX6, "isSure", "(IIII)Z"⟩
abbrev cX6_laySure : ByteArray := prog_8_method_61_code
def yX6_laySure : MethodName := ⟨RX6, "laySure", "(I)V"⟩
abbrev cX6_sureFirst : ByteArray := prog_8_method_62_code
def yX6_sureFirst : MethodName := ⟨RX6, "sureFirst", "(I)I"⟩
abbrev cX6_sure : ByteArray := prog_8_method_63_code
def yX6_sure : MethodName := ⟨RX6, "sure", "(II)I"⟩
abbrev cX6_last : ByteArray := prog_8_method_64_code
def yX6_last : MethodName := ⟨RX6, "last", "(I)I"⟩
abbrev cX6_divisor : ByteArray := prog_8_method_65_code
def yX6_divisor : MethodName := ⟨RX6, "divisor", "(II)I"⟩
abbrev cX6_partOf : ByteArray := prog_8_method_66_code
def yX6_partOf : MethodName := ⟨RX6, "partOf", "(III)J"⟩
abbrev cX6_wrongSpoons : ByteArray := prog_8_method_67_code
def yX6_wrongSpoons : MethodName := ⟨RX6, "wrongSpoons", "(IIIIII)I"⟩
abbrev cX6_spoons : ByteArray := prog_8_method_68_code
def yX6_spoons : MethodName := ⟨RX6, "spoons", "(IIIIII)J"⟩
abbrev cX6_haveBy : ByteArray := prog_8_method_69_code
def yX6_haveBy : MethodName := ⟨RX6, "haveBy", "(I)I"⟩
abbrev cX6_fair : ByteArray := prog_8_method_70_code
def yX6_fair : MethodName := ⟨RX6, "fair", "(I)I"⟩
abbrev cX6_haveAfter : ByteArray := prog_8_method_71_code
def yX6_haveAfter : MethodName := ⟨RX6, "haveAfter", "(III)I"⟩
abbrev cX6_gift : ByteArray := prog_8_method_72_code
def yX6_gift : MethodName := ⟨RX6, "gift", "()I"⟩
abbrev cX6_wrongPetals : ByteArray := prog_8_method_73_code
def yX6_wrongPetals : MethodName := ⟨RX6, "wrongPetals", "(I)I"⟩
abbrev cX6_weightBy : ByteArray := prog_8_method_74_code
def yX6_weightBy : MethodName := ⟨RX6, "weightBy", "(II)I"⟩
abbrev cX6_bestWord : ByteArray := prog_8_method_75_code
def yX6_bestWord : MethodName := ⟨RX6, "bestWord", "(I)I"⟩
abbrev cX6_petals : ByteArray := prog_8_method_76_code
def yX6_petals : MethodName := ⟨RX6, "petals", "(I)I"⟩
abbrev cX6_petal : ByteArray := prog_8_method_77_code
def yX6_petal : MethodName := ⟨RX6, "petal", "(II)J"⟩
abbrev cX6_best : ByteArray := prog_8_method_78_code
def yX6_best : MethodName := ⟨RX6, "best", "(I)I"⟩
abbrev cX6_areRims : ByteArray := prog_8_method_79_code
def yX6_areRims : MethodName := ⟨RX6, "areRims", "()Z"⟩
abbrev cX6_rims : ByteArray := prog_8_method_80_code
def yX6_rims : MethodName := ⟨RX6, "rims", "()I"⟩
abbrev cX6_wished : ByteArray := prog_8_method_81_code
def yX6_wished : MethodName := ⟨RX6, "wished", "(I)I"⟩
abbrev cX6_cycle : ByteArray := prog_8_method_82_code
def yX6_cycle : MethodName := ⟨RX6, "cycle", "()I"⟩
abbrev cX6_same : ByteArray := prog_8_method_83_code
def yX6_same : MethodName := ⟨RX6, "same", "(II)I"⟩
abbrev cX6_haveWith : ByteArray := prog_8_method_84_code
def yX6_haveWith : MethodName := ⟨RX6, "haveWith", "(II)I"⟩
abbrev cX6_rhymed : ByteArray := prog_8_method_85_code
def yX6_rhymed : MethodName := ⟨RX6, "rhymed", "(I)I"⟩
abbrev cX6_givesToo : ByteArray := prog_8_method_86_code
def yX6_givesToo : MethodName := ⟨RX6, "givesToo", "(I)V"⟩
abbrev cX6_pushes : ByteArray := prog_8_method_87_code
def yX6_pushes : MethodName := ⟨RX6, "pushes", "()I"⟩
abbrev cX6_unknown : ByteArray := prog_8_method_88_code
def yX6_unknown : MethodName := ⟨RX6, "unknown", "(IIII)J"⟩
abbrev cX6_takeSo : ByteArray := prog_8_method_89_code
def yX6_takeSo : MethodName := ⟨RX6, "takeSo", "(I)V"⟩
abbrev cX6_planned : ByteArray := prog_8_method_90_code
def yX6_planned : MethodName := ⟨RX6, "planned", "(I)I"⟩
abbrev cX6_bringsWish : ByteArray := prog_8_method_91_code
def yX6_bringsWish : MethodName := ⟨RX6, "bringsWish", "(III)Z"⟩
abbrev cX6_ownTurns : ByteArray := prog_8_method_92_code
def yX6_ownTurns : MethodName := ⟨RX6, "ownTurns", "(I)I"⟩
abbrev cX6_scheme : ByteArray := prog_8_method_93_code
def yX6_scheme : MethodName := ⟨RX6, "scheme", "(I)I"⟩
abbrev cX6_placeOf : ByteArray := prog_8_method_94_code
def yX6_placeOf : MethodName := ⟨RX6, "placeOf", "(I)I"⟩
abbrev cX6_layWins : ByteArray := prog_8_method_95_code
def yX6_layWins : MethodName := ⟨RX6, "layWins", "(Z)V"⟩
abbrev cX6_pileState : ByteArray := prog_8_method_96_code
def yX6_pileState : MethodName := ⟨RX6, "pileState", "()I"⟩
abbrev cX6_firstMove : ByteArray := prog_8_method_97_code
def yX6_firstMove : MethodName := ⟨RX6, "firstMove", "()I"⟩
abbrev cX6_pile : ByteArray := prog_8_method_98_code
def yX6_pile : MethodName := ⟨RX6, "pile", "(I)I"⟩
abbrev cX6_move : ByteArray := prog_8_method_99_code
def yX6_move : MethodName := ⟨RX6, "move", "(II)I"⟩
abbrev cX6_wins : ByteArray := prog_8_method_100_code
def yX6_wins : MethodName := ⟨RX6, "wins", "(I)I"⟩
abbrev cX6_duelState : ByteArray := prog_8_method_101_code
def yX6_duelState : MethodName := ⟨RX6, "duelState", "(III)I"⟩
abbrev cX6_worthTo : ByteArray := prog_8_method_102_code
def yX6_worthTo : MethodName := ⟨RX6, "worthTo", "(II)I"⟩
abbrev cX6_endBy : ByteArray := prog_8_method_103_code
def yX6_endBy : MethodName := ⟨RX6, "endBy", "(IIII)I"⟩
abbrev cX6_bestTake : ByteArray := prog_8_method_104_code
def yX6_bestTake : MethodName := ⟨RX6, "bestTake", "(III)I"⟩
abbrev cX6_layDuel : ByteArray := prog_8_method_105_code
def yX6_layDuel : MethodName := ⟨RX6, "layDuel", "()V"⟩
abbrev cX6_duel : ByteArray := prog_8_method_106_code
def yX6_duel : MethodName := ⟨RX6, "duel", "(I)I"⟩
abbrev cX6_row : ByteArray := prog_8_method_107_code
def yX6_row : MethodName := ⟨RX6, "row", "(I)I"⟩
abbrev cX6_judge : ByteArray := prog_8_method_108_code
def yX6_judge : MethodName := ⟨RX6, "judge", "()I"⟩
abbrev cX6_clear : ByteArray := prog_8_method_109_code
def yX6_clear : MethodName := ⟨RX6, "clear", "()I"⟩
abbrev cX6_draw : ByteArray := prog_8_method_110_code
def yX6_draw : MethodName := ⟨RX6, "draw", "(I)I"⟩
abbrev cX6_seeds : ByteArray := prog_8_method_111_code
def yX6_seeds : MethodName := ⟨RX6, "seeds", "(IIII)I"⟩
abbrev cX6_count : ByteArray := prog_8_method_112_code
def yX6_count : MethodName := ⟨RX6, "count", "(I)I"⟩
def RJ6 : String := "java/lang/Integer"
def TJ6 : u_T := fun k => match k with
  | _ => ("", "", "", false)
def tyJ6 : Nat → FieldType := fun k => match k with
  | _ => .int
abbrev wsJ60 : List Cond := u_ws RJ6 TJ6 0
abbrev cJ6_bitCount_0f7a4 : ByteArray := prog_9_method_49_code
def yJ6_bitCount_0f7a4 : MethodName := ⟨RJ6, "bitCount", "(I)I"⟩
def RJ9 : String := "java/lang/Math"
def TJ9 : u_T := fun k => match k with
  | _ => ("", "", "", false)
def tyJ9 : Nat → FieldType := fun k => match k with
  | _ => .int
abbrev wsJ90 : List Cond := u_ws RJ9 TJ9 0
abbrev cJ9_max_7cf53 : ByteArray := prog_10_method_65_code
def yJ9_max_7cf53 : MethodName := ⟨RJ9, "max", "(II)I"⟩
abbrev cJ9_min_7cf53 : ByteArray := prog_10_method_69_code
def yJ9_min_7cf53 : MethodName := ⟨RJ9, "min", "(II)I"⟩
def RJ0 : String := "java/lang/String"
def TJ0 : u_T := fun k => match k with
  | _ => ("", "", "", false)
def tyJ0 : Nat → FieldType := fun k => match k with
  | _ => .int
abbrev wsJ00 : List Cond := u_ws RJ0 TJ0 0
abbrev cJ0_length_8abf5 : ByteArray := prog_11_method_54_code
def yJ0_length_8abf5 : MethodName := ⟨RJ0, "length", "()I"⟩
abbrev cJ0_isEmpty_aae02 : ByteArray := prog_11_method_55_code
def yJ0_isEmpty_aae02 : MethodName := ⟨RJ0, "isEmpty", "()Z"⟩
abbrev cJ0_charAt_5068e : ByteArray := prog_11_method_56_code
def yJ0_charAt_5068e : MethodName := ⟨RJ0, "charAt", "(I)C"⟩
abbrev cJ0_coder_7d493 : ByteArray := prog_11_method_152_code
def yJ0_coder_7d493 : MethodName := ⟨RJ0, "coder", "()B"⟩
abbrev cJ0_isLatin1_aae02 : ByteArray := prog_11_method_154_code
def yJ0_isLatin1_aae02 : MethodName := ⟨RJ0, "isLatin1", "()Z"⟩
abbrev cJ0_checkIndex_df160 : ByteArray := prog_11_method_155_code
def yJ0_checkIndex_df160 : MethodName := ⟨RJ0, "checkIndex", "(II)V"⟩
def RJ1 : String := "java/lang/StringLatin1"
def TJ1 : u_T := fun k => match k with
  | _ => ("", "", "", false)
def tyJ1 : Nat → FieldType := fun k => match k with
  | _ => .int
abbrev wsJ10 : List Cond := u_ws RJ1 TJ1 0
abbrev cJ1_charAt_3b067 : ByteArray := prog_12_method_2_code
def yJ1_charAt_3b067 : MethodName := ⟨RJ1, "charAt", "([BI)C"⟩
def RJ2 : String := "java/lang/StringUTF16"
def TJ2 : u_T := fun k => match k with
  | _ => ("", "", "", false)
def tyJ2 : Nat → FieldType := fun k => match k with
  | _ => .int
abbrev wsJ20 : List Cond := u_ws RJ2 TJ2 0
abbrev cJ2_getChar_3b067 : ByteArray := prog_13_method_5_code
def yJ2_getChar_3b067 : MethodName := ⟨RJ2, "getChar", "([BI)C"⟩
abbrev cJ2_length_9d52b : ByteArray := prog_13_method_6_code
def yJ2_length_9d52b : MethodName := ⟨RJ2, "length", "([B)I"⟩
abbrev cJ2_charAt_3b067 : ByteArray := prog_13_method_83_code
def yJ2_charAt_3b067 : MethodName := ⟨RJ2, "charAt", "([BI)C"⟩
abbrev cJ2_checkIndex_2214a : ByteArray := prog_13_method_91_code
def yJ2_checkIndex_2214a : MethodName := ⟨RJ2, "checkIndex", "(I[B)V"⟩
def RJ10 : String := "java/lang/System"
def TJ10 : u_T := fun k => match k with
  | _ => ("", "", "", false)
def tyJ10 : Nat → FieldType := fun k => match k with
  | _ => .int
abbrev wsJ100 : List Cond := u_ws RJ10 TJ10 0
def RJ3 : String := "jdk/internal/util/Preconditions"
def TJ3 : u_T := fun k => match k with
  | _ => ("", "", "", false)
def tyJ3 : Nat → FieldType := fun k => match k with
  | _ => .int
abbrev wsJ30 : List Cond := u_ws RJ3 TJ3 0
abbrev cJ3_checkIndex_8e157 : ByteArray := prog_15_method_11_code
def yJ3_checkIndex_8e157 : MethodName := ⟨RJ3, "checkIndex", "(IILjava/util/function/BiFunction;)I"⟩
abbrev vwCl : List vw_C := [(RX0, TX0, 14), (RX1, TX1, 1), (RX2, TX2, 2), (RX3, TX3, 4), (RX4, TX4, 2), (RX5, TX5, 11), (RX6, TX6, 45)]
theorem inX0 : ∀ w ∈ wsX00, w ∈ lw_tbl := by decide +kernel
theorem inX1 : ∀ w ∈ wsX10, w ∈ lw_tbl := by decide +kernel
theorem inX2 : ∀ w ∈ wsX20, w ∈ lw_tbl := by decide +kernel
theorem inX3 : ∀ w ∈ wsX30, w ∈ lw_tbl := by decide +kernel
theorem inX4 : ∀ w ∈ wsX40, w ∈ lw_tbl := by decide +kernel
theorem inX5 : ∀ w ∈ wsX50, w ∈ lw_tbl := by decide +kernel
theorem inX6 : ∀ w ∈ wsX60, w ∈ lw_tbl := by decide +kernel
end
section
/-! ===== THE ABSTRACT MACHINE: predicate transformers over Int-valued cells; its soundness over W stands in the next part ===== -/
abbrev AV : Type := Int ⊕ (Int ⊕ Option Nat)
abbrev AH : Type := (Nat → Int → Int) × ((Nat → Int → Int) × (Nat → Int → Option Nat))
abbrev LL : Type := List (Option AV)
abbrev RI : Type := Instr × List Nat
abbrev AK : Type := Option AV → AH → Prop
abbrev AJ : Type := Nat → LL → List AV → AH → Prop
abbrev AT : Type := Nat → List AV → AH → AK → Prop
abbrev ABlk : Type := Nat × (List Bool × List RI)
abbrev vI (z : Int) : AV := Sum.inl z
abbrev vL (z : Int) : AV := Sum.inr (Sum.inl z)
abbrev vR (k : Nat) : AV := Sum.inr (Sum.inr (some k))
def inI (z : Int) : Prop := -2147483648 ≤ z ∧ z ≤ 2147483647
def inL (z : Int) : Prop := -9223372036854775808 ≤ z ∧ z ≤ 9223372036854775807
def upI (h : AH) (k : Nat) (j z : Int) : AH := (fun k' j' => if k' = k ∧ j' = j then z else h.1 k' j', h.2)
def upL (h : AH) (k : Nat) (j z : Int) : AH := (h.1, fun k' j' => if k' = k ∧ j' = j then z else h.2.1 k' j', h.2.2)
def upR (h : AH) (k : Nat) (j : Int) (r : Option Nat) : AH := (h.1, h.2.1, fun k' j' => if k' = k ∧ j' = j then r else h.2.2 k' j')
/-- System.arraycopy of ints -/
def cpI (h : AH) (a : Nat) (sp : Int) (b : Nat) (dp n : Int) : AH := (fun k' j' => if k' = b ∧ dp ≤ j' ∧ j' < dp + n then h.1 a (sp + (j' - dp)) else h.1 k' j', h.2)
def lcz (z y : Int) : Int := if z < y then -1 else if z = y then 0 else 1
def cmpP (c : ClassFile.Cond) (z y : Int) : Prop := match c with
  | .eq => z = y
  | .ne => ¬ z = y
  | .lt => z < y
  | .ge => y ≤ z
  | .gt => y < z
  | .le => z ≤ y
def isLg : Option AV → Bool
  | some (.inr (.inl _)) => true
  | _ => false
def setL : LL → Nat → AV → LL
  | [], _, _ => []
  | _ :: L, 0, v => some v :: L
  | x :: L, 1, v => (if isLg x = true then none else x) :: setL L 0 v
  | x :: L, n + 2, v => x :: setL L (n + 1) v
def setL2 : LL → Nat → AV → LL
  | [], _, _ => []
  | _ :: _ :: L, 0, v => some v :: none :: L
  | _ :: L, 0, v => some v :: L
  | x :: L, 1, v => (if isLg x = true then none else x) :: setL2 L 0 v
  | x :: L, n + 2, v => x :: setL2 L (n + 1) v
def entL : List AV → LL
  | [] => []
  | .inr (.inl z) :: vs => some (.inr (.inl z)) :: none :: entL vs
  | v :: vs => some v :: entL vs
def maskL : List Bool → LL → LL
  | [], _ => []
  | _ :: bs, [] => none :: maskL bs []
  | b :: bs, x :: L => (if b = true then x else none) :: maskL bs L
def popA : Nat → List AV → List AV → Option (List AV × List AV)
  | 0, acc, st => some (acc, st)
  | _ + 1, _, [] => none
  | n + 1, acc, v :: st => popA n (v :: acc) st
def catA : AV → Nat
  | .inr (.inl _) => 2
  | _ => 1
def catS : List AV → Nat
  | [] => 0
  | v :: st => catA v + catS st
def ldA (kd : Nat) (L : LL) (i : Nat) (k : AV → Prop) : Prop := match kd, L[i]? with
  | 0, some (some (.inl z)) => k (.inl z)
  | 1, some (some (.inr (.inl z))) => k (.inr (.inl z))
  | 2, some (some (.inr (.inr (some a)))) => k (.inr (.inr (some a)))
  | _, _ => False
def swA (z : Int) (J : Nat → Prop) : Int → List Nat → Prop
  | _, [] => True
  | lo, t :: ts => (z = lo → J t) ∧ swA z J (lo + 1) ts
def lkA (z : Int) (J : Nat → Prop) (d : Nat) : List (Int × Int) → List Nat → Prop
  | [], _ => J d
  | _, [] => False
  | (a, _) :: ps, t :: ts => (z = a → J t) ∧ (¬ z = a → lkA z J d ps ts)
def pushO : Option AV → List AV → List AV
  | some v, st => v :: st
  | none, st => st
def strS : List (List Int) := [[100, 68, 59], [100, 100, 100, 100, 100, 100, 59], [100, 68, 44, 100, 100, 59], [100, 100, 100, 59], [59], []]
/-- what each cell is: 0 .. 6 an object of that class, 10 ints, 11 longs, 12 booleans (how many); 13 a constant's bytes, 14 the script, 20 a constant; the reference's cells behind its object (38) -/
def shM : List (Nat × Nat) := [(10, 4), (10, 4), (10, 4), (10, 4), (10, 4), (10, 4), (10, 7), (10, 35), (10, 35), (10, 96), (10, 49), (10, 49), (10, 196), (10, 8), (10, 8), (10, 8), (11, 61), (11, 61), (12, 14884), (10, 21), (10, 397), (10, 397), (10, 4), (12, 28561), (10, 7442), (10, 12)]
def shT : List (Nat × Nat) := [(5, 0),
  (0, 0), (10, 4), (10, 4), (10, 4), (10, 4), (10, 4), (10, 4), (10, 4),
  (0, 0), (10, 4), (10, 4), (10, 4), (10, 4), (10, 4), (10, 4), (10, 4),
  (0, 0), (10, 4), (10, 4), (10, 4), (10, 4), (10, 4), (10, 4), (10, 4),
  (2, 0), (10, 96), (3, 0), (10, 8), (10, 8), (10, 8), (10, 12), (10, 7), (1, 0), (10, 1708), (4, 0), (11, 61), (10, 397),
  (6, 0)] ++ shM
def shA (k : Nat) : Nat × Nat := if k < 100 then (shT[k]?).getD (99, 0) else if 200 ≤ k ∧ k < 206 then (20, 0) else if 220 ≤ k ∧ k < 226 then (13, (strS.getD (k - 220) []).length) else if k = 300 then (14, 0) else (99, 0)
def exS (sc : Int → Int) (sl : Int) (T : AT) (J : AJ) (K : AK) (i : Instr) (x : List Nat) (L : LL) (st : List AV) (h : AH) (k : LL → List AV → AH → Prop) : Prop :=
  match i with
  | .nop => match x with
    | t :: _ => J t L st h
    | [] => False
  | .iconst n => k L (.inl n :: st) h
  | .bipush n => k L (.inl n :: st) h
  | .sipush n => k L (.inl n :: st) h
  | .lconst n => k L (.inr (.inl (n.val : Int)) :: st) h
  | .ldc _ => match x with
    | 0 :: a :: b :: _ => k L (.inl ((a : Int) - (b : Int)) :: st) h
    | [1, q] => k L (.inr (.inr (some (200 + q))) :: st) h
    | _ => False
  | .ldc_w _ => match x with
    | 0 :: a :: b :: _ => k L (.inl ((a : Int) - (b : Int)) :: st) h
    | _ => False
  | .ldc2_w _ => match x with
    | a :: b :: _ => k L (.inr (.inl ((a : Int) - (b : Int))) :: st) h
    | _ => False
  | .iload_n n => ldA 0 L n.val (fun v => k L (v :: st) h)
  | .iload n => ldA 0 L n (fun v => k L (v :: st) h)
  | .lload_n n => ldA 1 L n.val (fun v => k L (v :: st) h)
  | .lload n => ldA 1 L n (fun v => k L (v :: st) h)
  | .aload_n n => ldA 2 L n.val (fun v => k L (v :: st) h)
  | .aload n => ldA 2 L n (fun v => k L (v :: st) h)
  | .istore_n n => match st with
    | .inl z :: st => k (setL L n.val (.inl z)) st h
    | _ => False
  | .istore n => match st with
    | .inl z :: st => k (setL L n (.inl z)) st h
    | _ => False
  | .lstore_n n => match st with
    | .inr (.inl z) :: st => k (setL2 L n.val (.inr (.inl z))) st h
    | _ => False
  | .lstore n => match st with
    | .inr (.inl z) :: st => k (setL2 L n (.inr (.inl z))) st h
    | _ => False
  | .astore_n n => match st with
    | .inr (.inr (some a)) :: st => k (setL L n.val (.inr (.inr (some a)))) st h
    | _ => False
  | .astore n => match st with
    | .inr (.inr (some a)) :: st => k (setL L n (.inr (.inr (some a)))) st h
    | _ => False
  | .iinc n c => ldA 0 L n (fun v => match v with
    | .inl z => inI (z + c) ∧ k (setL L n (.inl (z + c))) st h
    | _ => False)
  | .iadd => match st with
    | .inl y :: .inl z :: st => match x with
      | [] => inI (z + y) ∧ k L (.inl (z + y) :: st) h
      | _ => k L (.inl (Int.bmod (z + y) 4294967296) :: st) h
    | _ => False
  | .isub => match st with
    | .inl y :: .inl z :: st => inI (z - y) ∧ k L (.inl (z - y) :: st) h
    | _ => False
  | .imul => match st with
    | .inl y :: .inl z :: st => match x with
      | [] => inI (z * y) ∧ k L (.inl (z * y) :: st) h
      | _ => k L (.inl (Int.bmod (z * y) 4294967296) :: st) h
    | _ => False
  | .idiv => match st with
    | .inl y :: .inl z :: st => 0 ≤ z ∧ 0 < y ∧ k L (.inl (z / y) :: st) h
    | _ => False
  | .irem => match st with
    | .inl y :: .inl z :: st => 0 ≤ z ∧ 0 < y ∧ k L (.inl (z % y) :: st) h
    | _ => False
  | .ineg => match st with
    | .inl z :: st => inI (-z) ∧ k L (.inl (-z) :: st) h
    | _ => False
  | .iand => match st with
    | .inl y :: .inl z :: st => match x with
      | [] => 0 ≤ z ∧ 0 ≤ y ∧ k L (.inl ((z.toNat &&& y.toNat : Nat) : Int) :: st) h
      | _ => y = 2147483647 ∧ k L (.inl (z % 2147483648) :: st) h
    | _ => False
  | .ior => match st with
    | .inl y :: .inl z :: st => 0 ≤ z ∧ 0 ≤ y ∧ k L (.inl ((z.toNat ||| y.toNat : Nat) : Int) :: st) h
    | _ => False
  | .ixor => match st with
    | .inl y :: .inl z :: st => 0 ≤ z ∧ 0 ≤ y ∧ k L (.inl ((z.toNat ^^^ y.toNat : Nat) : Int) :: st) h
    | _ => False
  | .ishl => match st with
    | .inl y :: .inl z :: st => 0 ≤ z ∧ 0 ≤ y ∧ y < 31 ∧ inI (z * 2 ^ y.toNat) ∧ k L (.inl (z * 2 ^ y.toNat) :: st) h
    | _ => False
  | .ishr => match st with
    | .inl y :: .inl z :: st => 0 ≤ z ∧ 0 ≤ y ∧ y < 31 ∧ k L (.inl (z / 2 ^ y.toNat) :: st) h
    | _ => False
  | .iushr => match st with
    | .inl y :: .inl z :: st => 0 ≤ z ∧ 0 ≤ y ∧ y < 31 ∧ k L (.inl (z / 2 ^ y.toNat) :: st) h
    | _ => False
  | .lshl => match st with
    | .inl y :: .inr (.inl z) :: st => 0 ≤ z ∧ 0 ≤ y ∧ y < 63 ∧ inL (z * 2 ^ y.toNat) ∧ k L (.inr (.inl (z * 2 ^ y.toNat)) :: st) h
    | _ => False
  | .ladd => match st with
    | .inr (.inl y) :: .inr (.inl z) :: st => inL (z + y) ∧ k L (.inr (.inl (z + y)) :: st) h
    | _ => False
  | .lsub => match st with
    | .inr (.inl y) :: .inr (.inl z) :: st => inL (z - y) ∧ k L (.inr (.inl (z - y)) :: st) h
    | _ => False
  | .lmul => match st with
    | .inr (.inl y) :: .inr (.inl z) :: st => inL (z * y) ∧ k L (.inr (.inl (z * y)) :: st) h
    | _ => False
  | .ldiv => match st with
    | .inr (.inl y) :: .inr (.inl z) :: st => 0 ≤ z ∧ 0 < y ∧ k L (.inr (.inl (z / y)) :: st) h
    | _ => False
  | .lrem => match st with
    | .inr (.inl y) :: .inr (.inl z) :: st => 0 ≤ z ∧ 0 < y ∧ k L (.inr (.inl (z % y)) :: st) h
    | _ => False
  | .lcmp => match st with
    | .inr (.inl y) :: .inr (.inl z) :: st => k L (.inl (lcz z y) :: st) h
    | _ => False
  | .i2l => match st with
    | .inl z :: st => k L (.inr (.inl z) :: st) h
    | _ => False
  | .l2i => match st with
    | .inr (.inl z) :: st => inI z ∧ k L (.inl z :: st) h
    | _ => False
  | .i2c => match st with
    | .inl z :: st => 0 ≤ z ∧ z < 65536 ∧ k L (.inl z :: st) h
    | _ => False
  | .pop => match st with
    | v :: st => catA v = 1 ∧ k L st h
    | _ => False
  | .dup => match st with
    | v :: st => catA v = 1 ∧ k L (v :: v :: st) h
    | _ => False
  | .dup2 => match st with
    | v :: w :: st => catA v = 1 ∧ catA w = 1 ∧ k L (v :: w :: v :: w :: st) h
    | _ => False
  | .dup_x1 => match st with
    | v :: w :: st => catA v = 1 ∧ catA w = 1 ∧ k L (v :: w :: v :: st) h
    | _ => False
  | .if_icmp c _ => match x, st with
    | t :: _, .inl y :: .inl z :: st => (cmpP c z y → J t L st h) ∧ (¬ cmpP c z y → k L st h)
    | _, _ => False
  | .ifCond c _ => match x, st with
    | t :: _, .inl z :: st => (cmpP c z 0 → J t L st h) ∧ (¬ cmpP c z 0 → k L st h)
    | _, _ => False
  | .goto _ => match x with
    | t :: _ => J t L st h
    | _ => False
  | .tableswitch _ lo hi _ => match x, st with
    | d :: ts, .inl z :: st => (z < lo ∨ hi < z → J d L st h) ∧ swA z (fun t => J t L st h) lo ts
    | _, _ => False
  | .lookupswitch _ ps => match x, st with
    | d :: ts, .inl z :: st => lkA z (fun t => J t L st h) d ps.toList ts
    | _, _ => False
  | .getstatic _ => match x with
    | 0 :: _ => k L (.inl 1 :: st) h
    | 1 :: _ => k L (.inr (.inr (some 240)) :: st) h
    | _ => False
  | .getfield _ => match x, st with
    | 0 :: c :: j :: _, .inr (.inr (some a)) :: st => (shA a).1 = c ∧ k L (.inl (h.1 a (j : Int)) :: st) h
    | 1 :: c :: _ :: o :: _, .inr (.inr (some a)) :: st => (shA a).1 = c ∧ k L (.inr (.inr (some (a + o))) :: st) h
    | 2 :: c :: j :: _, .inr (.inr (some a)) :: st => (shA a).1 = c ∧ ∃ b, h.2.2 a (j : Int) = some b ∧ k L (.inr (.inr (some b)) :: st) h
    | 3 :: _, .inr (.inr (some a)) :: st => (shA a).1 = 20 ∧ k L (.inl 0 :: st) h
    | _, _ => False
  | .putfield _ => match x, st with
    | 0 :: c :: j :: _, .inl z :: .inr (.inr (some a)) :: st => (shA a).1 = c ∧ k L st (upI h a (j : Int) z)
    | 2 :: c :: j :: _, .inr (.inr (some b)) :: .inr (.inr (some a)) :: st => (shA a).1 = c ∧ (shA b).1 = 10 ∧ k L st (upR h a (j : Int) (some b))
    | 3 :: c :: j :: _, .inl z :: .inr (.inr (some a)) :: st => (shA a).1 = c ∧ (z = 0 ∨ z = 1) ∧ k L st (upI h a (j : Int) z)
    | _, _ => False
  | .iaload => match x, st with
    | [], .inl i :: .inr (.inr (some a)) :: st => (shA a).1 = 10 ∧ 0 ≤ i ∧ i < ((shA a).2 : Int) ∧ k L (.inl (h.1 a i) :: st) h
    | _, .inl i :: .inr (.inr (some a)) :: st => (shA a).1 = 14 ∧ 0 ≤ i ∧ i < sl ∧ k L (.inl (sc i) :: st) h
    | _, _ => False
  | .iastore => match st with
    | .inl z :: .inl i :: .inr (.inr (some a)) :: st => (shA a).1 = 10 ∧ 0 ≤ i ∧ i < ((shA a).2 : Int) ∧ k L st (upI h a i z)
    | _ => False
  | .laload => match st with
    | .inl i :: .inr (.inr (some a)) :: st => (shA a).1 = 11 ∧ 0 ≤ i ∧ i < ((shA a).2 : Int) ∧ k L (.inr (.inl (h.2.1 a i)) :: st) h
    | _ => False
  | .lastore => match st with
    | .inr (.inl z) :: .inl i :: .inr (.inr (some a)) :: st => (shA a).1 = 11 ∧ 0 ≤ i ∧ i < ((shA a).2 : Int) ∧ k L st (upL h a i z)
    | _ => False
  | .baload => match x, st with
    | [], .inl i :: .inr (.inr (some a)) :: st => (shA a).1 = 12 ∧ 0 ≤ i ∧ i < ((shA a).2 : Int) ∧ k L (.inl (h.1 a i) :: st) h
    | _, .inl i :: .inr (.inr (some a)) :: st => (shA a).1 = 13 ∧ 0 ≤ i ∧ i < ((shA a).2 : Int) ∧ k L (.inl ((strS.getD (a - 220) []).getD i.toNat 0) :: st) h
    | _, _ => False
  | .bastore => match st with
    | .inl z :: .inl i :: .inr (.inr (some a)) :: st => (shA a).1 = 12 ∧ 0 ≤ i ∧ i < ((shA a).2 : Int) ∧ (z = 0 ∨ z = 1) ∧ k L st (upI h a i z)
    | _ => False
  | .arraylength => match x, st with
    | [], .inr (.inr (some a)) :: st => (shA a).1 = 13 ∧ k L (.inl ((shA a).2 : Int) :: st) h
    | _, .inr (.inr (some a)) :: st => (shA a).1 = 14 ∧ k L (.inl sl :: st) h
    | _, _ => False
  | .invokestatic _ => match x, st with
    | 0 :: _ :: [], .inl y :: .inl z :: st => catS st ≤ 8 ∧ k L (.inl (max z y) :: st) h
    | 1 :: _ :: [], .inl y :: .inl z :: st => catS st ≤ 8 ∧ k L (.inl (min z y) :: st) h
    | 2 :: _ :: [], .inl n :: .inl dp :: .inr (.inr (some b)) :: .inl sp :: .inr (.inr (some a)) :: st => catS st ≤ 8 ∧ (shA a).1 = 10 ∧ (shA b).1 = 10 ∧ 0 ≤ n ∧ 0 ≤ sp ∧ sp + n ≤ ((shA a).2 : Int) ∧ 0 ≤ dp ∧ dp + n ≤ ((shA b).2 : Int) ∧ k L st (cpI h a sp b dp n)
    | id :: n :: _ :: _, st => match popA n [] st with
      | some (as, st) => catS st ≤ 8 ∧ T id as h (fun r h' => k L (pushO r st) h')
      | none => False
    | _, _ => False
  | .invokevirtual _ => match x with
    | id :: n :: _ => match popA n [] st with
      | some (as, st) => catS st ≤ 8 ∧ T id as h (fun r h' => k L (pushO r st) h')
      | none => False
    | _ => False
  | .ireturn => match x, st with
    | [], .inl z :: [] => K (some (.inl z)) h
    | [1], .inl z :: [] => (z = 0 ∨ z = 1) ∧ K (some (.inl z)) h
    | [2], .inl z :: [] => (0 ≤ z ∧ z < 65536) ∧ K (some (.inl z)) h
    | [3], .inl z :: [] => z = 0 ∧ K (some (.inl z)) h
    | _, _ => False
  | .lreturn => match st with
    | .inr (.inl z) :: [] => K (some (.inr (.inl z))) h
    | _ => False
  | .areturn => match st with
    | .inr (.inr (some a)) :: [] => K (some (.inr (.inr (some a)))) h
    | _ => False
  | .return_ => match st with
    | [] => K none h
    | _ => False
  | _ => False
def ex (sc : Int → Int) (sl : Int) (T : AT) (J : AJ) (K : AK) : List RI → LL → List AV → AH → Prop
  | [], _, _, _ => False
  | r :: is, L, st, h => exS sc sl T J K r.1 r.2 L st h (fun L st h => ex sc sl T J K is L st h)
/-- from a block on: the least predicate closed under running a block -/
def Bx (sc : Int → Int) (sl : Int) (T : AT) (bs : List ABlk) (K : AK) (b : Nat) (L : LL) (st : List AV) (h : AH) : Prop :=
  ∀ P : AJ, (∀ (b : Nat) (q : ABlk) (L : LL) (st : List AV) (h : AH), bs[b]? = some q → ex sc sl T P K q.2.2 (maskL q.2.1 L) st h → P b L st h) → P b L st h
end
section
/-! ===== ints as Int: what the machine's operations do to Int32.ofInt, Int64.ofInt in range ===== -/
theorem am_t {z : Int} (h : inI z) : (Int32.ofInt z).toInt = z := Int32.toInt_ofInt_of_le h.1 (by have := h.2; omega)
theorem am_T {z : Int} (h : inL z) : (Int64.ofInt z).toInt = z := Int64.toInt_ofInt_of_le h.1 (by have := h.2; omega)
theorem am_r (x : Int32) : inI x.toInt := ⟨Int32.le_toInt x, by have := Int32.toInt_lt x; omega⟩
theorem am_R (x : Int64) : inL x.toInt := ⟨Int64.le_toInt x, by have := Int64.toInt_lt x; omega⟩
theorem am_oi (x : Int32) : Int32.ofInt x.toInt = x := Int32.ofInt_toInt x
theorem am_add (z y : Int) : Int32.ofInt z + Int32.ofInt y = Int32.ofInt (z + y) := (Int32.ofInt_add z y).symm
theorem am_sub (z y : Int) : Int32.ofInt z - Int32.ofInt y = Int32.ofInt (z - y) := (Int32.ofInt_sub z y).symm
theorem am_mul (z y : Int) : Int32.ofInt z * Int32.ofInt y = Int32.ofInt (z * y) := (Int32.ofInt_mul z y).symm
theorem am_neg (z : Int) : -Int32.ofInt z = Int32.ofInt (-z) := (Int32.ofInt_neg z).symm
theorem am_wrap (z : Int) : Int32.ofInt (Int.bmod z 4294967296) = Int32.ofInt z := by
  apply Int32.toInt_inj.mp
  rw [Int32.toInt_ofInt, Int32.toInt_ofInt]
  simp
theorem am_wrapI (z : Int) : inI (Int.bmod z 4294967296) := by
  have h1 := Int.le_bmod (x := z) (m := 4294967296) (by decide)
  have h2 := Int.bmod_lt (x := z) (m := 4294967296) (by decide)
  constructor <;> omega
theorem am_lt {z y : Int} (hz : inI z) (hy : inI y) : Int32.ofInt z < Int32.ofInt y ↔ z < y := by
  rw [Int32.lt_iff_toInt_lt, am_t hz, am_t hy]
theorem am_le {z y : Int} (hz : inI z) (hy : inI y) : Int32.ofInt z ≤ Int32.ofInt y ↔ z ≤ y := by
  rw [Int32.le_iff_toInt_le, am_t hz, am_t hy]
theorem am_eq {z y : Int} (hz : inI z) (hy : inI y) : Int32.ofInt z = Int32.ofInt y ↔ z = y := by
  rw [← Int32.toInt_inj, am_t hz, am_t hy]
theorem am_divI {z y : Int} (hz : inI z) (h0 : 0 ≤ z) (h1 : 0 < y) : inI (z / y) := by
  have a := Int.ediv_nonneg h0 (Int.le_of_lt h1)
  have b := Int.ediv_le_self y h0
  have := hz.2
  constructor <;> omega
theorem am_modI {z y : Int} (hy : inI y) (h1 : 0 < y) : inI (z % y) := by
  have a := Int.emod_nonneg z (show y ≠ 0 by omega)
  have b := Int.emod_lt_of_pos z h1
  have := hy.2
  constructor <;> omega
theorem am_div {z y : Int} (hz : inI z) (hy : inI y) (h0 : 0 ≤ z) (h1 : 0 < y) : Int32.ofInt z / Int32.ofInt y = Int32.ofInt (z / y) := by
  apply Int32.toInt_inj.mp
  have hq := am_divI hz h0 h1
  rw [Int32.toInt_div, am_t hz, am_t hy, am_t hq, Int.tdiv_eq_ediv_of_nonneg h0]
  exact Int.bmod_eq_of_le (by have := hq.1; omega) (by have := hq.2; omega)
theorem am_ne0 {y : Int} (hy : inI y) (h1 : 0 < y) : ¬ Int32.ofInt y = 0 := fun h => by
  have := (am_eq hy (⟨by decide, by decide⟩ : inI 0)).mp h
  omega
theorem am_rem {z y : Int} (hz : inI z) (hy : inI y) (h0 : 0 ≤ z) (h1 : 0 < y) : Int32.ofInt z - Int32.ofInt z / Int32.ofInt y * Int32.ofInt y = Int32.ofInt (z % y) := by
  rw [am_div hz hy h0 h1, am_mul, am_sub]
  congr 1
  have := Int.emod_def z y
  rw [this, Int.mul_comm y]
theorem am_nat (n : Nat) : Int32.ofInt (n : Int) = nI n := by
  show Int32.ofInt (n : Int) = Int32.ofNat n
  exact Int32.ofInt_eq_ofNat
theorem am_nn {z : Int} (h : 0 ≤ z) : Int32.ofInt z = nI z.toNat := by
  conv => lhs; rw [← Int.toNat_of_nonneg h]
  exact am_nat _
theorem am_natI {z : Int} (n : Nat) (hz : inI z) (h : (n : Int) ≤ z) : inI (n : Int) := by
  have := hz.2
  constructor <;> omega
theorem am_bnd (a b : Nat) (ha : a < 2 ^ 31) (hb : b < 2 ^ 31) : (a &&& b) < 2 ^ 31 ∧ (a ||| b) < 2 ^ 31 ∧ (a ^^^ b) < 2 ^ 31 := ⟨Nat.lt_of_le_of_lt Nat.and_le_left ha, Nat.or_lt_two_pow ha hb, Nat.xor_lt_two_pow ha hb⟩
theorem am_nlt {z : Int} (hz : inI z) (h : 0 ≤ z) : z.toNat < 2 ^ 31 := by have := hz.2; omega
theorem am_lti {n : Nat} (h : n < 2 ^ 31) : inI (n : Int) := by constructor <;> omega
theorem am_nbv (n : Nat) : (nI n).toBitVec = BitVec.ofNat 32 n := rfl
theorem am_and {z y : Int} (h0 : 0 ≤ z) (h1 : 0 ≤ y) : Int32.ofInt z &&& Int32.ofInt y = Int32.ofInt ((z.toNat &&& y.toNat : Nat) : Int) := by
  rw [am_nn h0, am_nn h1, am_nat]
  apply Int32.toBitVec_inj.mp
  rw [Int32.toBitVec_and, am_nbv, am_nbv, am_nbv, BitVec.ofNat_and]
theorem am_or {z y : Int} (h0 : 0 ≤ z) (h1 : 0 ≤ y) : Int32.ofInt z ||| Int32.ofInt y = Int32.ofInt ((z.toNat ||| y.toNat : Nat) : Int) := by
  rw [am_nn h0, am_nn h1, am_nat]
  apply Int32.toBitVec_inj.mp
  rw [Int32.toBitVec_or, am_nbv, am_nbv, am_nbv, BitVec.ofNat_or]
theorem am_xor {z y : Int} (h0 : 0 ≤ z) (h1 : 0 ≤ y) : Int32.ofInt z ^^^ Int32.ofInt y = Int32.ofInt ((z.toNat ^^^ y.toNat : Nat) : Int) := by
  rw [am_nn h0, am_nn h1, am_nat]
  apply Int32.toBitVec_inj.mp
  rw [Int32.toBitVec_xor, am_nbv, am_nbv, am_nbv, BitVec.ofNat_xor]
theorem am_mask (z : Int) : Int32.ofInt z &&& Int32.ofInt 2147483647 = Int32.ofInt (z % 2147483648) := by
  rw [pk_and (Int32.ofInt z) (m := Int32.ofInt 2147483647) 31 (by decide +kernel), am_nn (z := z % 2147483648) (by omega)]
  congr 1
  show (BitVec.ofInt 32 z).toNat % 2 ^ 31 = _
  rw [BitVec.toNat_ofInt]
  omega
theorem am_sh (m : Nat) (h : m < 31) : ((nI m &&& 31).toBitVec.smod 32).toNat = m ∧ (((nI m).toUInt32 &&& Int32.toUInt32 31).toBitVec % 32).toNat = m := by
  have : ∀ m : Fin 31, ((nI m.val &&& 31).toBitVec.smod 32).toNat = m.val ∧ (((nI m.val).toUInt32 &&& Int32.toUInt32 31).toBitVec % 32).toNat = m.val := by decide +kernel
  exact this ⟨m, h⟩
theorem am_shl {z y : Int} (h0 : 0 ≤ z) (h1 : 0 ≤ y) (h2 : y < 31) (hr : inI (z * 2 ^ y.toNat)) : Int32.ofInt z <<< (Int32.ofInt y &&& 31) = Int32.ofInt (z * 2 ^ y.toNat) := by
  have hp : 0 ≤ z * 2 ^ y.toNat := Int.mul_nonneg h0 (Int.pow_nonneg (by decide))
  have e : (z * 2 ^ y.toNat).toNat = z.toNat * 2 ^ y.toNat := by
    rw [Int.toNat_mul h0 (Int.pow_nonneg (by decide))]
    congr 1
  rw [am_nn h0, am_nn h1, am_nn hp, e]
  exact pk_shlN _ y.toNat (am_sh y.toNat (by omega)).1 (by rw [← e]; have := hr.2; omega)
theorem am_dn {z : Int} (h0 : 0 ≤ z) (k : Nat) : (z / 2 ^ k).toNat = z.toNat / 2 ^ k := by
  obtain ⟨n, rfl⟩ := Int.eq_ofNat_of_zero_le h0
  rw [show ((2 : Int) ^ k) = ((2 ^ k : Nat) : Int) from by simp, ← Int.natCast_ediv, Int.toNat_natCast, Int.toNat_natCast]
theorem am_shr {z y : Int} (hz : inI z) (h0 : 0 ≤ z) (h1 : 0 ≤ y) (h2 : y < 31) : Int32.ofInt z >>> (Int32.ofInt y &&& 31) = Int32.ofInt (z / 2 ^ y.toNat) := by
  have hp : 0 ≤ z / 2 ^ y.toNat := Int.ediv_nonneg h0 (Int.pow_nonneg (by decide))
  have e : (z / 2 ^ y.toNat).toNat = z.toNat / 2 ^ y.toNat := am_dn h0 _
  rw [am_nn h0, am_nn h1, am_nn hp, e]
  exact pk_shrN (am_nlt hz h0) _ y.toNat (am_sh y.toNat (by omega)).1
theorem am_ushr {z y : Int} (hz : inI z) (h0 : 0 ≤ z) (h1 : 0 ≤ y) (h2 : y < 31) : ((Int32.ofInt z).toUInt32 >>> ((Int32.ofInt y).toUInt32 &&& Int32.toUInt32 31)).toInt32 = Int32.ofInt (z / 2 ^ y.toNat) := by
  have hp : 0 ≤ z / 2 ^ y.toNat := Int.ediv_nonneg h0 (Int.pow_nonneg (by decide))
  have e : (z / 2 ^ y.toNat).toNat = z.toNat / 2 ^ y.toNat := am_dn h0 _
  rw [am_nn h0, am_nn h1, am_nn hp, e]
  exact pk_ushrN (Nat.lt_trans (am_nlt hz h0) (by decide)) _ y.toNat (am_sh y.toNat (by omega)).2
theorem am_shrI {z y : Int} (hz : inI z) (h0 : 0 ≤ z) : inI (z / 2 ^ y.toNat) := am_divI hz h0 (Int.pow_pos (by decide))
theorem am_Add (z y : Int) : Int64.ofInt z + Int64.ofInt y = Int64.ofInt (z + y) := (Int64.ofInt_add z y).symm
theorem am_Sub (z y : Int) : Int64.ofInt z - Int64.ofInt y = Int64.ofInt (z - y) := (Int64.ofInt_sub z y).symm
theorem am_Mul (z y : Int) : Int64.ofInt z * Int64.ofInt y = Int64.ofInt (z * y) := (Int64.ofInt_mul z y).symm
theorem am_Lt {z y : Int} (hz : inL z) (hy : inL y) : Int64.ofInt z < Int64.ofInt y ↔ z < y := by
  rw [Int64.lt_iff_toInt_lt, am_T hz, am_T hy]
theorem am_Eq {z y : Int} (hz : inL z) (hy : inL y) : Int64.ofInt z = Int64.ofInt y ↔ z = y := by
  rw [← Int64.toInt_inj, am_T hz, am_T hy]
theorem am_DivI {z y : Int} (hz : inL z) (h0 : 0 ≤ z) (h1 : 0 < y) : inL (z / y) := by
  have a := Int.ediv_nonneg h0 (Int.le_of_lt h1)
  have b := Int.ediv_le_self y h0
  have := hz.2
  constructor <;> omega
theorem am_ModI {z y : Int} (hy : inL y) (h1 : 0 < y) : inL (z % y) := by
  have a := Int.emod_nonneg z (show y ≠ 0 by omega)
  have b := Int.emod_lt_of_pos z h1
  have := hy.2
  constructor <;> omega
theorem am_Div {z y : Int} (hz : inL z) (hy : inL y) (h0 : 0 ≤ z) (h1 : 0 < y) : Int64.ofInt z / Int64.ofInt y = Int64.ofInt (z / y) := by
  apply Int64.toInt_inj.mp
  have hq := am_DivI hz h0 h1
  rw [Int64.toInt_div, am_T hz, am_T hy, am_T hq, Int.tdiv_eq_ediv_of_nonneg h0]
  exact Int.bmod_eq_of_le (by have := hq.1; omega) (by have := hq.2; omega)
theorem am_Ne0 {y : Int} (hy : inL y) (h1 : 0 < y) : ¬ Int64.ofInt y = 0 := fun h => by
  have := (am_Eq hy (⟨by decide, by decide⟩ : inL 0)).mp h
  omega
theorem am_Rem {z y : Int} (hz : inL z) (hy : inL y) (h0 : 0 ≤ z) (h1 : 0 < y) : Int64.ofInt z - Int64.ofInt z / Int64.ofInt y * Int64.ofInt y = Int64.ofInt (z % y) := by
  rw [am_Div hz hy h0 h1, am_Mul, am_Sub]
  congr 1
  have := Int.emod_def z y
  rw [this, Int.mul_comm y]
theorem am_cmp {z y : Int} (hz : inL z) (hy : inL y) : lg_cmp (Int64.ofInt z) (Int64.ofInt y) = Int32.ofInt (lcz z y) := by
  unfold lg_cmp lcz
  simp only [am_Lt hz hy, am_Lt hy hz, am_Eq hz hy]
  by_cases h1 : z < y
  · have : ¬ y < z := by omega
    have h3 : ¬ z = y := by omega
    simp [h1, this, h3]
  · by_cases h2 : z = y
    · subst h2; simp
    · have : y < z := by omega
      simp [h1, this, h2]
theorem am_lczI (z y : Int) : inI (lcz z y) := by
  unfold lcz inI
  split
  · decide
  · split <;> decide
theorem am_il {z : Int} (h : inI z) : (Int32.ofInt z).toInt64 = Int64.ofInt z := by
  apply Int64.toInt_inj.mp
  have : inL z := ⟨by have := h.1; omega, by have := h.2; omega⟩
  rw [Int32.toInt_toInt64, am_t h, am_T this]
theorem am_li {z : Int} : (Int64.ofInt z).toInt32 = Int32.ofInt z := by
  apply Int32.toInt_inj.mp
  rw [Int64.toInt_toInt32, Int64.toInt_ofInt, Int32.toInt_ofInt]
  exact Int.bmod_bmod_of_dvd (by decide)
theorem am_i2c {z : Int} (h0 : 0 ≤ z) (h1 : z < 65536) : ((Int32.ofInt z).toUInt32 % 65536).toInt32 = Int32.ofInt z := by
  rw [pk_char, am_nn h0]
  congr 1
  rw [am_nbv, BitVec.toNat_ofNat]
  omega
theorem am_Lsh (m : Nat) (h : m < 63) : ((nI m).toInt64 &&& 63).toBitVec.smod 64 = BitVec.ofNat 64 m := by
  have : ∀ m : Fin 63, ((nI m.val).toInt64 &&& 63).toBitVec.smod 64 = BitVec.ofNat 64 m.val := by decide +kernel
  exact this ⟨m, h⟩
theorem am_Nat (n : Nat) : Int64.ofInt (n : Int) = lN n := by
  show Int64.ofInt (n : Int) = Int64.ofNat n
  exact Int64.ofInt_eq_ofNat
theorem am_Nn {z : Int} (h : 0 ≤ z) : Int64.ofInt z = lN z.toNat := by
  conv => lhs; rw [← Int.toNat_of_nonneg h]
  exact am_Nat _
theorem am_Shl {z y : Int} (h0 : 0 ≤ z) (h1 : 0 ≤ y) (h2 : y < 63) (hz : inL z) (hr : inL (z * 2 ^ y.toNat)) : Int64.ofInt z <<< ((Int32.ofInt y).toInt64 &&& 63) = Int64.ofInt (z * 2 ^ y.toNat) := by
  have hp : 0 ≤ z * 2 ^ y.toNat := Int.mul_nonneg h0 (Int.pow_nonneg (by decide))
  have e : (z * 2 ^ y.toNat).toNat = z.toNat * 2 ^ y.toNat := by
    rw [Int.toNat_mul h0 (Int.pow_nonneg (by decide))]
    congr 1
  rw [am_Nn h0, am_nn h1, am_Nn hp, e]
  apply Int64.toBitVec_inj.mp
  rw [Int64.toBitVec_shiftLeft, am_Lsh y.toNat (by omega)]
  apply BitVec.eq_of_toNat_eq
  rw [BitVec.shiftLeft_eq', BitVec.toNat_shiftLeft, BitVec.toNat_ofNat, Nat.mod_eq_of_lt (show y.toNat < 2 ^ 64 by omega)]
  show (z.toNat % 2 ^ 64) <<< y.toNat % 2 ^ 64 = (z.toNat * 2 ^ y.toNat) % 2 ^ 64
  rw [Nat.shiftLeft_eq, Nat.mod_mul_mod]
theorem am_byte (b : Int) (h : 0 ≤ b) (h1 : b < 128) : narrow .byte (.int (Int32.ofInt b)) = .int (Int32.ofInt b) := by
  have : ∀ m : Fin 128, narrow .byte (.int (nI m.val)) = .int (nI m.val) := by decide +kernel
  rw [am_nn h]
  exact this ⟨b.toNat, by omega⟩
theorem am_bool {z : Int} (h : z = 0 ∨ z = 1) : narrow .boolean (.int (Int32.ofInt z)) = .int (Int32.ofInt z) := by
  rcases h with rfl | rfl <;> rfl
theorem am_char {z : Int} (h0 : 0 ≤ z) (h1 : z < 65536) : narrow .char (.int (Int32.ofInt z)) = .int (Int32.ofInt z) := by
  rw [am_nn h0]
  exact (pk_charN (by omega)).1
end
section
/-! ===== the abstract cells as cells of the machine ===== -/
def cv (ad : Nat → Nat) : AV → Value
  | .inl z => .int (Int32.ofInt z)
  | .inr (.inl z) => .long (Int64.ofInt z)
  | .inr (.inr none) => .null
  | .inr (.inr (some k)) => .ref (ad k)
def vOK : AV → Prop
  | .inl z => inI z
  | .inr (.inl z) => inL z
  | .inr (.inr _) => True
def hOK (h : AH) : Prop := (∀ k j, inI (h.1 k j)) ∧ ∀ k j, inL (h.2.1 k j)
theorem hOK.upI {h : AH} (hh : hOK h) {z : Int} (hz : inI z) (k : Nat) (j : Int) : hOK (upI h k j z) := by
  refine ⟨fun k' j' => ?_, hh.2⟩
  show inI (if k' = k ∧ j' = j then z else h.1 k' j')
  split
  · exact hz
  · exact hh.1 _ _
theorem hOK.upL {h : AH} (hh : hOK h) {z : Int} (hz : inL z) (k : Nat) (j : Int) : hOK (upL h k j z) := by
  refine ⟨hh.1, fun k' j' => ?_⟩
  show inL (if k' = k ∧ j' = j then z else h.2.1 k' j')
  split
  · exact hz
  · exact hh.2 _ _
theorem hOK.upR {h : AH} (hh : hOK h) (k : Nat) (j : Int) (r : Option Nat) : hOK (upR h k j r) := hh
theorem hOK.cpI {h : AH} (hh : hOK h) (a : Nat) (sp : Int) (b : Nat) (dp n : Int) : hOK (cpI h a sp b dp n) := by
  refine ⟨fun k' j' => ?_, hh.2⟩
  show inI (if k' = b ∧ dp ≤ j' ∧ j' < dp + n then h.1 a (sp + (j' - dp)) else h.1 k' j')
  split <;> exact hh.1 _ _
/-- the fields: 0 a number, 1 a final reference to the cell so far behind, 2 a reference that changes -/
def fdT : List (List (Nat × Nat)) := [
  [(0, 0), (1, 1), (1, 2), (0, 0), (1, 3), (1, 4), (1, 5), (1, 6), (0, 0), (0, 0), (0, 0), (0, 0), (0, 0), (1, 7)],
  [(1, 1)],
  [(1, 1), (0, 0)],
  [(1, 1), (1, 2), (1, 3), (0, 0)],
  [(1, 1), (1, 2)],
  [(1, 1), (1, 9), (1, 17), (0, 0), (1, 25), (1, 27), (1, 31), (0, 0), (1, 32), (1, 33), (1, 35)],
  [(0, 0), (0, 0), (0, 0), (0, 0), (0, 0), (0, 0), (1, 1), (1, 2), (1, 3), (1, 4), (1, 5), (1, 6), (0, 0), (1, 7), (1, 8), (1, 9), (0, 0), (0, 0), (0, 0), (2, 0), (1, 10), (0, 0), (0, 0), (0, 0), (0, 0), (1, 11), (1, 12), (1, 13), (1, 14), (1, 15), (1, 16), (0, 0), (1, 17), (1, 18), (1, 19), (1, 20), (1, 21), (1, 22), (1, 23), (0, 0), (1, 24), (1, 25), (1, 26), (0, 0), (0, 0)]]
def fdK (c j : Nat) : Nat × Nat := (fdT.getD c []).getD j (9, 0)
def cN (c : Nat) : Nat := (fdT.getD c []).length
def fv (ad : Nat → Nat) (h : AH) (k c j : Nat) : Value := match fdK c j with
  | (0, _) => .int (Int32.ofInt (h.1 k (j : Int)))
  | (1, o) => .ref (ad (k + o))
  | _ => cv ad (.inr (.inr (h.2.2 k (j : Int))))
def cellE (ad : Nat → Nat) (G : ClassId × (ClassId × ClassId)) (h : AH) (k : Nat) : va_E := match (shA k).1 with
  | 10 => .inl (G.1, (shA k).2, .inl (fun j => Int32.ofInt (h.1 k (j : Int))))
  | 11 => .inl (G.2.1, (shA k).2, .inr (.inl (fun j => Int64.ofInt (h.2.1 k (j : Int)))))
  | 12 => .inl (G.2.2, (shA k).2, .inl (fun j => Int32.ofInt (h.1 k (j : Int))))
  | c => .inr (c, (List.range (cN c)).map (fun j => fv ad h k c j))
def wl (ad : Nat → Nat) (G : ClassId × (ClassId × ClassId)) (h : AH) : va_W := (List.range 65).map (fun k => (ad k, cellE ad G h k))
theorem wl_get {ad : Nat → Nat} {G : ClassId × (ClassId × ClassId)} {h : AH} {k : Nat} (hk : k < 65) : (wl ad G h)[k]? = some (ad k, cellE ad G h k) := by
  unfold wl
  rw [List.getElem?_map, List.getElem?_range hk]
  rfl
theorem map_set {α : Type} {n j : Nat} {f f' : Nat → α} (hf : ∀ i, i ≠ j → f' i = f i) : ((List.range n).map f).set j (f' j) = (List.range n).map f' := by
  apply List.ext_getElem?
  intro i
  rw [List.getElem?_set, List.getElem?_map, List.getElem?_map]
  by_cases hij : j = i
  · subst hij
    simp only [List.length_map, List.length_range, if_true]
    by_cases hn : j < n
    · rw [List.getElem?_range hn]; simp [hn]
    · rw [List.getElem?_eq_none (by simp; omega)]; simp [hn]
  · rw [if_neg hij]
    by_cases hn : i < n
    · rw [List.getElem?_range hn]; simp [hf i (Ne.symm hij)]
    · rw [List.getElem?_eq_none (by simp; omega)]; rfl
theorem wl_set {ad : Nat → Nat} {G : ClassId × (ClassId × ClassId)} {h h' : AH} {k : Nat} (hf : ∀ i, i ≠ k → cellE ad G h' i = cellE ad G h i) : (wl ad G h).set k (ad k, cellE ad G h' k) = wl ad G h' :=
  map_set (f := fun k => (ad k, cellE ad G h k)) (f' := fun k => (ad k, cellE ad G h' k)) (fun i hi => by rw [hf i hi])
theorem fv_congr {ad : Nat → Nat} {h h' : AH} {k c j : Nat} (h1 : h'.1 k (j : Int) = h.1 k (j : Int)) (h3 : h'.2.2 k (j : Int) = h.2.2 k (j : Int)) : fv ad h' k c j = fv ad h k c j := by
  unfold fv
  rw [h1, h3]
theorem cellE_congr {ad : Nat → Nat} {G : ClassId × (ClassId × ClassId)} {h h' : AH} {k : Nat} (h1 : h'.1 k = h.1 k) (h2 : h'.2.1 k = h.2.1 k) (h3 : h'.2.2 k = h.2.2 k) : cellE ad G h' k = cellE ad G h k := by
  unfold cellE
  simp only [h1, h2, fv, h3]
theorem shA_lt {k c : Nat} (h : (shA k).1 = c) (hc : c < 13) : k < 65 := by
  unfold shA at h
  by_cases h1 : k < 100
  · rw [if_pos h1] at h
    by_cases h2 : k < 65
    · exact h2
    · rw [List.getElem?_eq_none (show shT.length ≤ k from by show 65 ≤ k; omega)] at h
      simp at h
      omega
  · rw [if_neg h1] at h
    by_cases h2 : 200 ≤ k ∧ k < 206
    · rw [if_pos h2] at h; simp at h; omega
    · rw [if_neg h2] at h
      by_cases h3 : 220 ≤ k ∧ k < 226
      · rw [if_pos h3] at h; simp at h; omega
      · rw [if_neg h3] at h
        by_cases h4 : k = 300
        · rw [if_pos h4] at h; simp at h; omega
        · rw [if_neg h4] at h; simp at h; omega
theorem cell10 {ad : Nat → Nat} {G : ClassId × (ClassId × ClassId)} {h : AH} {k : Nat} (hs : (shA k).1 = 10) : cellE ad G h k = .inl (G.1, (shA k).2, .inl (fun j => Int32.ofInt (h.1 k (j : Int)))) := by
  unfold cellE; rw [hs]; rfl
theorem cell11 {ad : Nat → Nat} {G : ClassId × (ClassId × ClassId)} {h : AH} {k : Nat} (hs : (shA k).1 = 11) : cellE ad G h k = .inl (G.2.1, (shA k).2, .inr (.inl (fun j => Int64.ofInt (h.2.1 k (j : Int))))) := by
  unfold cellE; rw [hs]; rfl
theorem cell12 {ad : Nat → Nat} {G : ClassId × (ClassId × ClassId)} {h : AH} {k : Nat} (hs : (shA k).1 = 12) : cellE ad G h k = .inl (G.2.2, (shA k).2, .inl (fun j => Int32.ofInt (h.1 k (j : Int)))) := by
  unfold cellE; rw [hs]; rfl
theorem cellO {ad : Nat → Nat} {G : ClassId × (ClassId × ClassId)} {h : AH} {k c : Nat} (hs : (shA k).1 = c) (hc : c < 7) : cellE ad G h k = .inr (c, (List.range (cN c)).map (fun j => fv ad h k c j)) := by
  unfold cellE; rw [hs]
  split
  · omega
  · omega
  · omega
  · rfl
theorem fld_get {ad : Nat → Nat} {h : AH} {k c j : Nat} (hj : j < cN c) : ((List.range (cN c)).map (fun j => fv ad h k c j))[j]? = some (fv ad h k c j) := by
  rw [List.getElem?_map, List.getElem?_range hj]; rfl
theorem upI_ne {h : AH} {k i : Nat} {j z : Int} (hi : i ≠ k) : (upI h k j z).1 i = h.1 i := by
  funext j'
  show (if i = k ∧ j' = j then z else h.1 i j') = _
  rw [if_neg (fun q => hi q.1)]
theorem upI_nej {h : AH} {k : Nat} {j j' z : Int} (hi : j' ≠ j) : (upI h k j z).1 k j' = h.1 k j' := by
  show (if k = k ∧ j' = j then z else h.1 k j') = _
  rw [if_neg (fun q => hi q.2)]
theorem upI_at {h : AH} {k : Nat} {j z : Int} : (upI h k j z).1 k j = z := by
  show (if k = k ∧ j = j then z else h.1 k j) = _
  rw [if_pos ⟨rfl, rfl⟩]
theorem wl_upI {ad : Nat → Nat} {G : ClassId × (ClassId × ClassId)} {h : AH} {k c j : Nat} {z : Int} (hs : (shA k).1 = c) (hc : c < 7) (hj : (fdK c j).1 = 0) : (wl ad G h).set k (ad k, .inr (c, ((List.range (cN c)).map (fun j => fv ad h k c j)).set j (.int (Int32.ofInt z)))) = wl ad G (upI h k (j : Int) z) := by
  rw [← wl_set (h := h) (h' := upI h k (j : Int) z) (k := k) (fun i hi => cellE_congr (upI_ne hi) rfl rfl), cellO hs hc]
  congr 3
  have e : fv ad (upI h k (j : Int) z) k c j = .int (Int32.ofInt z) := by
    unfold fv
    split
    · rw [upI_at]
    · next o ho => rw [ho] at hj; simp at hj
    · next h0 h1 => 
      exfalso
      exact h0 (fdK c j).2 (by rw [← hj])
  congr 1
  rw [← e]
  exact map_set (j := j) (f := fun i => fv ad h k c i) (f' := fun i => fv ad (upI h k (j : Int) z) k c i) (fun i hi => fv_congr (upI_nej (j := (j : Int)) (j' := (i : Int)) (by omega)) rfl)
theorem upR_ne {h : AH} {k i : Nat} {j : Int} {r : Option Nat} (hi : i ≠ k) : (upR h k j r).2.2 i = h.2.2 i := by
  funext j'
  show (if i = k ∧ j' = j then r else h.2.2 i j') = _
  rw [if_neg (fun q => hi q.1)]
theorem upR_nej {h : AH} {k : Nat} {j j' : Int} {r : Option Nat} (hi : j' ≠ j) : (upR h k j r).2.2 k j' = h.2.2 k j' := by
  show (if k = k ∧ j' = j then r else h.2.2 k j') = _
  rw [if_neg (fun q => hi q.2)]
theorem upR_at {h : AH} {k : Nat} {j : Int} {r : Option Nat} : (upR h k j r).2.2 k j = r := by
  show (if k = k ∧ j = j then r else h.2.2 k j) = _
  rw [if_pos ⟨rfl, rfl⟩]
theorem upL_ne {h : AH} {k i : Nat} {j z : Int} (hi : i ≠ k) : (upL h k j z).2.1 i = h.2.1 i := by
  funext j'
  show (if i = k ∧ j' = j then z else h.2.1 i j') = _
  rw [if_neg (fun q => hi q.1)]
theorem upL_nej {h : AH} {k : Nat} {j j' z : Int} (hi : j' ≠ j) : (upL h k j z).2.1 k j' = h.2.1 k j' := by
  show (if k = k ∧ j' = j then z else h.2.1 k j') = _
  rw [if_neg (fun q => hi q.2)]
theorem upL_at {h : AH} {k : Nat} {j z : Int} : (upL h k j z).2.1 k j = z := by
  show (if k = k ∧ j = j then z else h.2.1 k j) = _
  rw [if_pos ⟨rfl, rfl⟩]
theorem wl_upR {ad : Nat → Nat} {G : ClassId × (ClassId × ClassId)} {h : AH} {k c j : Nat} {r : Option Nat} (hs : (shA k).1 = c) (hc : c < 7) (hj : (fdK c j).1 = 2) : (wl ad G h).set k (ad k, .inr (c, ((List.range (cN c)).map (fun j => fv ad h k c j)).set j (cv ad (.inr (.inr r))))) = wl ad G (upR h k (j : Int) r) := by
  rw [← wl_set (h := h) (h' := upR h k (j : Int) r) (k := k) (fun i hi => cellE_congr rfl rfl (upR_ne hi)), cellO hs hc]
  congr 3
  have e : fv ad (upR h k (j : Int) r) k c j = cv ad (.inr (.inr r)) := by
    unfold fv
    split
    · next o ho => rw [ho] at hj; simp at hj
    · next o ho => rw [ho] at hj; simp at hj
    · rw [upR_at]
  rw [← e]
  congr 1
  exact map_set (j := j) (f := fun i => fv ad h k c i) (f' := fun i => fv ad (upR h k (j : Int) r) k c i) (fun i hi => fv_congr rfl (upR_nej (j := (j : Int)) (j' := (i : Int)) (by omega)))
theorem tn_clamp {i : Int} (hi : inI i) : (Int32.ofInt i).toNatClampNeg = i.toNat := by
  rw [Int32.toNatClampNeg, am_t hi]
theorem upd_eq {f : Nat → Int → Int} {k : Nat} {i z : Int} (h0 : 0 ≤ i) (hi : inI i) : upd (fun j => Int32.ofInt (f k (j : Int))) (Int32.ofInt i).toNatClampNeg (Int32.ofInt z) = fun j : Nat => Int32.ofInt (if k = k ∧ (j : Int) = i then z else f k (j : Int)) := by
  funext j
  rw [tn_clamp hi]
  by_cases hj : j = i.toNat
  · rw [hj, pk_us, if_pos ⟨rfl, by omega⟩]
  · rw [pk_un hj, if_neg (fun q => hj (by omega))]
theorem updL_eq {f : Nat → Int → Int} {k : Nat} {i z : Int} (h0 : 0 ≤ i) (hi : inI i) : vp_updL (fun j => Int64.ofInt (f k (j : Int))) (Int32.ofInt i).toNatClampNeg (Int64.ofInt z) = fun j : Nat => Int64.ofInt (if k = k ∧ (j : Int) = i then z else f k (j : Int)) := by
  funext j
  rw [tn_clamp hi]
  by_cases hj : j = i.toNat
  · rw [hj, pk_uLs, if_pos ⟨rfl, by omega⟩]
  · rw [pk_uLn hj, if_neg (fun q => hj (by omega))]
theorem wl_ai {ad : Nat → Nat} {G : ClassId × (ClassId × ClassId)} {h : AH} {k : Nat} {i z : Int} (hs : (shA k).1 = 10) (h0 : 0 ≤ i) (hi : inI i) : (wl ad G h).set k (ad k, .inl (G.1, (shA k).2, .inl (upd (fun j => Int32.ofInt (h.1 k (j : Int))) (Int32.ofInt i).toNatClampNeg (Int32.ofInt z)))) = wl ad G (upI h k i z) := by
  rw [← wl_set (h := h) (h' := upI h k i z) (k := k) (fun i hi => cellE_congr (upI_ne hi) rfl rfl), cell10 hs, upd_eq (f := h.1) h0 hi]
  rfl
theorem wl_az {ad : Nat → Nat} {G : ClassId × (ClassId × ClassId)} {h : AH} {k : Nat} {i z : Int} (hs : (shA k).1 = 12) (h0 : 0 ≤ i) (hi : inI i) : (wl ad G h).set k (ad k, .inl (G.2.2, (shA k).2, .inl (upd (fun j => Int32.ofInt (h.1 k (j : Int))) (Int32.ofInt i).toNatClampNeg (Int32.ofInt z)))) = wl ad G (upI h k i z) := by
  rw [← wl_set (h := h) (h' := upI h k i z) (k := k) (fun i hi => cellE_congr (upI_ne hi) rfl rfl), cell12 hs, upd_eq (f := h.1) h0 hi]
  rfl
theorem wl_al {ad : Nat → Nat} {G : ClassId × (ClassId × ClassId)} {h : AH} {k : Nat} {i z : Int} (hs : (shA k).1 = 11) (h0 : 0 ≤ i) (hi : inI i) : (wl ad G h).set k (ad k, .inl (G.2.1, (shA k).2, .inr (.inl (vp_updL (fun j => Int64.ofInt (h.2.1 k (j : Int))) (Int32.ofInt i).toNatClampNeg (Int64.ofInt z))))) = wl ad G (upL h k i z) := by
  rw [← wl_set (h := h) (h' := upL h k i z) (k := k) (fun i hi => cellE_congr rfl (upL_ne hi) rfl), cell11 hs, updL_eq (f := h.2.1) h0 hi]
  rfl
theorem wl_cp {ad : Nat → Nat} {G : ClassId × (ClassId × ClassId)} {h : AH} {a b : Nat} {sp dp n : Int} (hs : (shA b).1 = 10) (h1 : 0 ≤ sp) (h2 : 0 ≤ dp) (h3 : 0 ≤ n) : (wl ad G h).set b (ad b, .inl (G.1, (shA b).2, .inl (va_cpy (fun j => Int32.ofInt (h.1 a (j : Int))) (fun j => Int32.ofInt (h.1 b (j : Int))) sp.toNat dp.toNat n.toNat))) = wl ad G (cpI h a sp b dp n) := by
  have hne : ∀ i, i ≠ b → (cpI h a sp b dp n).1 i = h.1 i := fun i hi => by
    funext j'
    show (if i = b ∧ dp ≤ j' ∧ j' < dp + n then h.1 a (sp + (j' - dp)) else h.1 i j') = _
    rw [if_neg (fun q => hi q.1)]
  rw [← wl_set (h := h) (h' := cpI h a sp b dp n) (k := b) (fun i hi => cellE_congr (hne i hi) rfl rfl), cell10 hs]
  have e : va_cpy (fun j => Int32.ofInt (h.1 a (j : Int))) (fun j => Int32.ofInt (h.1 b (j : Int))) sp.toNat dp.toNat n.toNat = fun j : Nat => Int32.ofInt ((cpI h a sp b dp n).1 b (j : Int)) := by
    funext j
    show (if dp.toNat ≤ j ∧ j < dp.toNat + n.toNat then Int32.ofInt (h.1 a ((sp.toNat + (j - dp.toNat) : Nat) : Int)) else Int32.ofInt (h.1 b (j : Int))) = Int32.ofInt (if b = b ∧ dp ≤ (j : Int) ∧ (j : Int) < dp + n then h.1 a (sp + ((j : Int) - dp)) else h.1 b (j : Int))
    by_cases hj : dp.toNat ≤ j ∧ j < dp.toNat + n.toNat
    · rw [if_pos hj, if_pos ⟨rfl, by omega, by omega⟩, show ((sp.toNat + (j - dp.toNat) : Nat) : Int) = sp + ((j : Int) - dp) from by omega]
    · rw [if_neg hj, if_neg (fun q => hj (by omega))]
  rw [e]
theorem vp_inO {i : Int} {n : Nat} (hi : inI i) (h0 : 0 ≤ i) (h1 : i < (n : Int)) : vp_in (Int32.ofInt i) n := vp_in_iff.mpr ⟨by rw [am_t hi]; exact h0, by rw [am_t hi]; exact h1⟩
theorem rd_eq {f : Nat → Int → Int} {k : Nat} {i : Int} (h0 : 0 ≤ i) (hi : inI i) : f k (((Int32.ofInt i).toNatClampNeg : Nat) : Int) = f k i := by
  rw [tn_clamp hi, Int.toNat_of_nonneg h0]
/-! locals -/
def LH (ad : Nat → Nat) (ls : Array Slot) (nL : Nat) (L : LL) : Prop := ls.size = nL ∧ lv_wf ls ∧ ∀ (i : Nat) (v : AV), L[i]? = some (some v) → ls[i]? = some (.val (cv ad v))
def lvOf (ad : Nat → Nat) (L : LL) : List (Nat × Value) := (List.range L.length).filterMap (fun i => match L[i]? with
  | some (some v) => some (i, cv ad v)
  | _ => none)
theorem lvOf_mem {ad : Nat → Nat} {L : LL} {i : Nat} {v : AV} (h : L[i]? = some (some v)) : (i, cv ad v) ∈ lvOf ad L :=
  List.mem_filterMap.mpr ⟨i, List.mem_range.mpr (List.getElem?_eq_some_iff.mp h).1, by simp only [h]⟩
theorem LH.has {ad : Nat → Nat} {ls : Array Slot} {nL : Nat} {L : LL} (h : LH ad ls nL L) : lv_has ls nL (lvOf ad L) := by
  refine ⟨h.1, h.2.1, fun q hq => ?_⟩
  obtain ⟨i, hi, h1⟩ := List.mem_filterMap.mp hq
  revert h1
  split
  · next v hv => intro h1; cases h1; exact h.2.2 i v hv
  · intro h1; cases h1
theorem cat_cv {ad : Nat → Nat} (v : AV) : (cv ad v).category = catA v := by
  match v with
  | .inl z => rfl
  | .inr (.inl z) => rfl
  | .inr (.inr none) => rfl
  | .inr (.inr (some k)) => rfl
theorem setL_get : ∀ (L : LL) (n : Nat) (v : AV) (i : Nat) (w : AV), (setL L n v)[i]? = some (some w) → (i = n ∧ w = v) ∨ (i ≠ n ∧ L[i]? = some (some w) ∧ (i + 1 = n → catA w = 1))
  | [], n, v, i, w, h => by simp [setL] at h
  | x :: L, 0, v, i, w, h => by
    cases i with
    | zero => simp [setL] at h; exact Or.inl ⟨rfl, h.symm⟩
    | succ i => simp [setL] at h; exact Or.inr ⟨by omega, by simpa using h, fun q => by omega⟩
  | x :: L, 1, v, i, w, h => by
    cases i with
    | zero =>
      simp only [setL, List.getElem?_cons_zero, Option.some.injEq] at h
      split at h
      · cases h
      · next hn =>
        subst h
        refine Or.inr ⟨by omega, rfl, fun _ => ?_⟩
        match w with
        | .inl z => rfl
        | .inr (.inl z) => simp [isLg] at hn
        | .inr (.inr r) => rfl
    | succ i =>
      simp only [setL, List.getElem?_cons_succ] at h
      rcases setL_get L 0 v i w h with ⟨a, b⟩ | ⟨a, b, c⟩
      · exact Or.inl ⟨by omega, b⟩
      · exact Or.inr ⟨by omega, by simpa using b, fun q => by omega⟩
  | x :: L, n + 2, v, i, w, h => by
    cases i with
    | zero =>
      simp only [setL, List.getElem?_cons_zero] at h
      exact Or.inr ⟨by omega, by simpa using h, fun q => by omega⟩
    | succ i =>
      simp only [setL, List.getElem?_cons_succ] at h
      rcases setL_get L (n + 1) v i w h with ⟨a, b⟩ | ⟨a, b, c⟩
      · exact Or.inl ⟨by omega, b⟩
      · exact Or.inr ⟨by omega, by simpa using b, fun q => c (by omega)⟩
theorem setL2_get : ∀ (L : LL) (n : Nat) (v : AV) (i : Nat) (w : AV), (setL2 L n v)[i]? = some (some w) → (i = n ∧ w = v) ∨ (i ≠ n ∧ i ≠ n + 1 ∧ L[i]? = some (some w) ∧ (i + 1 = n → catA w = 1))
  | [], n, v, i, w, h => by simp [setL2] at h
  | [x], 0, v, i, w, h => by
    cases i with
    | zero => simp [setL2] at h; exact Or.inl ⟨rfl, h.symm⟩
    | succ i => simp [setL2] at h
  | x :: y :: L, 0, v, i, w, h => by
    match i with
    | 0 => simp [setL2] at h; exact Or.inl ⟨rfl, h.symm⟩
    | 1 => simp [setL2] at h
    | i + 2 => simp [setL2] at h; exact Or.inr ⟨by omega, by omega, by simpa using h, fun q => by omega⟩
  | x :: L, 1, v, i, w, h => by
    cases i with
    | zero =>
      simp only [setL2, List.getElem?_cons_zero, Option.some.injEq] at h
      split at h
      · cases h
      · next hn =>
        subst h
        refine Or.inr ⟨by omega, by omega, rfl, fun _ => ?_⟩
        match w with
        | .inl z => rfl
        | .inr (.inl z) => simp [isLg] at hn
        | .inr (.inr r) => rfl
    | succ i =>
      simp only [setL2, List.getElem?_cons_succ] at h
      rcases setL2_get L 0 v i w h with ⟨a, b⟩ | ⟨a, a2, b, c⟩
      · exact Or.inl ⟨by omega, b⟩
      · exact Or.inr ⟨by omega, by omega, by simpa using b, fun q => by omega⟩
  | x :: L, n + 2, v, i, w, h => by
    cases i with
    | zero =>
      simp only [setL2, List.getElem?_cons_zero] at h
      exact Or.inr ⟨by omega, by omega, by simpa using h, fun q => by omega⟩
    | succ i =>
      simp only [setL2, List.getElem?_cons_succ] at h
      rcases setL2_get L (n + 1) v i w h with ⟨a, b⟩ | ⟨a, a2, b, c⟩
      · exact Or.inl ⟨by omega, b⟩
      · exact Or.inr ⟨by omega, by omega, by simpa using b, fun q => c (by omega)⟩
theorem LH.set {ad : Nat → Nat} {ls ls' : Array Slot} {nL n : Nat} {L : LL} {v : AV} (h : lv_has ls' nL ((n, cv ad v) :: (lvOf ad L).filter (fun q => !(q.1 == n) && !(q.1 + 1 == n && q.2.category == 2)))) : LH ad ls' nL (setL L n v) := by
  refine ⟨h.1, h.2.1, fun i w hw => ?_⟩
  rcases setL_get L n v i w hw with ⟨a, b⟩ | ⟨a, b, c⟩
  · subst a; subst b
    exact h.2.2 _ List.mem_cons_self
  · refine h.2.2 (i, cv ad w) (List.mem_cons_of_mem _ (List.mem_filter.mpr ⟨lvOf_mem b, ?_⟩))
    by_cases hc : i + 1 = n
    · have h2 := c hc
      simp [a, cat_cv, h2]
    · simp [a, hc]
theorem LH.set2 {ad : Nat → Nat} {ls ls' : Array Slot} {nL n : Nat} {L : LL} {v : AV} (h : lv_has ls' nL ((n, cv ad v) :: (lvOf ad L).filter (fun q => !(q.1 == n) && (!(q.1 == n + 1) && !(q.1 + 1 == n && q.2.category == 2))))) : LH ad ls' nL (setL2 L n v) := by
  refine ⟨h.1, h.2.1, fun i w hw => ?_⟩
  rcases setL2_get L n v i w hw with ⟨a, b⟩ | ⟨a, a2, b, c⟩
  · subst a; subst b
    exact h.2.2 _ List.mem_cons_self
  · refine h.2.2 (i, cv ad w) (List.mem_cons_of_mem _ (List.mem_filter.mpr ⟨lvOf_mem b, ?_⟩))
    by_cases hc : i + 1 = n
    · have h2 := c hc
      simp [a, a2, cat_cv, h2]
    · simp [a, a2, hc]
theorem maskL_get : ∀ (bs : List Bool) (L : LL) (i : Nat) (w : AV), (maskL bs L)[i]? = some (some w) → L[i]? = some (some w)
  | [], L, i, w, h => by simp [maskL] at h
  | b :: bs, [], i, w, h => by
    cases i with
    | zero => simp [maskL] at h
    | succ i =>
      simp only [maskL, List.getElem?_cons_succ] at h
      exact absurd (maskL_get bs [] i w h) (by simp)
  | b :: bs, x :: L, i, w, h => by
    cases i with
    | zero =>
      simp only [maskL, List.getElem?_cons_zero, Option.some.injEq] at h
      split at h
      · subst h; rfl
      · cases h
    | succ i =>
      simp only [maskL, List.getElem?_cons_succ] at h
      simpa using maskL_get bs L i w h
theorem LH.mask {ad : Nat → Nat} {ls : Array Slot} {nL : Nat} {L : LL} (h : LH ad ls nL L) (bs : List Bool) : LH ad ls nL (maskL bs L) := ⟨h.1, h.2.1, fun i v hv => h.2.2 i v (maskL_get bs L i v hv)⟩
theorem entL_get {ad : Nat → Nat} : ∀ (vs : List AV) (i : Nat) (w : AV) (j : Nat), (entL vs)[i]? = some (some w) → (j + i, cv ad w) ∈ lv_args j (vs.map (cv ad))
  | [], i, w, j, h => by simp [entL] at h
  | .inr (.inl z) :: vs, i, w, j, h => by
    match i with
    | 0 => simp [entL] at h; subst h; exact List.mem_cons_self
    | 1 => simp [entL] at h
    | i + 2 =>
      simp only [entL, List.getElem?_cons_succ] at h
      have := entL_get (ad := ad) vs i w (j + 2) h
      refine List.mem_cons_of_mem _ ?_
      rw [if_pos (show (cv ad (.inr (.inl z))).category = 2 from rfl), show j + (i + 2) = j + 2 + i from by omega]
      exact this
  | .inl z :: vs, i, w, j, h => by
    match i with
    | 0 => simp [entL] at h; subst h; exact List.mem_cons_self
    | i + 1 =>
      simp only [entL, List.getElem?_cons_succ] at h
      have := entL_get (ad := ad) vs i w (j + 1) h
      refine List.mem_cons_of_mem _ ?_
      rw [if_neg (by rw [cat_cv]; show ¬ 1 = 2; decide), show j + (i + 1) = j + 1 + i from by omega]
      exact this
  | .inr (.inr r) :: vs, i, w, j, h => by
    match i with
    | 0 => simp [entL] at h; subst h; exact List.mem_cons_self
    | i + 1 =>
      simp only [entL, List.getElem?_cons_succ] at h
      have := entL_get (ad := ad) vs i w (j + 1) h
      refine List.mem_cons_of_mem _ ?_
      rw [if_neg (by rw [cat_cv]; show ¬ 1 = 2; decide), show j + (i + 1) = j + 1 + i from by omega]
      exact this
theorem entL_len {ad : Nat → Nat} : ∀ (vs : List AV), (lg_sl (vs.map (cv ad))).length = (entL vs).length
  | [] => rfl
  | .inr (.inl z) :: vs => by
    have := entL_len (ad := ad) vs
    simp only [List.map_cons, lg_sl, List.flatMap_cons, List.length_append] at this ⊢
    rw [if_pos (show (cv ad (.inr (.inl z))).category = 2 from rfl)]
    simp only [entL, List.length_cons]
    rw [← this]
    simp [lg_sl]; omega
  | .inl z :: vs => by
    have := entL_len (ad := ad) vs
    simp only [List.map_cons, lg_sl, List.flatMap_cons, List.length_append] at this ⊢
    rw [if_neg (by rw [cat_cv]; show ¬ 1 = 2; decide)]
    simp only [entL, List.length_cons]
    rw [← this]
    simp [lg_sl]; omega
  | .inr (.inr r) :: vs => by
    have := entL_len (ad := ad) vs
    simp only [List.map_cons, lg_sl, List.flatMap_cons, List.length_append] at this ⊢
    rw [if_neg (by rw [cat_cv]; show ¬ 1 = 2; decide)]
    simp only [entL, List.length_cons]
    rw [← this]
    simp [lg_sl]; omega
theorem LH.entry {ad : Nat → Nat} {vs : List AV} {n : Nat} (h : (entL vs).length ≤ n) : LH ad ((lg_sl (vs.map (cv ad)) ++ List.replicate (n - (lg_sl (vs.map (cv ad))).length) Slot.unset).toArray) n (entL vs) := by
  have h1 := lv_entry (vs.map (cv ad)) (n := n) (by rw [entL_len]; exact h)
  refine ⟨h1.1, h1.2.1, fun i v hv => ?_⟩
  have := h1.2.2 _ (entL_get (ad := ad) vs i v 0 hv)
  simpa using this
theorem entL_mem : ∀ (vs : List AV) (i : Nat) (w : AV), (entL vs)[i]? = some (some w) → w ∈ vs
  | [], i, w, h => by simp [entL] at h
  | .inr (.inl z) :: vs, i, w, h => by
    match i with
    | 0 => simp [entL] at h; subst h; exact List.mem_cons_self
    | 1 => simp [entL] at h
    | i + 2 =>
      simp only [entL, List.getElem?_cons_succ] at h
      exact List.mem_cons_of_mem _ (entL_mem vs i w h)
  | .inl z :: vs, i, w, h => by
    match i with
    | 0 => simp [entL] at h; subst h; exact List.mem_cons_self
    | i + 1 =>
      simp only [entL, List.getElem?_cons_succ] at h
      exact List.mem_cons_of_mem _ (entL_mem vs i w h)
  | .inr (.inr r) :: vs, i, w, h => by
    match i with
    | 0 => simp [entL] at h; subst h; exact List.mem_cons_self
    | i + 1 =>
      simp only [entL, List.getElem?_cons_succ] at h
      exact List.mem_cons_of_mem _ (entL_mem vs i w h)
end
section
/-! ===== SOUNDNESS: what the abstract machine says of a method, the machine does ===== -/
def tb : List Cond := lw_tbl.filter goodWord
theorem tb_mem {w : Cond} {pos : Nat} (h : lw_tbl[pos]? = some w) (hg : goodWord w = true) : w ∈ tb := List.mem_filter.mpr ⟨List.mem_of_getElem? h, hg⟩
theorem tb_sub {ws : List Cond} (h : ∀ w ∈ ws, w ∈ lw_tbl) (hg : ws.all goodWord = true) : ∀ w ∈ ws, w ∈ tb := fun w hw => List.mem_filter.mpr ⟨h w hw, List.all_eq_true.mp hg w hw⟩
theorem tb_good {w : Cond} (h : w ∈ tb) : goodWord w = true := (List.mem_filter.mp h).2
def isNest : Cond → Bool
  | .methodLinkNest .. => true
  | .fieldLinkNest .. => true
  | _ => false
/-- the words between nest mates: they keep, but not as the others do -/
def tn : List Cond := lw_tbl.filter isNest
theorem tn_mem {w : Cond} {pos : Nat} (h : lw_tbl[pos]? = some w) (hg : isNest w = true) : w ∈ tn := List.mem_filter.mpr ⟨List.mem_of_getElem? h, hg⟩
abbrev MDat : Type := MethodName × (ByteArray × (Nat × (Option FieldType × (Bool × (Nat × (Nat × (List Nat × List ABlk)))))))
def mdN (q : MDat) : MethodName := q.1
def mdB (q : MDat) : ByteArray := q.2.1
def mdL (q : MDat) : Nat := q.2.2.1
def mdR (q : MDat) : Option FieldType := q.2.2.2.1
def mdS (q : MDat) : Bool := q.2.2.2.2.1
def mdP (q : MDat) : Nat := q.2.2.2.2.2.1
def mdC (q : MDat) : Nat := q.2.2.2.2.2.2.1
def mdW (q : MDat) : List Nat := q.2.2.2.2.2.2.2.1
def mdK (q : MDat) : List ABlk := q.2.2.2.2.2.2.2.2
def rcv (c : Nat) : List AV → Prop
  | .inr (.inr (some a)) :: _ => (shA a).1 = c
  | _ => False
def z0 : Int → Int := fun _ => 0
def tx (mt : List MDat) : Nat → AT
  | 0 => fun _ _ _ _ => False
  | d + 1 => fun id as h K => match mt[id]? with
    | none => False
    | some md => (mdS md = true ∨ rcv (mdC md) as) ∧ (entL as).length ≤ mdL md ∧ Bx z0 0 (tx mt d) (mdK md) K 0 (entL as) [] h
def ilen : Instr → Nat
  | .bipush _ | .ldc _ | .iload _ | .lload _ | .aload _ | .istore _ | .lstore _ | .astore _ => 2
  | .sipush _ | .ldc_w _ | .ldc2_w _ | .iinc _ _ | .if_icmp _ _ | .ifCond _ _ | .goto _ | .getstatic _ | .getfield _ | .putfield _ | .invokestatic _ | .invokevirtual _ => 3
  | _ => 1
def okW (pos : Nat) (w : Cond) : Bool := decide (lw_tbl[pos]? = some w) && goodWord w
def okN (pos : Nat) (w : Cond) : Bool := decide (lw_tbl[pos]? = some w) && isNest w
/-- a call's word -/
def okL (own : String) (idx nest pos : Nat) (y : MethodName) : Bool := if nest = 0 then okW pos (.methodLink own idx y) else okN pos (.methodLinkNest own idx y "TinkerTailor")
def fWord (own : String) (idx c j nest : Nat) : Option Cond := (vwCl[c]?).map (fun q => if nest = 0 then .fieldLink own idx (q.2.1 j).1 (q.2.1 j).2.1 (q.2.1 j).2.2.1 else .fieldLinkNest own idx (q.2.1 j).1 (q.2.1 j).2.1 (q.2.1 j).2.2.1 "TinkerTailor")
def okF (own : String) (idx c j nest pos : Nat) : Bool := match fWord own idx c j nest with
  | some w => decide (c < 7) && (decide (j < cN c) && (if nest = 0 then okW pos w else okN pos w))
  | none => false
def fTy (c j : Nat) : Option FieldType := match vwCl[c]? with
  | some q => if (q.2.1 j).2.2.2 = true then none else parseFieldDescriptor (q.2.1 j).2.2.1
  | none => none
def okT (bs : List ABlk) (t : Nat) (pc : Int) : Bool := match bs[t]? with
  | some q => decide ((q.1 : Int) = pc)
  | none => false
def okTs (bs : List ABlk) (pc : Int) : List Nat → List Int → Bool
  | [], [] => true
  | t :: ts, o :: os => okT bs t (pc + o) && okTs bs pc ts os
  | _, _ => false
def strT : List String := ["dD;", "dddddd;", "dD,dd;", "ddd;", ";", ""]
def okI (mt : List MDat) (lawq : Bool) (nL : Nat) (own : String) (bs : List ABlk) (rt : Option FieldType) (pc : Nat) (i : Instr) (x : List Nat) : Bool := match i with
  | .nop => match x with
    | t :: _ => okT bs t pc
    | [] => false
  | .iconst n => decide (-1 ≤ n) && decide (n ≤ 5)
  | .bipush n => decide (-128 ≤ n) && decide (n < 128)
  | .sipush n => decide (-32768 ≤ n) && decide (n < 32768)
  | .ldc idx => match x with
    | 0 :: a :: b :: pos :: _ => decide (a < 2147483648) && (decide (b ≤ 2147483648) && okW pos (.constant own idx (Int32.ofInt ((a : Int) - (b : Int)))))
    | [1, q] => decide (own = RX2) && (decide (q < 6) && decide (idx = 23 + 2 * q))
    | _ => false
  | .ldc_w idx => match x with
    | 0 :: a :: b :: pos :: _ => decide (a < 2147483648) && (decide (b ≤ 2147483648) && okW pos (.constant own idx (Int32.ofInt ((a : Int) - (b : Int)))))
    | _ => false
  | .ldc2_w idx => match x with
    | a :: b :: pos :: _ => decide (a < 9223372036854775808) && (decide (b ≤ 9223372036854775808) && okW pos (.constantLong own idx (Int64.ofInt ((a : Int) - (b : Int)))))
    | _ => false
  | .if_icmp _ off => match x with
    | t :: _ => okT bs t ((pc : Int) + off)
    | _ => false
  | .ifCond _ off => match x with
    | t :: _ => okT bs t ((pc : Int) + off)
    | _ => false
  | .goto off => match x with
    | t :: _ => okT bs t ((pc : Int) + off)
    | _ => false
  | .tableswitch d lo hi offs => match x with
    | t :: ts => okT bs t ((pc : Int) + d) && (okTs bs pc ts offs.toList && decide (hi = lo + (offs.toList.length : Int) - 1))
    | _ => false
  | .lookupswitch d ps => match x with
    | t :: ts => okT bs t ((pc : Int) + d) && (okTs bs pc ts (ps.toList.map (fun q => q.2)) && ((ps.toList.zip (ps.toList.drop 1)).all (fun (a, next) => decide (a.1 < next.1)) && ps.toList.all (fun q => decide (-2147483648 ≤ q.1) && decide (q.1 ≤ 2147483647))))
    | _ => false
  | .getstatic idx => match x with
    | 0 :: pos :: _ => okW pos (.fieldLink own idx "java/lang/String" "COMPACT_STRINGS" "Z")
    | 1 :: pos :: _ => okW pos (.fieldLink own idx "jdk/internal/util/Preconditions" "SIOOBE_FORMATTER" "Ljava/util/function/BiFunction;")
    | _ => false
  | .getfield idx => match x with
    | 0 :: c :: j :: nest :: pos :: _ => okF own idx c j nest pos && decide ((fdK c j).1 = 0)
    | 1 :: c :: j :: o :: nest :: pos :: _ => if c = 20 then decide (o = 20) && okW pos (.fieldLink own idx "java/lang/String" "value" "[B") else okF own idx c j nest pos && decide (fdK c j = (1, o))
    | 2 :: c :: j :: nest :: pos :: _ => okF own idx c j nest pos && decide ((fdK c j).1 = 2)
    | 3 :: pos :: _ => okW pos (.fieldLink own idx "java/lang/String" "coder" "B")
    | _ => false
  | .putfield idx => match x with
    | 0 :: c :: j :: nest :: pos :: _ => okF own idx c j nest pos && (decide ((fdK c j).1 = 0) && decide (fTy c j = some .int))
    | 2 :: c :: j :: nest :: pos :: _ => okF own idx c j nest pos && (decide ((fdK c j).1 = 2) && decide (fTy c j = some (.array .int)))
    | 3 :: c :: j :: nest :: pos :: _ => okF own idx c j nest pos && (decide ((fdK c j).1 = 0) && decide (fTy c j = some .boolean))
    | _ => false
  | .istore_n n => decide (n.val < nL)
  | .istore n => decide (n < nL)
  | .astore_n n => decide (n.val < nL)
  | .astore n => decide (n < nL)
  | .lstore_n n => decide (n.val + 1 < nL)
  | .lstore n => decide (n + 1 < nL)
  | .iinc n _ => decide (n < nL)
  | .iaload => decide (x = []) || lawq
  | .arraylength => decide (x = []) || lawq
  | .invokestatic idx => match x with
    | 0 :: pos :: [] => okW pos (.methodLink own idx Lib.Math.max.name)
    | 1 :: pos :: [] => okW pos (.methodLink own idx Lib.Math.min.name)
    | 2 :: pos :: [] => okW pos (.methodLink own idx arraycopyName)
    | id :: n :: nest :: pos :: _ => match mt[id]? with
      | some md => mdS md && (decide (n = mdP md) && okL own idx nest pos (mdN md))
      | none => false
    | _ => false
  | .invokevirtual idx => match x with
    | id :: n :: nest :: pos :: _ => match mt[id]? with
      | some md => !mdS md && (decide (n = mdP md + 1) && okL own idx nest pos (mdN md))
      | none => false
    | _ => false
  | .ireturn => match x with
    | [] => decide (rt = some .int)
    | [1] => decide (rt = some .boolean)
    | [2] => decide (rt = some .char)
    | [3] => decide (rt = some .byte)
    | _ => false
  | .lreturn => decide (rt = some .long)
  | .areturn => match rt with
    | some (.object _) => true
    | _ => false
  | .return_ => decide (rt = none)
  | _ => true
def okD (cc : ByteArray) (pc : Nat) (i : Instr) : Bool := match i with
  | .nop => true
  | .tableswitch .. => match decode cc pc with
    | .ok (i', _) => decide (i' = i)
    | _ => false
  | .lookupswitch .. => match decode cc pc with
    | .ok (i', _) => decide (i' = i)
    | _ => false
  | _ => match decode cc pc with
    | .ok (i', n) => decide (i' = i) && decide (n = ilen i)
    | _ => false
def okB (mt : List MDat) (lawq : Bool) (nL : Nat) (own : String) (cc : ByteArray) (bs : List ABlk) (rt : Option FieldType) : Nat → List RI → Bool
  | _, [] => true
  | pc, r :: is => okD cc pc r.1 && (okI mt lawq nL own bs rt pc r.1 r.2 && okB mt lawq nL own cc bs rt (pc + ilen r.1) is)
def okM (mt : List MDat) (q : MDat) : Bool :=
  (match mdW q with
    | a :: b :: c :: d :: _ => okW a (.code (mdN q) (mdB q) (mdL q) (mdR q)) && (okW b (if mdS q = true then .static (mdN q) else .instanceMethod (mdN q)) && (okW d (.initialized (mdN q).cls) && (mdS q || okW c (.selects (mdN q).cls (mdN q) (mdN q)))))
    | _ => false) &&
  (decide ((mdN q).cls ≠ "java/lang/invoke/MethodHandle") && (decide ((mdN q).cls ≠ "java/lang/invoke/VarHandle") && (decide ((parseMethodDescriptor (mdN q).desc).map (fun d => d.parameters.length) = some (mdP q)) &&
  (plainName (mdN q).cls && (decide (mdL q ≤ 45) && ((match (mdK q)[0]? with | some b => decide (b.1 = 0) | none => false) &&
  ((mdS q || (if mdC q = 20 then decide ((mdN q).cls = "java/lang/String") else (match vwCl[mdC q]? with | some v => decide (v.1 = (mdN q).cls) && decide (mdC q < 7) | none => false))) &&
  (mdK q).all (fun b => okB mt false (mdL q) (mdN q).cls (mdB q) (mdK q) (mdR q) b.1 b.2.2))))))))
end
section
/-! ===== soundness of an instruction ===== -/
def ClsOK (c : Nat) (C : String) (T : u_T) (N : Nat) (ty : Nat → FieldType) : Prop := vwCl[c]? = some (C, T, N) ∧ (∀ w ∈ u_ws C T N, w ∈ tb) ∧ (∀ k, k < N → parseFieldDescriptor (T k).2.2.1 = some (ty k)) ∧ (∀ a, a < N → ∀ b, b < N → a ≠ b → (T a).2.1 ≠ (T b).2.1) ∧ N = cN c
theorem cls_ok (c : Nat) (hc : c < 7) : ∃ C T N ty, ClsOK c C T N ty := by
  rcases (show c = 0 ∨ c = 1 ∨ c = 2 ∨ c = 3 ∨ c = 4 ∨ c = 5 ∨ c = 6 by omega) with rfl | rfl | rfl | rfl | rfl | rfl | rfl
  · exact ⟨_, _, _, tyX0, rfl, tb_sub inX0 (by decide +kernel), tyX0_ok, nmX0, rfl⟩
  · exact ⟨_, _, _, tyX1, rfl, tb_sub inX1 (by decide +kernel), tyX1_ok, nmX1, rfl⟩
  · exact ⟨_, _, _, tyX2, rfl, tb_sub inX2 (by decide +kernel), tyX2_ok, nmX2, rfl⟩
  · exact ⟨_, _, _, tyX3, rfl, tb_sub inX3 (by decide +kernel), tyX3_ok, nmX3, rfl⟩
  · exact ⟨_, _, _, tyX4, rfl, tb_sub inX4 (by decide +kernel), tyX4_ok, nmX4, rfl⟩
  · exact ⟨_, _, _, tyX5, rfl, tb_sub inX5 (by decide +kernel), tyX5_ok, nmX5, rfl⟩
  · exact ⟨_, _, _, tyX6, rfl, tb_sub inX6 (by decide +kernel), tyX6_ok, nmX6, rfl⟩
/-- what the Statement gives of things that nobody writes: the text constants, two statics -/
def XT (ad : Nat → Nat) (A : Nat → Prop) (U : State) (H : Heap) : Prop :=
  vk_S 6 (strS.map List.length) (strS.map (fun l => l.map Int32.ofInt)) (fun i => ad (200 + i)) (fun i => ad (220 + i)) A U H ∧
  va_Z "java/lang/String" "COMPACT_STRINGS" "Z" (.int 1) A U H ∧
  va_Z "jdk/internal/util/Preconditions" "SIOOBE_FORMATTER" "Ljava/util/function/BiFunction;" (.ref (ad 240)) A U H ∧
  (∀ i, i < 6 → vk_R "TinkerTailor$Letters" (23 + 2 * i) (strT.getD i "") (ad (200 + i)) U) ∧ ∀ w ∈ tn, va_Nw w U
theorem tn_warm {w : Cond} (h : w ∈ tn) {s U : State} (hW : s.WarmedH U.vm) (hZ : va_Nw w s) : va_Nw w U := by
  have h2 := (List.mem_filter.mp h).2
  unfold isNest at h2
  split at h2
  · exact va_Nw.warmM hW hZ
  · exact va_Nw.warmF hW hZ
  · cases h2
theorem tn_tab {w : Cond} (h : w ∈ tn) : w.onTables = true := by
  have h2 := (List.mem_filter.mp h).2
  unfold isNest at h2
  split at h2
  · rfl
  · rfl
  · cases h2
theorem XT.moved {ad : Nat → Nat} {A : Nat → Prop} {u U : State} {H : Heap} (hW : u.WarmedH U.vm) (h : XT ad A u H) : XT ad A U H :=
  ⟨h.1.moved hW.alike, h.2.1.moved hW.alike, h.2.2.1.moved hW.alike, fun i hi => (h.2.2.2.1 i hi).warm hW, fun w hw => tn_warm hw hW (h.2.2.2.2 w hw)⟩
theorem XT.kept {ad : Nat → Nat} {A : Nat → Prop} {U : State} {H H1 : Heap} (h : XT ad A U H) (hq : ∀ a : Nat, a < H.size → ¬ A a → H1[a]? = H[a]?) : XT ad A U H1 :=
  ⟨h.1.kept hq, h.2.1.kept hq, h.2.2.1.kept hq, h.2.2.2⟩
theorem XT.narrow {ad : Nat → Nat} {A B : Nat → Prop} {U : State} {H : Heap} (h : XT ad A U H) (hAB : ∀ q, B q → A q) : XT ad B U H :=
  ⟨h.1.narrow hAB, h.2.1.narrow hAB, h.2.2.1.narrow hAB, h.2.2.2⟩
theorem XT.same {ad : Nat → Nat} {A : Nat → Prop} {u U : State} {H : Heap} (hv : U.vm = u.vm) (ha : u.vm.Alike U.vm) (h : XT ad A u H) : XT ad A U H :=
  ⟨h.1.moved ha, h.2.1.moved ha, h.2.2.1.moved ha, fun i hi => (h.2.2.2.1 i hi).same hv, fun w hw => (h.2.2.2.2 w hw).same (tn_tab hw) hv.symm⟩
section IS
variable {mt : List MDat} {lawq : Bool} {p : Program} {l : Launch} {e : Env} {R : Room} {s : State} {m : MethodId} {args : Array Value} {below : List Frame} {meth : Method} {c : Code} {cells slots : Nat} {Q : State → Prop} {cc : ByteArray} {nL : Nat} {own : String} {ad : Nat → Nat} {G : ClassId × (ClassId × ClassId)} {dC : Nat → ClassId} {dI : Nat → Nat → Nat} {A : Nat → Prop} {sc : Int → Int} {sl : Int} {d : Nat}
/-- what holds all through a method -/
def FX (lawq : Bool) (p : Program) (R : Room) (s : State) (m : MethodId) (args : Array Value) (c : Code) (cells slots : Nat) (cc : ByteArray) (nL : Nat) (own : String) (ad : Nat → Nat) (G : ClassId × (ClassId × ClassId)) (dC : Nat → ClassId) (dI : Nat → Nat → Nat) (A : Nat → Prop) (sc : Int → Int) (sl : Int) (d : Nat) : Prop :=
  p.tables.exec = Jvm.exec ∧ c.code = cc ∧ c.maxLocals = nL ∧ s.vm.findClass own = some m.cls ∧ (∀ w ∈ tb, w.before args s = true) ∧
  va_K (dC, dI) vwCl [(G.1, .int), (G.2.1, .long), (G.2.2, .boolean)] s ∧ XT ad A s s.heap ∧ (∀ q, s.heap.size ≤ q → A q) ∧
  (d + 1 ≤ R.frames ∧ 64 * (d + 1) ≤ R.locals ∧ cells ≤ R.cells ∧ slots ≤ R.slots) ∧
  (lawq = true → ∃ (L : Nat) (xs : Nat → Int32), va_X (ad 300) L xs s s.heap ∧ ad 300 < s.heap.size ∧ ¬ A (ad 300) ∧ sl = (L : Int) ∧ L < 2 ^ 31 ∧ ∀ i : Nat, i < L → inI (sc i) ∧ xs i = Int32.ofInt (sc i))
/-- the state between two instructions -/
def SS (s : State) (ad : Nat → Nat) (G : ClassId × (ClassId × ClassId)) (dC : Nat → ClassId) (dI : Nat → Nat → Nat) (A : Nat → Prop) (nL : Nat) (ls : Array Slot) (L : LL) (st : List AV) (h : AH) (H : Heap) (locs : List Loc) : Prop :=
  LH ad ls nL L ∧ (∀ v ∈ st, vOK v) ∧ (∀ (i : Nat) (v : AV), L[i]? = some (some v) → vOK v) ∧ hOK h ∧ va_P (dC, dI) vwCl (wl ad G h) H ∧ va_D A (wl ad G h) ∧ va_S A s.heap H locs
theorem fWord_of {idx cl j nest pos : Nat} {C : String} {T : u_T} {N : Nat} (hc : vwCl[cl]? = some (C, T, N)) (hf : okF own idx cl j nest pos = true) :
    cl < 7 ∧ j < cN cl ∧ ((.fieldLink own idx (T j).1 (T j).2.1 (T j).2.2.1) ∈ tb ∨ (.fieldLinkNest own idx (T j).1 (T j).2.1 (T j).2.2.1 "TinkerTailor") ∈ tn) := by
  unfold okF fWord at hf
  rw [hc] at hf
  simp only [Option.map_some, Bool.and_eq_true, decide_eq_true_eq] at hf
  obtain ⟨h1, h2, h3⟩ := hf
  refine ⟨h1, h2, ?_⟩
  by_cases hn : nest = 0
  · rw [if_pos hn, if_pos hn] at h3
    simp only [okW, Bool.and_eq_true, decide_eq_true_eq] at h3
    exact Or.inl (tb_mem h3.1 h3.2)
  · rw [if_neg hn, if_neg hn] at h3
    simp only [okN, Bool.and_eq_true, decide_eq_true_eq] at h3
    exact Or.inr (tn_mem h3.1 h3.2)
theorem is_get (F : FX lawq p R s m args c cells slots cc nL own ad G dC dI A sc sl d) {h : AH} {H : Heap} {locs : List Loc} (hP : va_P (dC, dI) vwCl (wl ad G h) H) {a cl j idx nest pos pc : Nat} {ls : Array Slot} {rest : List Value} (hs : (shA a).1 = cl) (hf : okF own idx cl j nest pos = true) (hdg : decode cc pc = .ok (.getfield idx, 3))
    (kk : W p l e R s m args below meth c H locs cells slots Q (F0 m (pc + 3) ls (fv ad h a cl j :: rest))) : W p l e R s m args below meth c H locs cells slots Q (F0 m pc ls (.ref (ad a) :: rest)) := by
  obtain ⟨hx, hb, hml, hown, hts, hK, hXT, -⟩ := F
  have hcl : cl < 7 := by
    unfold okF at hf
    split at hf
    · simp only [Bool.and_eq_true, decide_eq_true_eq] at hf; exact hf.1
    · cases hf
  obtain ⟨C, T, N, ty, h1, h2, h3, h4, h5⟩ := cls_ok cl hcl
  obtain ⟨-, hj, hw⟩ := fWord_of h1 hf
  have hget := wl_get (ad := ad) (G := G) (h := h) (shA_lt hs (by omega))
  rw [cellO hs hcl] at hget
  rcases hw with hw | hw
  · exact va_get hx hb hts h2 hown hK hP a hget h1 j (by rw [h5]; exact hj) (hts _ hw) (fun _ h9 => h9) (fld_get hj) hdg kk
  · exact va_getN hx hb hts h2 hown hK hP a hget h1 j (by rw [h5]; exact hj) ((hXT.2.2.2.2 _ hw).use rfl) (fun _ h9 => h9) (fld_get hj) hdg kk
theorem is_put (F : FX lawq p R s m args c cells slots cc nL own ad G dC dI A sc sl d) {h h' : AH} {H : Heap} {locs : List Loc} (hP : va_P (dC, dI) vwCl (wl ad G h) H) (hD : va_D A (wl ad G h)) (hS : va_S A s.heap H locs) {a cl j idx nest pos pc : Nat} {ls : Array Slot} {rest : List Value} {v : Value} {ty : FieldType} (hs : (shA a).1 = cl) (hf : okF own idx cl j nest pos = true) (hty : fTy cl j = some ty) (hn : narrow ty v = v) (hfit : fits ty v = true)
    (hset : cl < 7 → (wl ad G h).set a (ad a, .inr (cl, ((List.range (cN cl)).map (fun j => fv ad h a cl j)).set j v)) = wl ad G h') (hdg : decode cc pc = .ok (.putfield idx, 3))
    (kk : ∀ (H1 : Heap) (locs1 : List Loc), va_P (dC, dI) vwCl (wl ad G h') H1 → va_D A (wl ad G h') → va_S A s.heap H1 locs1 → W p l e R s m args below meth c H1 locs1 cells slots Q (F0 m (pc + 3) ls rest)) : W p l e R s m args below meth c H locs cells slots Q (F0 m pc ls (v :: .ref (ad a) :: rest)) := by
  obtain ⟨hx, hb, hml, hown, hts, hK, hXT, -⟩ := F
  have hcl : cl < 7 := by
    unfold okF at hf
    split at hf
    · simp only [Bool.and_eq_true, decide_eq_true_eq] at hf; exact hf.1
    · cases hf
  obtain ⟨C, T, N, ty0, h1, h2, h3, h4, h5⟩ := cls_ok cl hcl
  obtain ⟨-, hj, hw⟩ := fWord_of h1 hf
  have hget := wl_get (ad := ad) (G := G) (h := h) (shA_lt hs (by omega))
  rw [cellO hs hcl] at hget
  have hty' : (T j).2.2.2 = false ∧ parseFieldDescriptor (T j).2.2.1 = some ty := by
    unfold fTy at hty
    rw [h1] at hty
    dsimp only at hty
    split at hty
    · cases hty
    · next hq => exact ⟨by simpa using hq, hty⟩
  rcases hw with hw | hw
  · exact va_put hx hb hts h2 ty0 h3 h4 hown hK hP hD hS a hget h1 j (by rw [h5]; exact hj) (hts _ hw) (fun _ h9 => h9) hty'.1 hty'.2 hn hfit (by simp; exact hj) hdg (fun H1 locs1 a1 a2 a3 => by rw [hset hcl] at a1 a2; exact kk H1 locs1 a1 a2 a3)
  · exact va_putN hx hb hts h2 ty0 h3 h4 hown hK hP hD hS a hget h1 j (by rw [h5]; exact hj) ((hXT.2.2.2.2 _ hw).use rfl) (fun _ h9 => h9) hty'.1 hty'.2 hn hfit (by simp; exact hj) hdg (fun H1 locs1 a1 a2 a3 => by rw [hset hcl] at a1 a2; exact kk H1 locs1 a1 a2 a3)
theorem is_cmp (F : FX lawq p R s m args c cells slots cc nL own ad G dC dI A sc sl d) {cd : ClassFile.Cond} {z y off : Int} {tgt pc : Nat} {ls : Array Slot} {rest : List Value} {H : Heap} {locs : List Loc} (hz : inI z) (hy : inI y) (hdg : decode cc pc = .ok (.if_icmp cd off, 3)) (ht : (pc : Int) + off = (tgt : Int))
    (kt : cmpP cd z y → W p l e R s m args below meth c H locs cells slots Q (F0 m tgt ls rest)) (kf : ¬ cmpP cd z y → W p l e R s m args below meth c H locs cells slots Q (F0 m (pc + 3) ls rest)) : W p l e R s m args below meth c H locs cells slots Q (F0 m pc ls (.int (Int32.ofInt y) :: .int (Int32.ofInt z) :: rest)) := by
  obtain ⟨hx, hb, -⟩ := F
  cases cd with
  | eq => exact lv_icmp_eq hx hb hdg ht (fun q => kt ((am_eq hz hy).mp q)) (fun q => kf (fun q2 => q ((am_eq hz hy).mpr q2)))
  | ne => exact lv_icmp_ne hx hb hdg ht (fun q => kt (fun q2 => q ((am_eq hz hy).mpr q2))) (fun q => kf (fun q2 => q2 ((am_eq hz hy).mp q)))
  | lt => exact lv_icmp_lt hx hb hdg ht (fun q => kt ((am_lt hz hy).mp q)) (fun q => kf (fun q2 => q ((am_lt hz hy).mpr q2)))
  | ge => exact lv_icmp_ge hx hb hdg ht (fun q => kt ((am_le hy hz).mp q)) (fun q => kf (fun q2 => q ((am_le hy hz).mpr q2)))
  | gt => exact lv_icmp_gt hx hb hdg ht (fun q => kt ((am_lt hy hz).mp q)) (fun q => kf (fun q2 => q ((am_lt hy hz).mpr q2)))
  | le => exact lv_icmp_le hx hb hdg ht (fun q => kt ((am_le hz hy).mp q)) (fun q => kf (fun q2 => q ((am_le hz hy).mpr q2)))
theorem is_if (F : FX lawq p R s m args c cells slots cc nL own ad G dC dI A sc sl d) {cd : ClassFile.Cond} {z off : Int} {tgt pc : Nat} {ls : Array Slot} {rest : List Value} {H : Heap} {locs : List Loc} (hz : inI z) (hdg : decode cc pc = .ok (.ifCond cd off, 3)) (ht : (pc : Int) + off = (tgt : Int))
    (kt : cmpP cd z 0 → W p l e R s m args below meth c H locs cells slots Q (F0 m tgt ls rest)) (kf : ¬ cmpP cd z 0 → W p l e R s m args below meth c H locs cells slots Q (F0 m (pc + 3) ls rest)) : W p l e R s m args below meth c H locs cells slots Q (F0 m pc ls (.int (Int32.ofInt z) :: rest)) := by
  obtain ⟨hx, hb, -⟩ := F
  have hy : inI 0 := ⟨by decide, by decide⟩
  have e0 : (Int32.ofInt 0) = 0 := rfl
  cases cd with
  | eq => exact lv_if_eq hx hb hdg ht (fun q => kt ((am_eq hz hy).mp q)) (fun q => kf (fun q2 => q ((am_eq hz hy).mpr q2)))
  | ne => exact lv_if_ne hx hb hdg ht (fun q => kt (fun q2 => q ((am_eq hz hy).mpr q2))) (fun q => kf (fun q2 => q2 ((am_eq hz hy).mp q)))
  | lt => exact lv_if_lt hx hb hdg ht (fun q => kt ((am_lt hz hy).mp q)) (fun q => kf (fun q2 => q ((am_lt hz hy).mpr q2)))
  | ge => exact lv_if_ge hx hb hdg ht (fun q => kt ((am_le hy hz).mp q)) (fun q => kf (fun q2 => q ((am_le hy hz).mpr q2)))
  | gt => exact lv_if_gt hx hb hdg ht (fun q => kt ((am_lt hy hz).mp q)) (fun q => kf (fun q2 => q ((am_lt hy hz).mpr q2)))
  | le => exact lv_if_le hx hb hdg ht (fun q => kt ((am_le hz hy).mp q)) (fun q => kf (fun q2 => q ((am_le hz hy).mpr q2)))

theorem okT_pc {bs : List ABlk} {t : Nat} {pc : Int} (h : okT bs t pc = true) : ∃ q, bs[t]? = some q ∧ (q.1 : Int) = pc := by
  unfold okT at h
  split at h
  · next q hq => exact ⟨q, hq, by simpa using h⟩
  · cases h
def isRet : Instr → List Nat → Option AV → Prop
  | .ireturn, x, some (.inl z) => x = [] ∨ (x = [1] ∧ (z = 0 ∨ z = 1)) ∨ (x = [2] ∧ 0 ≤ z ∧ z < 65536) ∨ (x = [3] ∧ z = 0)
  | .lreturn, _, some (.inr (.inl _)) => True
  | .areturn, _, some (.inr (.inr (some _))) => True
  | .return_, _, none => True
  | _, _, _ => False
theorem vOK_st {v : AV} {st : List AV} (h : ∀ w ∈ v :: st, vOK w) : vOK v ∧ ∀ w ∈ st, vOK w := ⟨h v List.mem_cons_self, fun w hw => h w (List.mem_cons_of_mem _ hw)⟩
theorem vOK_cons {v : AV} {st : List AV} (h : vOK v) (h2 : ∀ w ∈ st, vOK w) : ∀ w ∈ v :: st, vOK w := fun w hw => (List.mem_cons.mp hw).elim (fun q => q ▸ h) (h2 w)
theorem LOK.set {L : LL} {n : Nat} {v : AV} (h : ∀ (i : Nat) (v : AV), L[i]? = some (some v) → vOK v) (hv : vOK v) : ∀ (i : Nat) (w : AV), (setL L n v)[i]? = some (some w) → vOK w := fun i w hw => by
  rcases setL_get L n v i w hw with ⟨-, b⟩ | ⟨-, b, -⟩
  · rw [b]; exact hv
  · exact h i w b
theorem LOK.set2 {L : LL} {n : Nat} {v : AV} (h : ∀ (i : Nat) (v : AV), L[i]? = some (some v) → vOK v) (hv : vOK v) : ∀ (i : Nat) (w : AV), (setL2 L n v)[i]? = some (some w) → vOK w := fun i w hw => by
  rcases setL2_get L n v i w hw with ⟨-, b⟩ | ⟨-, -, b, -⟩
  · rw [b]; exact hv
  · exact h i w b
theorem lk_0 {L : LL} {i : Nat} {k : AV → Prop} (h : ldA 0 L i k) : ∃ z, L[i]? = some (some (.inl z)) ∧ k (.inl z) := by
  unfold ldA at h
  generalize L[i]? = o at h ⊢
  match o with
  | some (some (.inl z)) => exact ⟨z, rfl, h⟩
  | some (some (.inr (.inl z))) => exact h.elim
  | some (some (.inr (.inr (some a)))) => exact h.elim
  | some (some (.inr (.inr none))) => exact h.elim
  | some none => exact h.elim
  | none => exact h.elim
theorem lk_1 {L : LL} {i : Nat} {k : AV → Prop} (h : ldA 1 L i k) : ∃ z, L[i]? = some (some (.inr (.inl z))) ∧ k (.inr (.inl z)) := by
  unfold ldA at h
  generalize L[i]? = o at h ⊢
  match o with
  | some (some (.inl z)) => exact h.elim
  | some (some (.inr (.inl z))) => exact ⟨z, rfl, h⟩
  | some (some (.inr (.inr (some a)))) => exact h.elim
  | some (some (.inr (.inr none))) => exact h.elim
  | some none => exact h.elim
  | none => exact h.elim
theorem lk_2 {L : LL} {i : Nat} {k : AV → Prop} (h : ldA 2 L i k) : ∃ a, L[i]? = some (some (.inr (.inr (some a)))) ∧ k (.inr (.inr (some a))) := by
  unfold ldA at h
  generalize L[i]? = o at h ⊢
  match o with
  | some (some (.inl z)) => exact h.elim
  | some (some (.inr (.inl z))) => exact h.elim
  | some (some (.inr (.inr (some a)))) => exact ⟨a, rfl, h⟩
  | some (some (.inr (.inr none))) => exact h.elim
  | some none => exact h.elim
  | none => exact h.elim
theorem okD_1 {cc : ByteArray} {pc n : Nat} {i : Instr} (h : (match decode cc pc with
    | .ok (i', n') => decide (i' = i) && decide (n' = n)
    | _ => false) = true) : decode cc pc = .ok (i, n) := by
  split at h
  · next i' n' hq =>
    simp only [Bool.and_eq_true, decide_eq_true_eq] at h
    rw [hq, h.1, h.2]
  · cases h
theorem catS_eq {ad : Nat → Nat} : ∀ (st : List AV), ((st.map (cv ad)).map fun v => v.category).sum = catS st
  | [] => rfl
  | v :: st => by
    have := catS_eq (ad := ad) st
    simp only [List.map_cons, List.sum_cons, catS, cat_cv] at this ⊢
    rw [this]
theorem popA_eq : ∀ (n : Nat) (acc st as st' : List AV), popA n acc st = some (as, st') → ∃ as0 : List AV, as0.length = n ∧ st = as0 ++ st' ∧ as = as0.reverse ++ acc
  | 0, acc, st, as, st', h => by cases h; exact ⟨[], rfl, rfl, rfl⟩
  | n + 1, acc, [], as, st', h => by simp [popA] at h
  | n + 1, acc, v :: st, as, st', h => by
    obtain ⟨a0, b1, b2, b3⟩ := popA_eq n (v :: acc) st as st' h
    exact ⟨v :: a0, by simp [b1], by rw [b2]; rfl, by rw [b3]; simp⟩
theorem popA_0 {n : Nat} {st as st' : List AV} (h : popA n [] st = some (as, st')) : as.length = n ∧ st = as.reverse ++ st' := by
  obtain ⟨a0, b1, b2, b3⟩ := popA_eq n [] st as st' h
  rw [List.append_nil] at b3
  subst b3
  exact ⟨by simp [b1], by rw [List.reverse_reverse]; exact b2⟩
end IS
end
section
/-! ===== calls, and an instruction whole ===== -/
def tys (G : ClassId × (ClassId × ClassId)) : List (ClassId × FieldType) := [(G.1, .int), (G.2.1, .long), (G.2.2, .boolean)]
def wsy (q : MDat) : List Cond := .code (mdN q) (mdB q) (mdL q) (mdR q) :: tb
def rmd (d : Nat) : Room := { frames := d, cells := 0, slots := 0, locals := 64 * d }
def QQ (ad : Nat → Nat) (G : ClassId × (ClassId × ClassId)) (dC : Nat → ClassId) (dI : Nat → Nat → Nat) (K : AK) (A : Nat → Prop) : Array Value → State → Outcome → State → Prop := fun _ st oc t =>
  (∃ (r : Option AV) (h' : AH), oc = .returned (r.map (cv ad)) ∧ K r h' ∧ hOK h' ∧ (∀ v, r = some v → vOK v) ∧ va_P (dC, dI) vwCl (wl ad G h') t.heap ∧ va_K (dC, dI) vwCl (tys G) t ∧ va_D A (wl ad G h')) ∧ va_F A st t
def PB (ad : Nat → Nat) (G : ClassId × (ClassId × ClassId)) (dC : Nat → ClassId) (dI : Nat → Nat → Nat) (h : AH) (sz : Nat) : State → Prop := fun U =>
  U.heap.size = sz ∧ va_P (dC, dI) vwCl (wl ad G h) U.heap ∧ va_K (dC, dI) vwCl (tys G) U ∧ va_D (fun _ => True) (wl ad G h) ∧ XT ad (va_A (wl ad G h) sz) U U.heap
theorem PB_blind {ad : Nat → Nat} {G : ClassId × (ClassId × ClassId)} {dC : Nat → ClassId} {dI : Nat → Nat → Nat} {h : AH} {sz : Nat} {av : List Value} : FrameBlind (va_Pc av (PB ad G dC dI h sz)) := fun a U g mk q => by
  obtain ⟨q0, q1, qP, qK, qD, qX⟩ := q
  exact ⟨q0, q1, qP, va_K.moved (u := U) (U := U.calling g mk a) (Vm.Alike.refl U.vm) qK, qD, XT.same (u := U) (U := U.calling g mk a) (H := U.heap) rfl (Vm.Alike.refl U.vm) qX⟩
theorem wl_some {ad : Nat → Nat} {G : ClassId × (ClassId × ClassId)} {h : AH} {k : Nat} {q : Nat × va_E} (hq : (wl ad G h)[k]? = some q) : k < 65 ∧ q = (ad k, cellE ad G h k) := by
  have hk : k < 65 := by
    have := (List.getElem?_eq_some_iff.mp hq).1
    simpa [wl] using this
  rw [wl_get hk] at hq
  exact ⟨hk, (Option.some.inj hq).symm⟩
theorem wl_D {ad : Nat → Nat} {G : ClassId × (ClassId × ClassId)} {h h' : AH} {A : Nat → Prop} (hD : va_D A (wl ad G h)) : va_D A (wl ad G h') := by
  refine ⟨fun i j p q hi hj hpq => ?_, fun k q hk => ?_⟩
  · obtain ⟨i1, rfl⟩ := wl_some hi
    obtain ⟨j1, rfl⟩ := wl_some hj
    exact hD.1 i j _ _ (wl_get i1) (wl_get j1) hpq
  · obtain ⟨i1, rfl⟩ := wl_some hk
    exact hD.2 k (ad k, cellE ad G h k) (wl_get i1)
theorem wl_A {ad : Nat → Nat} {G : ClassId × (ClassId × ClassId)} {h : AH} {A : Nat → Prop} {sz q : Nat} (hD : va_D A (wl ad G h)) (hA : ∀ q, sz ≤ q → A q) (hq : va_A (wl ad G h) sz q) : A q := by
  rcases hq with ⟨k, e, hk⟩ | hq
  · exact hD.2 k _ hk
  · exact hA q hq
section IS
variable {mt : List MDat} {lawq : Bool} {p : Program} {l : Launch} {e : Env} {R : Room} {s : State} {m : MethodId} {args : Array Value} {below : List Frame} {meth : Method} {c : Code} {cells slots : Nat} {Q : State → Prop} {cc : ByteArray} {nL : Nat} {own : String} {ad : Nat → Nat} {G : ClassId × (ClassId × ClassId)} {dC : Nat → ClassId} {dI : Nat → Nat → Nat} {A : Nat → Prop} {sc : Int → Int} {sl : Int} {d : Nat}
theorem is_back {h : AH} {H : Heap} {locs : List Loc} {pc : Nat} {ls : Array Slot} {st0 rest : List Value} {K : AK} {a : Array Value} (hD : va_D A (wl ad G h)) (hS : va_S A s.heap H locs) (hA : ∀ q, s.heap.size ≤ q → A q)
    (hr : va_Run p l e R s m args below meth c H locs cells slots 0 0 (F0 m pc ls st0) rest (QQ ad G dC dI K (va_A (wl ad G h) H.size) a) (va_A (wl ad G h) H.size))
    (kk : ∀ (r : Option AV) (h' : AH) (H1 : Heap) (locs1 : List Loc), K r h' → hOK h' → (∀ v, r = some v → vOK v) → va_P (dC, dI) vwCl (wl ad G h') H1 → va_D A (wl ad G h') → va_S A s.heap H1 locs1 → W p l e R s m args below meth c H1 locs1 cells slots Q (F0 m (pc + 3) ls ((r.map (cv ad)).toList ++ rest))) : W p l e R s m args below meth c H locs cells slots Q (F0 m pc ls st0) := by
  have hA1 : ∀ q, va_A (wl ad G h) H.size q → A q := fun q hq => wl_A hD (fun q h2 => hA q (Nat.le_trans hS.1 h2)) hq
  intro T hT X
  obtain ⟨v, st₀, t, T', L, h0, X', hL, e1, e2, ⟨⟨r, h', hv, hK, hh, hvo, hP', hK', hD'⟩, hz, hk⟩, st⟩ := hr T hT X
  cases hv
  rw [h0] at hz hk
  obtain ⟨t2, a1, b1⟩ := kk r h' T'.heap (locs ++ L) hK hh hvo (by rw [e1]; exact hP') (wl_D hD)
    ⟨Nat.le_trans hS.1 (by rw [e1]; exact hz), fun q h1 h2 => by rw [e1, hk q (Nat.lt_of_lt_of_le h1 hS.1) (fun z => h2 (hA1 q z))]; exact hS.2.1 q h1 h2, fun q hq => by
      rcases List.mem_append.mp hq with h | h
      · exact hS.2.2 q h
      · exact hA1 _ (hL q h)⟩ T' rfl X'
  exact ⟨t2, st t2 a1, b1⟩
theorem XT.at (F : FX lawq p R s m args c cells slots cc nL own ad G dC dI A sc sl d) {h : AH} {H : Heap} {locs : List Loc} {U : State} (hD : va_D A (wl ad G h)) (hS : va_S A s.heap H locs) (hU : U.heap = H) (hW : s.WarmedH U.vm) : XT ad (va_A (wl ad G h) H.size) U U.heap := by
  obtain ⟨-, -, -, -, -, -, hX, hA, -⟩ := F
  rw [hU]
  exact ((hX.kept (fun a h1 h2 => hS.2.1 a h1 h2)).narrow (fun q hq => wl_A hD (fun q h2 => hA q (Nat.le_trans hS.1 h2)) hq)).moved hW
theorem okM_1 {q : MDat} (h : okM mt q = true) : (Cond.code (mdN q) (mdB q) (mdL q) (mdR q)) ∈ tb ∧ (Cond.initialized (mdN q).cls) ∈ tb ∧ (mdS q = true → (Cond.static (mdN q)) ∈ tb) ∧ (mdS q = false → (Cond.instanceMethod (mdN q)) ∈ tb ∧ (Cond.selects (mdN q).cls (mdN q) (mdN q)) ∈ tb) := by
  unfold okM at h
  rw [Bool.and_eq_true] at h
  obtain ⟨h, -⟩ := h
  split at h
  · next a b c d _ _ =>
    simp only [Bool.and_eq_true, okW, decide_eq_true_eq] at h
    obtain ⟨⟨h1, h2⟩, ⟨h3, h4⟩, ⟨h5, h6⟩, h7⟩ := h
    refine ⟨tb_mem h1 h2, tb_mem h5 h6, fun hs => ?_, fun hs => ?_⟩
    · rw [if_pos hs] at h3 h4; exact tb_mem h3 h4
    · rw [if_neg (by simp [hs])] at h3 h4
      rw [hs] at h7
      simp only [Bool.false_or, Bool.and_eq_true, decide_eq_true_eq] at h7
      exact ⟨tb_mem h3 h4, tb_mem h7.1 h7.2⟩
  · cases h
theorem okM_2 {q : MDat} (h : okM mt q = true) : ((mdN q).cls ≠ "java/lang/invoke/MethodHandle" ∧ (mdN q).cls ≠ "java/lang/invoke/VarHandle") ∧ (parseMethodDescriptor (mdN q).desc).map (fun d => d.parameters.length) = some (mdP q) ∧ plainName (mdN q).cls = true ∧ mdL q ≤ 45 ∧ (∃ b, (mdK q)[0]? = some b ∧ b.1 = 0) ∧ (mdS q = false → (mdC q = 20 ∧ (mdN q).cls = "java/lang/String") ∨ (mdC q < 7 ∧ ∃ T N, vwCl[mdC q]? = some ((mdN q).cls, T, N))) ∧ ∀ b ∈ mdK q, okB mt false (mdL q) (mdN q).cls (mdB q) (mdK q) (mdR q) b.1 b.2.2 = true := by
  unfold okM at h
  simp only [Bool.and_eq_true, decide_eq_true_eq] at h
  obtain ⟨-, h1, h2, h3, h4, h5, h6, h7, h8⟩ := h
  refine ⟨⟨h1, h2⟩, h3, h4, h5, ?_, fun hs => ?_, fun b hb => List.all_eq_true.mp h8 b hb⟩
  · split at h6
    · next b hb => exact ⟨b, hb, by simpa using h6⟩
    · cases h6
  · rw [hs] at h7
    simp only [Bool.false_or] at h7
    split at h7
    · next hq => exact Or.inl ⟨hq, by simpa using h7⟩
    · split at h7
      · next v hv =>
        simp only [Bool.and_eq_true, decide_eq_true_eq] at h7
        obtain ⟨C, T, N⟩ := v
        exact Or.inr ⟨h7.2, T, N, by rw [hv]; simp only at h7; rw [h7.1]⟩
      · cases h7
theorem pay_tb (F : FX lawq p R s m args c cells slots cc nL own ad G dC dI A sc sl d) {q : MDat} (hq : (Cond.code (mdN q) (mdB q) (mdL q) (mdR q)) ∈ tb) : ∀ w ∈ wsy q, ∀ (a' : Array Value) (U : State), s.WarmedH U.vm → w.before a' U = true := by
  refine pay_in F.2.2.2.2.1 (fun w hw => ?_)
  rcases List.mem_cons.mp hw with rfl | hw
  · exact ⟨hq, good_of_word (tb_good hq)⟩
  · exact ⟨hw, good_of_word (tb_good hw)⟩
theorem is_callS (F : FX lawq p R s m args c cells slots cc nL own ad G dC dI A sc sl d) {q : MDat} (hq : okM mt q = true) (hst : mdS q = true) {h : AH} {H : Heap} {locs : List Loc} {idx nest pos pc : Nat} {ls : Array Slot} {as st : List AV} {K : AK}
    (hn : as.length = mdP q) (hlink : okL own idx nest pos (mdN q) = true)
    (hM : Met l (mdN q) (wsy q) (rmd d) (va_Pc (as.map (cv ad)) (PB ad G dC dI h H.size)) (QQ ad G dC dI K (va_A (wl ad G h) H.size)) 0 0 (va_A (wl ad G h) H.size))
    (hP : va_P (dC, dI) vwCl (wl ad G h) H) (hD : va_D A (wl ad G h)) (hS : va_S A s.heap H locs) (hls : ls.size = nL) (hcat : catS st ≤ 8) (hdg : decode cc pc = .ok (.invokestatic idx, 3)) :
    va_Run p l e R s m args below meth c H locs cells slots 0 0 (F0 m pc ls ((as.reverse ++ st).map (cv ad))) (st.map (cv ad)) (QQ ad G dC dI K (va_A (wl ad G h) H.size) (as.map (cv ad)).toArray) (va_A (wl ad G h) H.size) := by
  obtain ⟨w1, w2, w3, -⟩ := okM_1 hq
  obtain ⟨g1, g2, g3, g4, -⟩ := okM_2 hq
  have hpay := pay_tb F w1
  have hXT := fun (U : State) (hU : U.heap = H) (hW : s.WarmedH U.vm) => XT.at F (U := U) hD hS hU hW
  obtain ⟨hx, hb, hml, hown, hts, hK, hXs, -, hR, -⟩ := F
  have hpre : PreS s H (va_Pc (as.map (cv ad)) (PB ad G dC dI h H.size)) (as.map (cv ad)) := ⟨PB_blind, fun U hU hW => ⟨rfl, by rw [hU], by rw [hU]; exact hP, va_K.moved hW.alike hK, hD.weaken (fun _ _ _ _ => trivial), hXT U hU hW⟩⟩
  have hpn : ∀ sig, parseMethodDescriptor (mdN q).desc = some sig → mdP q = sig.parameters.length := fun sig hsig => by rw [hsig] at g2; exact (Option.some.inj g2).symm
  have hlo : 8 + (mdL q + 11) + (rmd d).locals ≤ R.locals := by show 8 + (mdL q + 11) + 64 * d ≤ R.locals; omega
  have hstk : ((as.reverse ++ st).map (cv ad)) = (as.map (cv ad)).reverse ++ st.map (cv ad) := by simp
  by_cases hnz : nest = 0
  · rw [okL, if_pos hnz] at hlink
    simp only [okW, Bool.and_eq_true, decide_eq_true_eq] at hlink
    have hw := tb_mem hlink.1 hlink.2
    exact va_runS ⟨hx, hb, hml, hown, hts⟩ hM ⟨⟨rfl, rfl, hR.1, hlo, hpay, List.mem_cons_self, hts _ w1, hts _ w2, g1, hpn, hts _ hw⟩, hts _ (w3 hst)⟩ hpre rfl (by simpa using hn) hls hstk (lv_room (by rw [catS_eq]; exact hcat)) hdg ⟨hR.2.2.1, hR.2.2.2⟩
  · rw [okL, if_neg hnz] at hlink
    simp only [okN, Bool.and_eq_true, decide_eq_true_eq] at hlink
    have hw := (hXs.2.2.2.2 _ (tn_mem hlink.1 hlink.2)).use (A := args) rfl
    exact va_runSN ⟨hx, hb, hml, hown, hts⟩ hM ⟨⟨⟨rfl, rfl, hR.1, hlo, hpay, List.mem_cons_self⟩, hts _ w1, hts _ w2, g1, hpn, hw⟩, hts _ (w3 hst), trivial⟩ hpre rfl (by simpa using hn) hls hstk (lv_room (by rw [catS_eq]; exact hcat)) hdg ⟨hR.2.2.1, hR.2.2.2⟩
theorem is_callV (F : FX lawq p R s m args c cells slots cc nL own ad G dC dI A sc sl d) {q : MDat} (hq : okM mt q = true) (hst : mdS q = false) {h : AH} {H : Heap} {locs : List Loc} {idx nest pos pc : Nat} {ls : Array Slot} {as st : List AV} {K : AK} (hrc : rcv (mdC q) as)
    (hn : as.length = mdP q + 1) (hlink : okL own idx nest pos (mdN q) = true)
    (hM : Met l (mdN q) (wsy q) (rmd d) (va_Pc (as.map (cv ad)) (PB ad G dC dI h H.size)) (QQ ad G dC dI K (va_A (wl ad G h) H.size)) 0 0 (va_A (wl ad G h) H.size))
    (hP : va_P (dC, dI) vwCl (wl ad G h) H) (hD : va_D A (wl ad G h)) (hS : va_S A s.heap H locs) (hls : ls.size = nL) (hcat : catS st ≤ 8) (hdg : decode cc pc = .ok (.invokevirtual idx, 3)) :
    va_Run p l e R s m args below meth c H locs cells slots 0 0 (F0 m pc ls ((as.reverse ++ st).map (cv ad))) (st.map (cv ad)) (QQ ad G dC dI K (va_A (wl ad G h) H.size) (as.map (cv ad)).toArray) (va_A (wl ad G h) H.size) := by
  obtain ⟨w1, w2, -, w3⟩ := okM_1 hq
  obtain ⟨w3, w4⟩ := w3 hst
  obtain ⟨g1, g2, g3, g4, -, g5, -⟩ := okM_2 hq
  have hpay := pay_tb F w1
  have hXT := fun (U : State) (hU : U.heap = H) (hW : s.WarmedH U.vm) => XT.at F (U := U) hD hS hU hW
  obtain ⟨hx, hb, hml, hown, hts, hK, hXs, hA, hR, -⟩ := F
  obtain ⟨a, as', rfl⟩ : ∃ a as', as = .inr (.inr (some a)) :: as' := by
    unfold rcv at hrc
    split at hrc
    · exact ⟨_, _, rfl⟩
    · exact hrc.elim
  have hsh : (shA a).1 = mdC q := hrc
  have hcell : ∃ cellB : Cell, H[ad a]? = some cellB ∧ cellB.vm.isStatics = false ∧ s.vm.findClass (mdN q).cls = some cellB.cls := by
    rcases g5 hst with ⟨hc, hcl⟩ | ⟨hc, T, N, hcl⟩
    · rw [hcl]
      have ha : ∃ i, i < 6 ∧ a = 200 + i := by
        rw [hc] at hsh
        unfold shA at hsh
        by_cases h1 : a < 100
        · rw [if_pos h1] at hsh
          exfalso
          have : ∀ a : Fin 100, ¬ ((shT[a.val]?).getD (99, 0)).1 = 20 := by decide +kernel
          exact this ⟨a, h1⟩ hsh
        · rw [if_neg h1] at hsh
          by_cases h2 : 200 ≤ a ∧ a < 206
          · exact ⟨a - 200, by omega, by omega⟩
          · rw [if_neg h2] at hsh
            by_cases h3 : 220 ≤ a ∧ a < 226
            · rw [if_pos h3] at hsh; simp at hsh
            · rw [if_neg h3] at hsh
              by_cases h4 : a = 300
              · rw [if_pos h4] at hsh; simp at hsh
              · rw [if_neg h4] at hsh; simp at hsh
      obtain ⟨i, hi, rfl⟩ := ha
      exact vk_recv (adK := fun i => ad (200 + i)) (i := i) hXs.1 hi hS
    · have hget := wl_get (ad := ad) (G := G) (h := h) (shA_lt hsh (by omega))
      rw [cellO hsh hc] at hget
      exact va_recv hK hP hcl hget
  have hpre : PreV s H (mdN q).cls (ad a) (va_Pc ((.inr (.inr (some a)) :: as').map (cv ad)) (PB ad G dC dI h H.size)) (as'.map (cv ad)) := ⟨PB_blind, hcell, fun U hU hW => ⟨rfl, by rw [hU], by rw [hU]; exact hP, va_K.moved hW.alike hK, hD.weaken (fun _ _ _ _ => trivial), hXT U hU hW⟩⟩
  have hpn : ∀ sig, parseMethodDescriptor (mdN q).desc = some sig → mdP q = sig.parameters.length := fun sig hsig => by rw [hsig] at g2; exact (Option.some.inj g2).symm
  have hlo : 8 + (mdL q + 11) + (rmd d).locals ≤ R.locals := by show 8 + (mdL q + 11) + 64 * d ≤ R.locals; omega
  have hstk : ((((.inr (.inr (some a)) :: as' : List AV)).reverse ++ st).map (cv ad)) = (as'.map (cv ad)).reverse ++ .ref (ad a) :: st.map (cv ad) := by simp [cv]
  by_cases hnz : nest = 0
  · rw [okL, if_pos hnz] at hlink
    simp only [okW, Bool.and_eq_true, decide_eq_true_eq] at hlink
    have hw := tb_mem hlink.1 hlink.2
    exact va_runV ⟨hx, hb, hml, hown, hts⟩ hM ⟨⟨rfl, rfl, hR.1, hlo, hpay, List.mem_cons_self, hts _ w1, hts _ w2, g1, hpn, hts _ hw⟩, hts _ w3, hts _ w4⟩ hpre rfl (by simpa using hn) hls hstk (lv_room (by rw [catS_eq]; exact hcat)) hdg ⟨hR.2.2.1, hR.2.2.2⟩
  · rw [okL, if_neg hnz] at hlink
    simp only [okN, Bool.and_eq_true, decide_eq_true_eq] at hlink
    have hw := (hXs.2.2.2.2 _ (tn_mem hlink.1 hlink.2)).use (A := args) rfl
    exact va_runVN ⟨hx, hb, hml, hown, hts⟩ hM ⟨⟨⟨rfl, rfl, hR.1, hlo, hpay, List.mem_cons_self⟩, hts _ w1, hts _ w2, g1, hpn, hw⟩, hts _ w3, hts _ w4⟩ hpre rfl (by simpa using hn) hls hstk (lv_room (by rw [catS_eq]; exact hcat)) hdg ⟨hR.2.2.1, hR.2.2.2⟩
end IS
end
section
/-! ===== one instruction ===== -/
theorem vOK_c (k : Nat) (h : k ≤ 2147483647) : vOK (.inl (k : Int)) := ⟨by omega, by omega⟩
theorem mx_t1 : (Cond.static Lib.Math.max.name) ∈ tb ∧ (Cond.static Lib.Math.min.name) ∈ tb ∧ (Cond.initialized "java/lang/Math") ∈ tb ∧ (Cond.native arraycopyName) ∈ tb ∧ (Cond.static arraycopyName) ∈ tb ∧ (Cond.initialized "java/lang/System") ∈ tb := by decide +kernel
theorem mx_cmin : (Cond.code Lib.Math.min.name Lib.Math.min.code 2 (some .int)) ∈ tb := tb_mem (pos := 465) (by decide +kernel) (by decide +kernel)
theorem mx_cmax : (Cond.code Lib.Math.max.name Lib.Math.max.code 2 (some .int)) ∈ tb := tb_mem (pos := 475) (by decide +kernel) (by decide +kernel)
theorem nfw : nativeFrameWords "java/lang/System" "arraycopy" 5 ≤ 40 := by decide +kernel
theorem mx_code (i : Nat) {w : Cond} (h : lw_tbl[i]? = some w) (hg : goodWord w = true) : w ∈ tb := tb_mem h hg
theorem bi_c (n : Int) (h0 : -128 ≤ n) (h1 : n < 128) : (Int8.ofInt n).toInt32 = Int32.ofInt n := by
  apply Int32.toInt_inj.mp
  rw [Int8.toInt_toInt32, Int8.toInt_ofInt_of_le (by omega) (by omega), am_t ⟨by omega, by omega⟩]
theorem si_c (n : Int) (h0 : -32768 ≤ n) (h1 : n < 32768) : (Int16.ofInt n).toInt32 = Int32.ofInt n := by
  apply Int32.toInt_inj.mp
  rw [Int16.toInt_toInt32, Int16.toInt_ofInt_of_le (by omega) (by omega), am_t ⟨by omega, by omega⟩]
theorem sh_lt100 (a : Nat) (h : a < 100) : ((shT[a]?).getD (99, 0)).1 ≠ 20 ∧ ((shT[a]?).getD (99, 0)).1 ≠ 13 ∧ ((shT[a]?).getD (99, 0)).1 ≠ 14 := by
  have : ∀ a : Fin 100, ((shT[a.val]?).getD (99, 0)).1 ≠ 20 ∧ ((shT[a.val]?).getD (99, 0)).1 ≠ 13 ∧ ((shT[a.val]?).getD (99, 0)).1 ≠ 14 := by decide +kernel
  exact this ⟨a, h⟩
theorem sh_cases {a c n : Nat} (h : shA a = (c, n)) : a < 100 ∨ (200 ≤ a ∧ a < 206 ∧ c = 20) ∨ (220 ≤ a ∧ a < 226 ∧ c = 13 ∧ n = (strS.getD (a - 220) []).length) ∨ (a = 300 ∧ c = 14) ∨ c = 99 := by
  unfold shA at h
  by_cases h1 : a < 100
  · exact Or.inl h1
  · rw [if_neg h1] at h
    by_cases h2 : 200 ≤ a ∧ a < 206
    · rw [if_pos h2] at h; cases h; exact Or.inr (Or.inl ⟨h2.1, h2.2, rfl⟩)
    · rw [if_neg h2] at h
      by_cases h3 : 220 ≤ a ∧ a < 226
      · rw [if_pos h3] at h; cases h; exact Or.inr (Or.inr (Or.inl ⟨h3.1, h3.2, rfl, rfl⟩))
      · rw [if_neg h3] at h
        by_cases h4 : a = 300
        · rw [if_pos h4] at h; cases h; exact Or.inr (Or.inr (Or.inr (Or.inl ⟨h4, rfl⟩)))
        · rw [if_neg h4] at h; cases h; exact Or.inr (Or.inr (Or.inr (Or.inr rfl)))
theorem sh20 {a : Nat} (h : (shA a).1 = 20) : ∃ i, i < 6 ∧ a = 200 + i := by
  have e : shA a = (20, (shA a).2) := by rw [← h]
  rcases sh_cases e with q | ⟨q1, q2, -⟩ | ⟨-, -, q, -⟩ | ⟨-, q⟩ | q
  · have := (sh_lt100 a q).1
    unfold shA at h; rw [if_pos q] at h; exact absurd h this
  · exact ⟨a - 200, by omega, by omega⟩
  · omega
  · omega
  · omega
theorem sh13 {a : Nat} (h : (shA a).1 = 13) : ∃ i, i < 6 ∧ a = 220 + i ∧ (shA a).2 = (strS.getD i []).length := by
  have e : shA a = (13, (shA a).2) := by rw [← h]
  rcases sh_cases e with q | ⟨-, -, q⟩ | ⟨q1, q2, -, q3⟩ | ⟨-, q⟩ | q
  · have := (sh_lt100 a q).2.1
    unfold shA at h; rw [if_pos q] at h; exact absurd h this
  · omega
  · exact ⟨a - 220, by omega, by omega, q3⟩
  · omega
  · omega
theorem sh14 {a : Nat} (h : (shA a).1 = 14) : a = 300 := by
  have e : shA a = (14, (shA a).2) := by rw [← h]
  rcases sh_cases e with q | ⟨-, -, q⟩ | ⟨-, -, q, -⟩ | ⟨q, -⟩ | q
  · have := (sh_lt100 a q).2.2
    unfold shA at h; rw [if_pos q] at h; exact absurd h this
  · omega
  · omega
  · exact q
  · omega
theorem strS_ok (j : Nat) (hj : j < 6) (i : Nat) (hi : i < (strS.getD j []).length) : (strS.map List.length).getD j 0 = (strS.getD j []).length ∧ ((strS.map (fun l => l.map Int32.ofInt)).getD j []).getD i 0 = Int32.ofInt ((strS.getD j []).getD i 0) ∧ inI ((strS.getD j []).getD i 0) := by
  have h7 : (strS.getD j []).length ≤ 7 := by
    have : ∀ j : Fin 6, (strS.getD j.val []).length ≤ 7 := by decide +kernel
    exact this ⟨j, hj⟩
  have : ∀ (j : Fin 6) (i : Fin 7), i.val < (strS.getD j.val []).length → (strS.map List.length).getD j.val 0 = (strS.getD j.val []).length ∧ ((strS.map (fun l => l.map Int32.ofInt)).getD j.val []).getD i.val 0 = Int32.ofInt ((strS.getD j.val []).getD i.val 0) ∧ (-2147483648 ≤ (strS.getD j.val []).getD i.val 0 ∧ (strS.getD j.val []).getD i.val 0 ≤ 2147483647) := by decide +kernel
  exact this ⟨j, hj⟩ ⟨i, by omega⟩ hi
theorem strS_len (j : Nat) (hj : j < 6) : inI ((strS.getD j []).length : Int) := by
  have : ∀ j : Fin 6, (strS.getD j.val []).length ≤ 7 := by decide +kernel
  have := this ⟨j, hj⟩
  have h7 : (strS.getD j []).length ≤ 7 := this
  exact ⟨by omega, by omega⟩
theorem strS_l2 (j : Nat) (hj : j < 6) : (strS.map List.length).getD j 0 = (strS.getD j []).length := by
  have : ∀ j : Fin 6, (strS.map List.length).getD j.val 0 = (strS.getD j.val []).length := by decide +kernel
  exact this ⟨j, hj⟩
section IS
variable {mt : List MDat} {lawq : Bool} {p : Program} {l : Launch} {e : Env} {R : Room} {s : State} {m : MethodId} {args : Array Value} {below : List Frame} {meth : Method} {c : Code} {cells slots : Nat} {Q : State → Prop} {cc : ByteArray} {nL : Nat} {own : String} {ad : Nat → Nat} {G : ClassId × (ClassId × ClassId)} {dC : Nat → ClassId} {dI : Nat → Nat → Nat} {A : Nat → Prop} {sc : Int → Int} {sl : Int} {d : Nat}
theorem is_swA {z : Int} {J : Nat → Prop} : ∀ (ts : List Nat) (lo : Int) (i : Nat) (t : Nat), swA z J lo ts → ts[i]? = some t → z = lo + (i : Int) → J t
  | [], lo, i, t, h, ht, hz => by simp at ht
  | t0 :: ts, lo, 0, t, h, ht, hz => by
    simp at ht
    subst ht
    exact h.1 (by omega)
  | t0 :: ts, lo, i + 1, t, h, ht, hz => is_swA ts (lo + 1) i t h.2 (by simpa using ht) (by omega)
theorem okTs_get {bs : List ABlk} {pc : Int} : ∀ (ts : List Nat) (os : List Int) (i : Nat) (o : Int), okTs bs pc ts os = true → os[i]? = some o → ∃ t, ts[i]? = some t ∧ okT bs t (pc + o) = true
  | [], [], i, o, h, ho => by simp at ho
  | [], _ :: _, i, o, h, ho => by cases h
  | _ :: _, [], i, o, h, ho => by cases h
  | t :: ts, o0 :: os, i, o, h, ho => by
    unfold okTs at h
    rw [Bool.and_eq_true] at h
    cases i with
    | zero => simp at ho; subst ho; exact ⟨t, rfl, h.1⟩
    | succ i =>
      obtain ⟨t', a, b⟩ := okTs_get ts os i o h.2 (by simpa using ho)
      exact ⟨t', by simpa using a, b⟩
theorem is_lkA {bs : List ABlk} {pc : Int} {z : Int} {J : Nat → Prop} {d0 : Nat} {dflt : Int} : ∀ (ps : List (Int × Int)) (ts : List Nat), lkA z J d0 ps ts → okT bs d0 (pc + dflt) = true → okTs bs pc ts (ps.map (fun q => q.2)) = true → ∃ t, J t ∧ okT bs t (pc + Op.lookupswitch.offset ps dflt z) = true
  | [], [], h, hd, ht => ⟨d0, h, hd⟩
  | [], _ :: _, h, hd, ht => by simp [okTs] at ht
  | (a, o) :: ps, [], h, hd, ht => h.elim
  | (a, o) :: ps, t :: ts, h, hd, ht => by
    simp only [List.map_cons, okTs, Bool.and_eq_true] at ht
    by_cases hz : z = a
    · refine ⟨t, h.1 hz, ?_⟩
      have : Op.lookupswitch.offset ((a, o) :: ps) dflt z = o := by
        unfold Op.lookupswitch.offset
        simp [hz]
      rw [this]; exact ht.1
    · have : Op.lookupswitch.offset ((a, o) :: ps) dflt z = Op.lookupswitch.offset ps dflt z := by
        conv => lhs; unfold Op.lookupswitch.offset
        simp [hz, Ne.symm hz]
      rw [this]
      exact is_lkA ps ts (h.2 hz) hd ht.2
/-- what a callee gives -/
def TOK (mt : List MDat) (l : Launch) (d : Nat) (T : AT) : Prop := ∀ (id : Nat) (as : List AV) (h : AH) (K : AK), T id as h K → ∀ q, mt[id]? = some q → (mdS q = true ∨ rcv (mdC q) as) ∧ (hOK h → (∀ v ∈ as, vOK v) → ∀ (ad : Nat → Nat) (G : ClassId × (ClassId × ClassId)) (dC : Nat → ClassId) (dI : Nat → Nat → Nat) (sz : Nat), Met l (mdN q) (wsy q) (rmd d) (va_Pc (as.map (cv ad)) (PB ad G dC dI h sz)) (QQ ad G dC dI K (va_A (wl ad G h) sz)) 0 0 (va_A (wl ad G h) sz))
/-- what a block gives -/
def JOK (p : Program) (l : Launch) (e : Env) (R : Room) (s : State) (m : MethodId) (args : Array Value) (below : List Frame) (meth : Method) (c : Code) (cells slots : Nat) (Q : State → Prop) (nL : Nat) (ad : Nat → Nat) (G : ClassId × (ClassId × ClassId)) (dC : Nat → ClassId) (dI : Nat → Nat → Nat) (A : Nat → Prop) (bs : List ABlk) (J : AJ) : Prop :=
  ∀ (t : Nat) (q : ABlk) (L : LL) (st : List AV) (h : AH) (H : Heap) (locs : List Loc) (ls : Array Slot), bs[t]? = some q → J t L st h → SS s ad G dC dI A nL ls L st h H locs → W p l e R s m args below meth c H locs cells slots Q (F0 m q.1 ls (st.map (cv ad)))
theorem exS_sound {T : AT} {J : AJ} {K : AK} {bs : List ABlk} {rt : Option FieldType} (F : FX lawq p R s m args c cells slots cc nL own ad G dC dI A sc sl d) (hmt : ∀ (id : Nat) (q : MDat), mt[id]? = some q → okM mt q = true) (hT : TOK mt l d T)
    (hJ : JOK p l e R s m args below meth c cells slots Q nL ad G dC dI A bs J)
    (hRet : ∀ (i : Instr) (x : List Nat) (pc : Nat) (r : Option AV) (h : AH) (H : Heap) (locs : List Loc) (ls : Array Slot), decode cc pc = .ok (i, 1) → okI mt lawq nL own bs rt pc i x = true → isRet i x r → K r h → (∀ v, r = some v → vOK v) → hOK h → va_P (dC, dI) vwCl (wl ad G h) H → va_D A (wl ad G h) → va_S A s.heap H locs → W p l e R s m args below meth c H locs cells slots Q (F0 m pc ls (r.toList.map (cv ad))))
    {i : Instr} {x : List Nat} {pc : Nat} {L : LL} {st : List AV} {h : AH} {k : LL → List AV → AH → Prop} {H : Heap} {locs : List Loc} {ls : Array Slot} (hd : okD cc pc i = true) (hok : okI mt lawq nL own bs rt pc i x = true) (S : SS s ad G dC dI A nL ls L st h H locs)
    (hk : ∀ (L' : LL) (st' : List AV) (h' : AH) (H' : Heap) (locs' : List Loc) (ls' : Array Slot), k L' st' h' → SS s ad G dC dI A nL ls' L' st' h' H' locs' → W p l e R s m args below meth c H' locs' cells slots Q (F0 m (pc + ilen i) ls' (st'.map (cv ad))))
    (he : exS sc sl T J K i x L st h k) : W p l e R s m args below meth c H locs cells slots Q (F0 m pc ls (st.map (cv ad))) := by
  have F' := F
  obtain ⟨hx, hb, hml, hown, hts, hK, hXT, hA, hRm, hlaw⟩ := F'
  obtain ⟨sL, sS, sV, sH, sP, sD, sG⟩ := S
  cases i with
  | nop =>
    dsimp only [exS] at he
    split at he
    · next t _ =>
      obtain ⟨q, h1, h2⟩ := okT_pc hok
      have := hJ t q L st h H locs ls h1 he ⟨sL, sS, sV, sH, sP, sD, sG⟩
      rw [show q.1 = pc by omega] at this
      exact this
    · exact he.elim
  | iconst n =>
    simp only [okI, Bool.and_eq_true, decide_eq_true_eq] at hok
    exact lv_iconst hx hb (okD_1 hd) rfl (hk L _ h H locs ls he ⟨sL, vOK_cons ⟨by omega, by omega⟩ sS, sV, sH, sP, sD, sG⟩)
  | bipush n =>
    simp only [okI, Bool.and_eq_true, decide_eq_true_eq] at hok
    exact lv_bipush hx hb (okD_1 hd) (bi_c n hok.1 hok.2) (hk L _ h H locs ls he ⟨sL, vOK_cons ⟨by omega, by omega⟩ sS, sV, sH, sP, sD, sG⟩)
  | sipush n =>
    simp only [okI, Bool.and_eq_true, decide_eq_true_eq] at hok
    exact lv_sipush hx hb (okD_1 hd) (si_c n hok.1 hok.2) (hk L _ h H locs ls he ⟨sL, vOK_cons ⟨by omega, by omega⟩ sS, sV, sH, sP, sD, sG⟩)
  | lconst n =>
    refine lv_lconst hx hb (okD_1 hd) (am_Nat n.val).symm (hk L _ h H locs ls he ⟨sL, vOK_cons ⟨by omega, by omega⟩ sS, sV, sH, sP, sD, sG⟩)
  | iadd =>
    dsimp only [exS] at he
    split at he
    · next y z st =>
      obtain ⟨vy, sS⟩ := vOK_st sS
      obtain ⟨vz, sS⟩ := vOK_st sS
      split at he
      · refine lv_iadd hx hb (okD_1 hd) ?_
        rw [am_add]
        exact hk L _ h H locs ls he.2 ⟨sL, vOK_cons he.1 sS, sV, sH, sP, sD, sG⟩
      · refine lv_iadd hx hb (okD_1 hd) ?_
        rw [am_add, ← am_wrap]
        exact hk L _ h H locs ls he ⟨sL, vOK_cons (am_wrapI _) sS, sV, sH, sP, sD, sG⟩
    · exact he.elim
  | ldc idx =>
    dsimp only [exS] at he
    split at he
    · next a b tl =>
      cases tl with
      | nil => cases hok
      | cons pos tl =>
      simp only [okI, Bool.and_eq_true, decide_eq_true_eq, okW] at hok
      exact lv_ldc hx hb hown (hts _ (tb_mem hok.2.2.1 hok.2.2.2)) (okD_1 hd) (hk L _ h H locs ls he ⟨sL, vOK_cons ⟨by omega, by omega⟩ sS, sV, sH, sP, sD, sG⟩)
    · next q =>
      simp only [okI, Bool.and_eq_true, decide_eq_true_eq] at hok
      obtain ⟨ho, hq, rfl⟩ := hok
      subst ho
      exact va_ldcS hx hb hown (hXT.2.2.2.1 q hq) (okD_1 hd) (hk L _ h H locs ls he ⟨sL, vOK_cons trivial sS, sV, sH, sP, sD, sG⟩)
    · exact he.elim
  | ldc_w idx =>
    dsimp only [exS] at he
    split at he
    · next a b tl =>
      cases tl with
      | nil => cases hok
      | cons pos tl =>
      simp only [okI, Bool.and_eq_true, decide_eq_true_eq, okW] at hok
      exact lv_ldcw hx hb hown (hts _ (tb_mem hok.2.2.1 hok.2.2.2)) (okD_1 hd) (hk L _ h H locs ls he ⟨sL, vOK_cons ⟨by omega, by omega⟩ sS, sV, sH, sP, sD, sG⟩)
    · exact he.elim
  | ldc2_w idx =>
    dsimp only [exS] at he
    split at he
    · next a b tl =>
      cases tl with
      | nil => cases hok
      | cons pos tl =>
      simp only [okI, Bool.and_eq_true, decide_eq_true_eq, okW] at hok
      exact lv_ldc2 hx hb hown (hts _ (tb_mem hok.2.2.1 hok.2.2.2)) (okD_1 hd) (hk L _ h H locs ls he ⟨sL, vOK_cons ⟨by omega, by omega⟩ sS, sV, sH, sP, sD, sG⟩)
    · exact he.elim
  | iload_n n =>
    dsimp only [exS] at he
    obtain ⟨z, hz, he⟩ := lk_0 he
    exact lv_iload_n hx hb (okD_1 hd) rfl (sL.2.2 _ _ hz) (hk L _ h H locs ls he ⟨sL, vOK_cons (sV _ _ hz) sS, sV, sH, sP, sD, sG⟩)
  | iload n =>
    dsimp only [exS] at he
    obtain ⟨z, hz, he⟩ := lk_0 he
    exact lv_iload hx hb (okD_1 hd) (sL.2.2 _ _ hz) (hk L _ h H locs ls he ⟨sL, vOK_cons (sV _ _ hz) sS, sV, sH, sP, sD, sG⟩)
  | lload_n n =>
    dsimp only [exS] at he
    obtain ⟨z, hz, he⟩ := lk_1 he
    exact lv_lload_n hx hb (okD_1 hd) rfl (sL.2.2 _ _ hz) (hk L _ h H locs ls he ⟨sL, vOK_cons (sV _ _ hz) sS, sV, sH, sP, sD, sG⟩)
  | lload n =>
    dsimp only [exS] at he
    obtain ⟨z, hz, he⟩ := lk_1 he
    exact lv_lload hx hb (okD_1 hd) (sL.2.2 _ _ hz) (hk L _ h H locs ls he ⟨sL, vOK_cons (sV _ _ hz) sS, sV, sH, sP, sD, sG⟩)
  | aload_n n =>
    dsimp only [exS] at he
    obtain ⟨z, hz, he⟩ := lk_2 he
    exact lv_aload_n hx hb (okD_1 hd) rfl (sL.2.2 _ _ hz) (hk L _ h H locs ls he ⟨sL, vOK_cons (sV _ _ hz) sS, sV, sH, sP, sD, sG⟩)
  | aload n =>
    dsimp only [exS] at he
    obtain ⟨z, hz, he⟩ := lk_2 he
    exact lv_aload hx hb (okD_1 hd) (sL.2.2 _ _ hz) (hk L _ h H locs ls he ⟨sL, vOK_cons (sV _ _ hz) sS, sV, sH, sP, sD, sG⟩)
  | istore_n n =>
    simp only [okI, decide_eq_true_eq] at hok
    dsimp only [exS] at he
    split at he
    · next z st =>
      obtain ⟨vz, sS⟩ := vOK_st sS
      exact lv_istore_n hx hb (okD_1 hd) rfl sL.has hok rfl (fun ls' hl' => hk _ _ h H locs ls' he ⟨LH.set (ls := ls) hl', sS, LOK.set sV vz, sH, sP, sD, sG⟩)
    · exact he.elim
  | istore n =>
    simp only [okI, decide_eq_true_eq] at hok
    dsimp only [exS] at he
    split at he
    · next z st =>
      obtain ⟨vz, sS⟩ := vOK_st sS
      exact lv_istore hx hb (okD_1 hd) sL.has hok rfl (fun ls' hl' => hk _ _ h H locs ls' he ⟨LH.set (ls := ls) hl', sS, LOK.set sV vz, sH, sP, sD, sG⟩)
    · exact he.elim
  | lstore_n n =>
    simp only [okI, decide_eq_true_eq] at hok
    dsimp only [exS] at he
    split at he
    · next z st =>
      obtain ⟨vz, sS⟩ := vOK_st sS
      exact lv_lstore_n hx hb (okD_1 hd) rfl sL.has hok rfl (fun ls' hl' => hk _ _ h H locs ls' he ⟨LH.set2 (ls := ls) hl', sS, LOK.set2 sV vz, sH, sP, sD, sG⟩)
    · exact he.elim
  | lstore n =>
    simp only [okI, decide_eq_true_eq] at hok
    dsimp only [exS] at he
    split at he
    · next z st =>
      obtain ⟨vz, sS⟩ := vOK_st sS
      exact lv_lstore hx hb (okD_1 hd) sL.has hok rfl (fun ls' hl' => hk _ _ h H locs ls' he ⟨LH.set2 (ls := ls) hl', sS, LOK.set2 sV vz, sH, sP, sD, sG⟩)
    · exact he.elim
  | astore_n n =>
    simp only [okI, decide_eq_true_eq] at hok
    dsimp only [exS] at he
    split at he
    · next z st =>
      obtain ⟨vz, sS⟩ := vOK_st sS
      exact lv_astore_n hx hb (okD_1 hd) rfl sL.has hok rfl (fun ls' hl' => hk _ _ h H locs ls' he ⟨LH.set (ls := ls) hl', sS, LOK.set sV vz, sH, sP, sD, sG⟩)
    · exact he.elim
  | astore n =>
    simp only [okI, decide_eq_true_eq] at hok
    dsimp only [exS] at he
    split at he
    · next z st =>
      obtain ⟨vz, sS⟩ := vOK_st sS
      exact lv_astore hx hb (okD_1 hd) sL.has hok rfl (fun ls' hl' => hk _ _ h H locs ls' he ⟨LH.set (ls := ls) hl', sS, LOK.set sV vz, sH, sP, sD, sG⟩)
    · exact he.elim
  | iinc n c =>
    simp only [okI, decide_eq_true_eq] at hok
    dsimp only [exS] at he
    obtain ⟨z, hz, he⟩ := lk_0 he
    have hm := List.getElem?_of_mem (lvOf_mem (ad := ad) hz)
    obtain ⟨j, hj⟩ := hm
    exact lv_iinc hx hb (okD_1 hd) sL.has hj (am_add _ _) hok rfl (fun ls' hl' => hk _ _ h H locs ls' he.2 ⟨LH.set (ls := ls) (v := .inl (z + c)) hl', sS, LOK.set sV (v := .inl (z + c)) he.1, sH, sP, sD, sG⟩)
  | isub =>
    dsimp only [exS] at he
    split at he
    · next y z st =>
      obtain ⟨vy, sS⟩ := vOK_st sS
      obtain ⟨vz, sS⟩ := vOK_st sS
      refine lv_isub hx hb (okD_1 hd) ?_
      rw [am_sub]
      exact hk L _ h H locs ls he.2 ⟨sL, vOK_cons he.1 sS, sV, sH, sP, sD, sG⟩
    · exact he.elim
  | imul =>
    dsimp only [exS] at he
    split at he
    · next y z st =>
      obtain ⟨vy, sS⟩ := vOK_st sS
      obtain ⟨vz, sS⟩ := vOK_st sS
      split at he
      · refine lv_imul hx hb (okD_1 hd) ?_
        rw [am_mul]
        exact hk L _ h H locs ls he.2 ⟨sL, vOK_cons he.1 sS, sV, sH, sP, sD, sG⟩
      · refine lv_imul hx hb (okD_1 hd) ?_
        rw [am_mul, ← am_wrap]
        exact hk L _ h H locs ls he ⟨sL, vOK_cons (am_wrapI _) sS, sV, sH, sP, sD, sG⟩
    · exact he.elim
  | idiv =>
    dsimp only [exS] at he
    split at he
    · next y z st =>
      obtain ⟨vy, sS⟩ := vOK_st sS
      obtain ⟨vz, sS⟩ := vOK_st sS
      refine lv_idiv hx hb (okD_1 hd) (am_ne0 vy he.2.1) ?_
      rw [am_div vz vy he.1 he.2.1]
      exact hk L _ h H locs ls he.2.2 ⟨sL, vOK_cons (am_divI vz he.1 he.2.1) sS, sV, sH, sP, sD, sG⟩
    · exact he.elim
  | irem =>
    dsimp only [exS] at he
    split at he
    · next y z st =>
      obtain ⟨vy, sS⟩ := vOK_st sS
      obtain ⟨vz, sS⟩ := vOK_st sS
      refine lv_irem hx hb (okD_1 hd) (am_ne0 vy he.2.1) ?_
      rw [am_rem vz vy he.1 he.2.1]
      exact hk L _ h H locs ls he.2.2 ⟨sL, vOK_cons (am_modI vy he.2.1) sS, sV, sH, sP, sD, sG⟩
    · exact he.elim
  | ineg =>
    dsimp only [exS] at he
    split at he
    · next z st =>
      obtain ⟨vz, sS⟩ := vOK_st sS
      refine lv_ineg hx hb (okD_1 hd) ?_
      rw [am_neg]
      exact hk L _ h H locs ls he.2 ⟨sL, vOK_cons he.1 sS, sV, sH, sP, sD, sG⟩
    · exact he.elim
  | iand =>
    dsimp only [exS] at he
    split at he
    · next y z st =>
      obtain ⟨vy, sS⟩ := vOK_st sS
      obtain ⟨vz, sS⟩ := vOK_st sS
      split at he
      · refine lv_iand hx hb (okD_1 hd) ?_
        rw [am_and he.1 he.2.1]
        exact hk L _ h H locs ls he.2.2 ⟨sL, vOK_cons (am_lti (am_bnd _ _ (am_nlt vz he.1) (am_nlt vy he.2.1)).1) sS, sV, sH, sP, sD, sG⟩
      · refine lv_iand hx hb (okD_1 hd) ?_
        rw [he.1, am_mask]
        exact hk L _ h H locs ls he.2 ⟨sL, vOK_cons ⟨by omega, by omega⟩ sS, sV, sH, sP, sD, sG⟩
    · exact he.elim
  | ior =>
    dsimp only [exS] at he
    split at he
    · next y z st =>
      obtain ⟨vy, sS⟩ := vOK_st sS
      obtain ⟨vz, sS⟩ := vOK_st sS
      refine lv_ior hx hb (okD_1 hd) ?_
      rw [am_or he.1 he.2.1]
      exact hk L _ h H locs ls he.2.2 ⟨sL, vOK_cons (am_lti (am_bnd _ _ (am_nlt vz he.1) (am_nlt vy he.2.1)).2.1) sS, sV, sH, sP, sD, sG⟩
    · exact he.elim
  | ixor =>
    dsimp only [exS] at he
    split at he
    · next y z st =>
      obtain ⟨vy, sS⟩ := vOK_st sS
      obtain ⟨vz, sS⟩ := vOK_st sS
      refine lv_ixor hx hb (okD_1 hd) ?_
      rw [am_xor he.1 he.2.1]
      exact hk L _ h H locs ls he.2.2 ⟨sL, vOK_cons (am_lti (am_bnd _ _ (am_nlt vz he.1) (am_nlt vy he.2.1)).2.2) sS, sV, sH, sP, sD, sG⟩
    · exact he.elim
  | ishl =>
    dsimp only [exS] at he
    split at he
    · next y z st =>
      obtain ⟨vy, sS⟩ := vOK_st sS
      obtain ⟨vz, sS⟩ := vOK_st sS
      refine lv_ishl hx hb (okD_1 hd) ?_
      rw [am_shl he.1 he.2.1 he.2.2.1 he.2.2.2.1]
      exact hk L _ h H locs ls he.2.2.2.2 ⟨sL, vOK_cons he.2.2.2.1 sS, sV, sH, sP, sD, sG⟩
    · exact he.elim
  | ishr =>
    dsimp only [exS] at he
    split at he
    · next y z st =>
      obtain ⟨vy, sS⟩ := vOK_st sS
      obtain ⟨vz, sS⟩ := vOK_st sS
      refine lv_ishr hx hb (okD_1 hd) ?_
      rw [am_shr vz he.1 he.2.1 he.2.2.1]
      exact hk L _ h H locs ls he.2.2.2 ⟨sL, vOK_cons (am_shrI vz he.1) sS, sV, sH, sP, sD, sG⟩
    · exact he.elim
  | iushr =>
    dsimp only [exS] at he
    split at he
    · next y z st =>
      obtain ⟨vy, sS⟩ := vOK_st sS
      obtain ⟨vz, sS⟩ := vOK_st sS
      exact lv_iushr hx hb (okD_1 hd) (am_ushr vz he.1 he.2.1 he.2.2.1) (hk L _ h H locs ls he.2.2.2 ⟨sL, vOK_cons (am_shrI vz he.1) sS, sV, sH, sP, sD, sG⟩)
    · exact he.elim
  | lshl =>
    dsimp only [exS] at he
    split at he
    · next y z st =>
      obtain ⟨vy, sS⟩ := vOK_st sS
      obtain ⟨vz, sS⟩ := vOK_st sS
      exact lv_lshl hx hb (okD_1 hd) (am_Shl he.1 he.2.1 he.2.2.1 vz he.2.2.2.1) (hk L _ h H locs ls he.2.2.2.2 ⟨sL, vOK_cons he.2.2.2.1 sS, sV, sH, sP, sD, sG⟩)
    · exact he.elim
  | ladd =>
    dsimp only [exS] at he
    split at he
    · next y z st =>
      obtain ⟨vy, sS⟩ := vOK_st sS
      obtain ⟨vz, sS⟩ := vOK_st sS
      refine lv_ladd hx hb (okD_1 hd) ?_
      rw [am_Add]
      exact hk L _ h H locs ls he.2 ⟨sL, vOK_cons he.1 sS, sV, sH, sP, sD, sG⟩
    · exact he.elim
  | lsub =>
    dsimp only [exS] at he
    split at he
    · next y z st =>
      obtain ⟨vy, sS⟩ := vOK_st sS
      obtain ⟨vz, sS⟩ := vOK_st sS
      refine lv_lsub hx hb (okD_1 hd) ?_
      rw [am_Sub]
      exact hk L _ h H locs ls he.2 ⟨sL, vOK_cons he.1 sS, sV, sH, sP, sD, sG⟩
    · exact he.elim
  | lmul =>
    dsimp only [exS] at he
    split at he
    · next y z st =>
      obtain ⟨vy, sS⟩ := vOK_st sS
      obtain ⟨vz, sS⟩ := vOK_st sS
      refine lv_lmul hx hb (okD_1 hd) ?_
      rw [am_Mul]
      exact hk L _ h H locs ls he.2 ⟨sL, vOK_cons he.1 sS, sV, sH, sP, sD, sG⟩
    · exact he.elim
  | ldiv =>
    dsimp only [exS] at he
    split at he
    · next y z st =>
      obtain ⟨vy, sS⟩ := vOK_st sS
      obtain ⟨vz, sS⟩ := vOK_st sS
      refine lv_ldiv hx hb (okD_1 hd) (am_Ne0 vy he.2.1) ?_
      rw [am_Div vz vy he.1 he.2.1]
      exact hk L _ h H locs ls he.2.2 ⟨sL, vOK_cons (am_DivI vz he.1 he.2.1) sS, sV, sH, sP, sD, sG⟩
    · exact he.elim
  | lrem =>
    dsimp only [exS] at he
    split at he
    · next y z st =>
      obtain ⟨vy, sS⟩ := vOK_st sS
      obtain ⟨vz, sS⟩ := vOK_st sS
      refine lv_lrem hx hb (okD_1 hd) (am_Ne0 vy he.2.1) ?_
      rw [am_Rem vz vy he.1 he.2.1]
      exact hk L _ h H locs ls he.2.2 ⟨sL, vOK_cons (am_ModI vy he.2.1) sS, sV, sH, sP, sD, sG⟩
    · exact he.elim
  | lcmp =>
    dsimp only [exS] at he
    split at he
    · next y z st =>
      obtain ⟨vy, sS⟩ := vOK_st sS
      obtain ⟨vz, sS⟩ := vOK_st sS
      refine W.lcmp hx hb (okD_1 hd) ?_
      rw [am_cmp vz vy]
      exact hk L _ h H locs ls he ⟨sL, vOK_cons (am_lczI _ _) sS, sV, sH, sP, sD, sG⟩
    · exact he.elim
  | i2l =>
    dsimp only [exS] at he
    split at he
    · next z st =>
      obtain ⟨vz, sS⟩ := vOK_st sS
      have vL : inL z := ⟨by have := vz.1; omega, by have := vz.2; omega⟩
      exact lv_i2l hx hb (okD_1 hd) (am_il vz) (hk L _ h H locs ls he ⟨sL, vOK_cons vL sS, sV, sH, sP, sD, sG⟩)
    · exact he.elim
  | l2i =>
    dsimp only [exS] at he
    split at he
    · next z st =>
      obtain ⟨vz, sS⟩ := vOK_st sS
      exact lv_l2i hx hb (okD_1 hd) am_li (hk L _ h H locs ls he.2 ⟨sL, vOK_cons he.1 sS, sV, sH, sP, sD, sG⟩)
    · exact he.elim
  | i2c =>
    dsimp only [exS] at he
    split at he
    · next z st =>
      obtain ⟨vz, sS⟩ := vOK_st sS
      exact lv_i2c hx hb (okD_1 hd) (am_i2c he.1 he.2.1) (hk L _ h H locs ls he.2.2 ⟨sL, vOK_cons vz sS, sV, sH, sP, sD, sG⟩)
    · exact he.elim
  | pop =>
    dsimp only [exS] at he
    split at he
    · next v st =>
      obtain ⟨vz, sS⟩ := vOK_st sS
      exact lv_pop hx hb (okD_1 hd) (by rw [cat_cv]; exact he.1) (hk L _ h H locs ls he.2 ⟨sL, sS, sV, sH, sP, sD, sG⟩)
    · exact he.elim
  | dup =>
    dsimp only [exS] at he
    split at he
    · next v st =>
      obtain ⟨vz, sS'⟩ := vOK_st sS
      exact lv_dup hx hb (okD_1 hd) (by rw [cat_cv]; exact he.1) (hk L _ h H locs ls he.2 ⟨sL, vOK_cons vz sS, sV, sH, sP, sD, sG⟩)
    · exact he.elim
  | dup2 =>
    dsimp only [exS] at he
    split at he
    · next v w st =>
      obtain ⟨vz, sS'⟩ := vOK_st sS
      obtain ⟨vw, sS''⟩ := vOK_st sS'
      exact lv_dup2_11 hx hb (okD_1 hd) (by rw [cat_cv]; exact he.1) (by rw [cat_cv]; exact he.2.1) (hk L _ h H locs ls he.2.2 ⟨sL, vOK_cons vz (vOK_cons vw sS), sV, sH, sP, sD, sG⟩)
    · exact he.elim
  | dup_x1 =>
    dsimp only [exS] at he
    split at he
    · next v w st =>
      obtain ⟨vz, sS'⟩ := vOK_st sS
      exact lv_dup_x1 hx hb (okD_1 hd) (by rw [cat_cv]; exact he.1) (by rw [cat_cv]; exact he.2.1) (hk L _ h H locs ls he.2.2 ⟨sL, vOK_cons vz (vOK_cons (vOK_st sS').1 (vOK_cons vz (vOK_st sS').2)), sV, sH, sP, sD, sG⟩)
    · exact he.elim
  | if_icmp cd off =>
    dsimp only [exS] at he
    split at he
    · next t tl y z st =>
      obtain ⟨vy, sS⟩ := vOK_st sS
      obtain ⟨vz, sS⟩ := vOK_st sS
      obtain ⟨q, h1, h2⟩ := okT_pc hok
      exact is_cmp F vz vy (okD_1 hd) h2.symm (fun hc => hJ t q L st h H locs ls h1 (he.1 hc) ⟨sL, sS, sV, sH, sP, sD, sG⟩) (fun hc => hk L st h H locs ls (he.2 hc) ⟨sL, sS, sV, sH, sP, sD, sG⟩)
    · exact he.elim
  | ifCond cd off =>
    dsimp only [exS] at he
    split at he
    · next t tl z st =>
      obtain ⟨vz, sS⟩ := vOK_st sS
      obtain ⟨q, h1, h2⟩ := okT_pc hok
      exact is_if F vz (okD_1 hd) h2.symm (fun hc => hJ t q L st h H locs ls h1 (he.1 hc) ⟨sL, sS, sV, sH, sP, sD, sG⟩) (fun hc => hk L st h H locs ls (he.2 hc) ⟨sL, sS, sV, sH, sP, sD, sG⟩)
    · exact he.elim
  | goto off =>
    dsimp only [exS] at he
    split at he
    · next t tl =>
      obtain ⟨q, h1, h2⟩ := okT_pc hok
      exact lv_goto hx hb (okD_1 hd) h2.symm (hJ t q L st h H locs ls h1 he ⟨sL, sS, sV, sH, sP, sD, sG⟩)
    · exact he.elim
  | tableswitch df lo hi offs =>
    dsimp only [exS] at he
    have hdd : ∃ len, decode cc pc = .ok (.tableswitch df lo hi offs, len) := by
      dsimp only [okD] at hd
      split at hd
      · next i' n' hq => simp only [decide_eq_true_eq] at hd; exact ⟨n', by rw [hq, hd]⟩
      · cases hd
    obtain ⟨len, hdd⟩ := hdd
    split at he
    · next t ts z st =>
      obtain ⟨vz, sS⟩ := vOK_st sS
      simp only [okI, Bool.and_eq_true, decide_eq_true_eq] at hok
      obtain ⟨o1, o2, o3⟩ := hok
      by_cases hz : z < lo ∨ hi < z
      · obtain ⟨q, h1, h2⟩ := okT_pc o1
        exact lv_tableOut hx hb hdd (by rw [am_t vz]; exact hz) h2.symm (hJ t q L st h H locs ls h1 (he.1 hz) ⟨sL, sS, sV, sH, sP, sD, sG⟩)
      · have hlen : (z - lo).toNat < offs.toList.length := by omega
        obtain ⟨o, ho⟩ : ∃ o, offs.toList[(z - lo).toNat]? = some o := ⟨_, List.getElem?_eq_getElem hlen⟩
        obtain ⟨t', ht', hpt⟩ := okTs_get ts offs.toList (z - lo).toNat o o2 ho
        obtain ⟨q, h1, h2⟩ := okT_pc hpt
        exact lv_tableIn hx hb hdd (by rw [am_t vz]; omega) (by rw [am_t vz]; omega) (by rw [am_t vz, ← Array.getElem?_toList]; exact ho) h2.symm (hJ t' q L st h H locs ls h1 (is_swA ts lo _ t' he.2 ht' (by omega)) ⟨sL, sS, sV, sH, sP, sD, sG⟩)
    · exact he.elim
  | lookupswitch df ps =>
    dsimp only [exS] at he
    have hdd : ∃ len, decode cc pc = .ok (.lookupswitch df ps, len) := by
      dsimp only [okD] at hd
      split at hd
      · next i' n' hq => simp only [decide_eq_true_eq] at hd; exact ⟨n', by rw [hq, hd]⟩
      · cases hd
    obtain ⟨len, hdd⟩ := hdd
    split at he
    · next t ts z st =>
      obtain ⟨vz, sS⟩ := vOK_st sS
      simp only [okI, Bool.and_eq_true] at hok
      obtain ⟨o1, o2, o3, o4⟩ := hok
      obtain ⟨t', hj, hpt⟩ := is_lkA ps.toList ts he o1 o2
      obtain ⟨q, h1, h2⟩ := okT_pc hpt
      exact lv_lookup hx hb hdd o3 (by rw [am_t vz]) h2.symm (hJ t' q L st h H locs ls h1 hj ⟨sL, sS, sV, sH, sP, sD, sG⟩)
    · exact he.elim
  | getstatic idx =>
    dsimp only [exS] at he
    split at he
    · next tl =>
      cases tl with
      | nil => cases hok
      | cons pos tl =>
      simp only [okI, Bool.and_eq_true, decide_eq_true_eq, okW] at hok
      exact va_gets hx hb hXT.2.1 sG hown (hts _ (tb_mem hok.1 hok.2)) (fun _ h9 => h9) (okD_1 hd) (hk L (.inl 1 :: st) h H locs ls he ⟨sL, vOK_cons ⟨by omega, by omega⟩ sS, sV, sH, sP, sD, sG⟩)
    · next tl =>
      cases tl with
      | nil => cases hok
      | cons pos tl =>
      simp only [okI, Bool.and_eq_true, decide_eq_true_eq, okW] at hok
      exact va_gets hx hb hXT.2.2.1 sG hown (hts _ (tb_mem hok.1 hok.2)) (fun _ h9 => h9) (okD_1 hd) (hk L (.inr (.inr (some 240)) :: st) h H locs ls he ⟨sL, vOK_cons trivial sS, sV, sH, sP, sD, sG⟩)
    · exact he.elim
  | getfield idx =>
    dsimp only [exS] at he
    split at he
    · next cl j tl a st =>
      obtain ⟨-, sS⟩ := vOK_st sS
      cases tl with
      | nil => cases hok
      | cons nest tl =>
      cases tl with
      | nil => cases hok
      | cons pos tl =>
      simp only [okI, Bool.and_eq_true, decide_eq_true_eq] at hok
      refine is_get (locs := locs) F sP he.1 hok.1 (okD_1 hd) ?_
      have e : fv ad h a cl j = cv ad (.inl (h.1 a (j : Int))) := by
        unfold fv
        split
        · rfl
        · next o ho => rw [ho] at hok; simp at hok
        · next h0 h1 => exact absurd (show fdK cl j = (0, (fdK cl j).2) from by rw [← hok.2]) (h0 _)
      rw [e]
      exact hk L _ h H locs ls he.2 ⟨sL, vOK_cons (sH.1 _ _) sS, sV, sH, sP, sD, sG⟩
    · next cl j o tl a st =>
      obtain ⟨-, sS⟩ := vOK_st sS
      cases tl with
      | nil => cases hok
      | cons nest tl =>
      cases tl with
      | nil => cases hok
      | cons pos tl =>
      simp only [okI] at hok
      split at hok
      · next hc20 =>
        subst hc20
        simp only [Bool.and_eq_true, decide_eq_true_eq, okW] at hok
        obtain ⟨ho, hw1, hw2⟩ := hok
        subst ho
        obtain ⟨i, hi, rfl⟩ := sh20 he.1
        refine vk_getf hx hb (hXT.1.1 i hi).2.2.1 sG hown (hts _ (tb_mem hw1 hw2)) (fun _ h9 => h9) (okD_1 hd) ?_
        have := hk L _ h H locs ls he.2 ⟨sL, vOK_cons trivial (vOK_st sS).2, sV, sH, sP, sD, sG⟩
        rw [show 200 + i + 20 = 220 + i by omega] at this
        exact this
      · simp only [Bool.and_eq_true, decide_eq_true_eq] at hok
        refine is_get (locs := locs) F sP he.1 hok.1 (okD_1 hd) ?_
        have e : fv ad h a cl j = cv ad (.inr (.inr (some (a + o)))) := by
          unfold fv
          rw [hok.2]
          rfl
        rw [e]
        exact hk L _ h H locs ls he.2 ⟨sL, vOK_cons trivial sS, sV, sH, sP, sD, sG⟩
    · next cl j tl a st =>
      obtain ⟨-, sS⟩ := vOK_st sS
      cases tl with
      | nil => cases hok
      | cons nest tl =>
      cases tl with
      | nil => cases hok
      | cons pos tl =>
      simp only [okI, Bool.and_eq_true, decide_eq_true_eq] at hok
      refine is_get (locs := locs) F sP he.1 hok.1 (okD_1 hd) ?_
      obtain ⟨hs, b, hb2, he⟩ := he
      have e : fv ad h a cl j = cv ad (.inr (.inr (some b))) := by
        unfold fv
        split
        · next o ho => rw [ho] at hok; simp at hok
        · next o ho => rw [ho] at hok; simp at hok
        · rw [hb2]
      rw [e]
      exact hk L _ h H locs ls he ⟨sL, vOK_cons trivial sS, sV, sH, sP, sD, sG⟩
    · next tl a st =>
      obtain ⟨-, sS⟩ := vOK_st sS
      cases tl with
      | nil => cases hok
      | cons pos tl =>
      simp only [okI, okW, Bool.and_eq_true, decide_eq_true_eq] at hok
      obtain ⟨i, hi, rfl⟩ := sh20 he.1
      exact vk_getf hx hb (hXT.1.1 i hi).2.1 sG hown (hts _ (tb_mem hok.1 hok.2)) (fun _ h9 => h9) (okD_1 hd) (hk L _ h H locs ls he.2 ⟨sL, vOK_cons ⟨by omega, by omega⟩ (vOK_st sS).2, sV, sH, sP, sD, sG⟩)
    · exact he.elim
  | putfield idx =>
    dsimp only [exS] at he
    split at he
    · next cl j tl z a st =>
      obtain ⟨vz, sS⟩ := vOK_st sS
      obtain ⟨-, sS⟩ := vOK_st sS
      cases tl with
      | nil => cases hok
      | cons nest tl =>
      cases tl with
      | nil => cases hok
      | cons pos tl =>
      simp only [okI, Bool.and_eq_true, decide_eq_true_eq] at hok
      exact is_put F sP sD sG he.1 hok.1 hok.2.2 rfl rfl (fun hc => wl_upI he.1 hc hok.2.1) (okD_1 hd) (fun H1 locs1 a1 a2 a3 => hk L st _ H1 locs1 ls he.2 ⟨sL, sS, sV, sH.upI vz _ _, a1, a2, a3⟩)
    · next cl j tl b a st =>
      obtain ⟨vz, sS⟩ := vOK_st sS
      obtain ⟨-, sS⟩ := vOK_st sS
      cases tl with
      | nil => cases hok
      | cons nest tl =>
      cases tl with
      | nil => cases hok
      | cons pos tl =>
      simp only [okI, Bool.and_eq_true, decide_eq_true_eq] at hok
      exact is_put F sP sD sG he.1 hok.1 hok.2.2 rfl rfl (fun hc => wl_upR he.1 hc hok.2.1) (okD_1 hd) (fun H1 locs1 a1 a2 a3 => hk L st _ H1 locs1 ls he.2.2 ⟨sL, sS, sV, sH.upR _ _ _, a1, a2, a3⟩)
    · next cl j tl z a st =>
      obtain ⟨vz, sS⟩ := vOK_st sS
      obtain ⟨-, sS⟩ := vOK_st sS
      cases tl with
      | nil => cases hok
      | cons nest tl =>
      cases tl with
      | nil => cases hok
      | cons pos tl =>
      simp only [okI, Bool.and_eq_true, decide_eq_true_eq] at hok
      exact is_put F sP sD sG he.1 hok.1 hok.2.2 (am_bool he.2.1) (by rcases he.2.1 with rfl | rfl <;> rfl) (fun hc => wl_upI he.1 hc hok.2.1) (okD_1 hd) (fun H1 locs1 a1 a2 a3 => hk L st _ H1 locs1 ls he.2.2 ⟨sL, sS, sV, sH.upI vz _ _, a1, a2, a3⟩)
    · exact he.elim
  | iaload =>
    dsimp only [exS] at he
    split at he
    · next i a st =>
      obtain ⟨vi, sS⟩ := vOK_st sS
      obtain ⟨-, sS⟩ := vOK_st sS
      have hget := wl_get (ad := ad) (G := G) (h := h) (shA_lt he.1 (by decide))
      rw [cell10 he.1] at hget
      refine va_iald hx hb hK sP a 0 hget rfl (vp_inO vi he.2.1 he.2.2.1) (okD_1 hd) ?_
      rw [rd_eq (f := h.1) he.2.1 vi]
      exact hk L _ h H locs ls he.2.2.2 ⟨sL, vOK_cons (sH.1 _ _) sS, sV, sH, sP, sD, sG⟩
    · next i a st hne =>
      obtain ⟨vi, sS⟩ := vOK_st sS
      obtain ⟨-, sS⟩ := vOK_st sS
      have hq : lawq = true := by
        simp only [okI, Bool.or_eq_true, decide_eq_true_eq] at hok
        rcases hok with q | q
        · exact absurd q hne
        · exact q
      obtain ⟨Ln, xs, hX, hbl, hbA, hsl, hL2, hxs⟩ := hlaw hq
      obtain rfl := sh14 he.1
      have hi : i = ((i.toNat : Nat) : Int) := by omega
      have hlt : i.toNat < Ln := by omega
      refine va_sld hx hb hX hbl hbA sG (vp_inO vi he.2.1 (by omega)) (okD_1 hd) ?_
      rw [tn_clamp vi, (hxs _ hlt).2, ← hi]
      exact hk L _ h H locs ls he.2.2.2 ⟨sL, vOK_cons (by have := (hxs _ hlt).1; rw [← hi] at this; exact this) (vOK_st sS).2, sV, sH, sP, sD, sG⟩
    · exact he.elim
  | iastore =>
    dsimp only [exS] at he
    split at he
    · next z i a st =>
      obtain ⟨vz, sS⟩ := vOK_st sS
      obtain ⟨vi, sS⟩ := vOK_st sS
      obtain ⟨-, sS⟩ := vOK_st sS
      have hget := wl_get (ad := ad) (G := G) (h := h) (shA_lt he.1 (by decide))
      rw [cell10 he.1] at hget
      refine va_iast hx hb hK sP sD sG a 0 hget rfl (vp_inO vi he.2.1 he.2.2.1) (okD_1 hd) (fun H1 locs1 a1 a2 a3 => ?_)
      rw [wl_ai he.1 he.2.1 vi] at a1 a2
      exact hk L st _ H1 locs1 ls he.2.2.2 ⟨sL, sS, sV, sH.upI vz _ _, a1, a2, a3⟩
    · exact he.elim
  | laload =>
    dsimp only [exS] at he
    split at he
    · next i a st =>
      obtain ⟨vi, sS⟩ := vOK_st sS
      obtain ⟨-, sS⟩ := vOK_st sS
      have hget := wl_get (ad := ad) (G := G) (h := h) (shA_lt he.1 (by decide))
      rw [cell11 he.1] at hget
      refine va_lald hx hb hK sP a 1 hget rfl (vp_inO vi he.2.1 he.2.2.1) (okD_1 hd) ?_
      rw [rd_eq (f := h.2.1) he.2.1 vi]
      exact hk L _ h H locs ls he.2.2.2 ⟨sL, vOK_cons (sH.2 _ _) sS, sV, sH, sP, sD, sG⟩
    · exact he.elim
  | lastore =>
    dsimp only [exS] at he
    split at he
    · next z i a st =>
      obtain ⟨vz, sS⟩ := vOK_st sS
      obtain ⟨vi, sS⟩ := vOK_st sS
      obtain ⟨-, sS⟩ := vOK_st sS
      have hget := wl_get (ad := ad) (G := G) (h := h) (shA_lt he.1 (by decide))
      rw [cell11 he.1] at hget
      refine va_last hx hb hK sP sD sG a 1 hget rfl (vp_inO vi he.2.1 he.2.2.1) (okD_1 hd) (fun H1 locs1 a1 a2 a3 => ?_)
      rw [wl_al he.1 he.2.1 vi] at a1 a2
      exact hk L st _ H1 locs1 ls he.2.2.2 ⟨sL, sS, sV, sH.upL vz _ _, a1, a2, a3⟩
    · exact he.elim
  | baload =>
    dsimp only [exS] at he
    split at he
    · next i a st =>
      obtain ⟨vi, sS⟩ := vOK_st sS
      obtain ⟨-, sS⟩ := vOK_st sS
      have hget := wl_get (ad := ad) (G := G) (h := h) (shA_lt he.1 (by decide))
      rw [cell12 he.1] at hget
      refine va_zald hx hb hK sP a 2 hget rfl (vp_inO vi he.2.1 he.2.2.1) (okD_1 hd) ?_
      rw [rd_eq (f := h.1) he.2.1 vi]
      exact hk L _ h H locs ls he.2.2.2 ⟨sL, vOK_cons (sH.1 _ _) sS, sV, sH, sP, sD, sG⟩
    · next i a st hne =>
      obtain ⟨vi, sS⟩ := vOK_st sS
      obtain ⟨-, sS⟩ := vOK_st sS
      obtain ⟨j, hj, rfl, hln⟩ := sh13 he.1
      have hlt : i.toNat < (strS.getD j []).length := by omega
      obtain ⟨b1, b2, b3⟩ := strS_ok j hj i.toNat hlt
      refine va_tb hx hb (hXT.1.1 j hj).2.2.2 sG (vp_inO vi he.2.1 (by rw [b1]; omega)) (v := .int (Int32.ofInt ((strS.getD (220 + j - 220) []).getD i.toNat 0))) ?_ (okD_1 hd) ?_
      · rw [tn_clamp vi, Nat.add_sub_cancel_left]
        exact congrArg Value.int b2
      · exact hk L _ h H locs ls he.2.2.2 ⟨sL, vOK_cons (by rw [Nat.add_sub_cancel_left]; exact b3) (vOK_st sS).2, sV, sH, sP, sD, sG⟩
    · exact he.elim
  | bastore =>
    dsimp only [exS] at he
    split at he
    · next z i a st =>
      obtain ⟨vz, sS⟩ := vOK_st sS
      obtain ⟨vi, sS⟩ := vOK_st sS
      obtain ⟨-, sS⟩ := vOK_st sS
      have hget := wl_get (ad := ad) (G := G) (h := h) (shA_lt he.1 (by decide))
      rw [cell12 he.1] at hget
      refine va_zast hx hb hK sP sD sG a 2 hget rfl (vp_inO vi he.2.1 he.2.2.1) (okD_1 hd) (fun H1 locs1 a1 a2 a3 => ?_)
      rw [show vp_nar .boolean (Int32.ofInt z) = Int32.ofInt z by rcases he.2.2.2.1 with rfl | rfl <;> rfl, wl_az he.1 he.2.1 vi] at a1 a2
      exact hk L st _ H1 locs1 ls he.2.2.2.2 ⟨sL, sS, sV, sH.upI vz _ _, a1, a2, a3⟩
    · exact he.elim
  | arraylength =>
    dsimp only [exS] at he
    split at he
    · next a st =>
      obtain ⟨-, sS⟩ := vOK_st sS
      obtain ⟨j, hj, rfl, hln⟩ := sh13 he.1
      refine va_tlen hx hb (hXT.1.1 j hj).2.2.2 sG (v := Int32.ofInt ((shA (220 + j)).2 : Int)) ?_ (okD_1 hd) (hk L (.inl ((shA (220 + j)).2 : Int) :: st) h H locs ls he.2 ⟨sL, vOK_cons (by rw [hln]; exact strS_len j hj) (vOK_st sS).2, sV, sH, sP, sD, sG⟩)
      rw [hln, ← strS_l2 j hj]
      exact (am_nat _).symm
    · next a st hne =>
      obtain ⟨-, sS⟩ := vOK_st sS
      have hq : lawq = true := by
        simp only [okI, Bool.or_eq_true, decide_eq_true_eq] at hok
        rcases hok with q | q
        · exact absurd q hne
        · exact q
      obtain ⟨Ln, xs, hX, hbl, hbA, hsl, hL2, hxs⟩ := hlaw hq
      obtain rfl := sh14 he.1
      subst hsl
      refine va_slen hx hb hX hbl hbA sG (okD_1 hd) ?_
      have := hk L (.inl (Ln : Int) :: st) h H locs ls he.2 ⟨sL, vOK_cons (am_lti hL2) (vOK_st sS).2, sV, sH, sP, sD, sG⟩
      rw [List.map_cons, show cv ad (.inl (Ln : Int)) = .int (Int32.ofNat Ln) from congrArg Value.int (am_nat Ln)] at this
      exact this
    · exact he.elim
  | ireturn =>
    dsimp only [exS] at he
    split at he
    · next z =>
      exact hRet .ireturn [] pc (some (.inl z)) h H locs ls (okD_1 hd) hok (Or.inl rfl) he (fun v hv => by cases hv; exact (vOK_st sS).1) sH sP sD sG
    · next z =>
      exact hRet .ireturn [1] pc (some (.inl z)) h H locs ls (okD_1 hd) hok (Or.inr (Or.inl ⟨rfl, he.1⟩)) he.2 (fun v hv => by cases hv; exact (vOK_st sS).1) sH sP sD sG
    · next z =>
      exact hRet .ireturn [2] pc (some (.inl z)) h H locs ls (okD_1 hd) hok (Or.inr (Or.inr (Or.inl ⟨rfl, he.1⟩))) he.2 (fun v hv => by cases hv; exact (vOK_st sS).1) sH sP sD sG
    · next z =>
      exact hRet .ireturn [3] pc (some (.inl z)) h H locs ls (okD_1 hd) hok (Or.inr (Or.inr (Or.inr ⟨rfl, he.1⟩))) he.2 (fun v hv => by cases hv; exact (vOK_st sS).1) sH sP sD sG
    · exact he.elim
  | lreturn =>
    dsimp only [exS] at he
    split at he
    · next z =>
      exact hRet .lreturn x pc (some (.inr (.inl z))) h H locs ls (okD_1 hd) hok trivial he (fun v hv => by cases hv; exact (vOK_st sS).1) sH sP sD sG
    · exact he.elim
  | areturn =>
    dsimp only [exS] at he
    split at he
    · next z =>
      exact hRet .areturn x pc (some (.inr (.inr (some z)))) h H locs ls (okD_1 hd) hok trivial he (fun v hv => by cases hv; trivial) sH sP sD sG
    · exact he.elim
  | return_ =>
    dsimp only [exS] at he
    split at he
    · exact hRet .return_ x pc none h H locs ls (okD_1 hd) hok trivial he (fun v hv => by cases hv) sH sP sD sG
    · exact he.elim
  | invokestatic idx =>
    dsimp only [exS] at he
    have hls : c.maxLocals = ls.size := by rw [hml, sL.1]
    split at he
    · next pos y z st =>
      obtain ⟨vy, sS⟩ := vOK_st sS
      obtain ⟨vz, sS⟩ := vOK_st sS
      simp only [okI, okW, Bool.and_eq_true, decide_eq_true_eq] at hok
      refine va_mmax hx hb hls hown (hts _ (tb_mem hok.1 hok.2)) (hts _ mx_t1.1) (hts _ mx_t1.2.2.1) (hts _ mx_cmax) (by omega) (by rw [catS_eq]; have := he.1; omega) hRm.2.2.1 hRm.2.2.2 (okD_1 hd) ?_
      have e : (if Int32.ofInt z < Int32.ofInt y then Int32.ofInt y else Int32.ofInt z) = Int32.ofInt (max z y) := by
        by_cases hq : z < y
        · rw [if_pos ((am_lt vz vy).mpr hq), Int.max_eq_right (by omega)]
        · rw [if_neg (fun q => hq ((am_lt vz vy).mp q)), Int.max_eq_left (by omega)]
      rw [e]
      exact hk L _ h H locs ls he.2 ⟨sL, vOK_cons ⟨by have := vz.1; omega, by have := vz.2; have := vy.2; omega⟩ sS, sV, sH, sP, sD, sG⟩
    · next pos y z st =>
      obtain ⟨vy, sS⟩ := vOK_st sS
      obtain ⟨vz, sS⟩ := vOK_st sS
      simp only [okI, okW, Bool.and_eq_true, decide_eq_true_eq] at hok
      refine va_mmin hx hb hls hown (hts _ (tb_mem hok.1 hok.2)) (hts _ mx_t1.2.1) (hts _ mx_t1.2.2.1) (hts _ mx_cmin) (by omega) (by rw [catS_eq]; have := he.1; omega) hRm.2.2.1 hRm.2.2.2 (okD_1 hd) ?_
      have e : (if Int32.ofInt y < Int32.ofInt z then Int32.ofInt y else Int32.ofInt z) = Int32.ofInt (min z y) := by
        by_cases hq : y < z
        · rw [if_pos ((am_lt vy vz).mpr hq), Int.min_eq_right (by omega)]
        · rw [if_neg (fun q => hq ((am_lt vy vz).mp q)), Int.min_eq_left (by omega)]
      rw [e]
      exact hk L _ h H locs ls he.2 ⟨sL, vOK_cons ⟨by have := vz.1; have := vy.1; omega, by have := vz.2; omega⟩ sS, sV, sH, sP, sD, sG⟩
    · next pos n dp b sp a st =>
      obtain ⟨vn, sS⟩ := vOK_st sS
      obtain ⟨vd, sS⟩ := vOK_st sS
      obtain ⟨-, sS⟩ := vOK_st sS
      obtain ⟨vs, sS⟩ := vOK_st sS
      obtain ⟨-, sS⟩ := vOK_st sS
      simp only [okI, okW, Bool.and_eq_true, decide_eq_true_eq] at hok
      obtain ⟨e1, e2, e3, e4, e5, e6, e7, e8, he⟩ := he
      have hga := wl_get (ad := ad) (G := G) (h := h) (shA_lt e2 (by decide))
      rw [cell10 e2] at hga
      have hgb := wl_get (ad := ad) (G := G) (h := h) (shA_lt e3 (by decide))
      rw [cell10 e3] at hgb
      have hnn : ∀ {z : Int}, inI z → 0 ≤ z → ¬ Int32.ofInt z < 0 := fun {z} v0 h0 q => by
        have := (am_lt v0 (⟨by omega, by omega⟩ : inI 0)).mp q
        omega
      refine va_copyi hx hb hls hown (hts _ (tb_mem hok.1 hok.2)) (hts _ mx_t1.2.2.2.1) (hts _ mx_t1.2.2.2.2.1) (hts _ mx_t1.2.2.2.2.2) hK sP sD sG a b 0 0 (ty := .int) hga hgb rfl rfl rfl (hnn vs e5) (hnn vd e7) (hnn vn e4) (by rw [tn_clamp vs, tn_clamp vn]; omega) (by rw [tn_clamp vd, tn_clamp vn]; omega) (fun i hi => rfl) (by omega) (by rw [catS_eq]; have := nfw; omega) (okD_1 hd) (fun H1 locs1 a1 a2 a3 => ?_)
      rw [tn_clamp vs, tn_clamp vd, tn_clamp vn, wl_cp e3 e5 e7 e4] at a1 a2
      exact hk L st _ H1 locs1 ls he ⟨sL, sS, sV, sH.cpI _ _ _ _ _, a1, a2, a3⟩
    · next id n w tl =>
      split at he
      · next as st' hp =>
        obtain ⟨hl, rfl⟩ := popA_0 hp
        cases tl with
        | nil =>
          exfalso
          simp [okI] at hok
        | cons pos tl =>
        have hok2 : (match mt[id]? with
          | some md => mdS md && (decide (n = mdP md) && okL own idx w pos (mdN md))
          | none => false) = true := by rcases id with _ | _ | _ | id <;> exact hok
        split at hok2
        · next q hq =>
          simp only [Bool.and_eq_true, decide_eq_true_eq] at hok2
          obtain ⟨o1, o2, o3⟩ := hok2
          have hM := (hT id as h _ he.2 q hq).2 sH (fun v hv => sS v (List.mem_append_left _ (List.mem_reverse.mpr hv))) ad G dC dI H.size
          exact is_back sD sG hA (is_callS F (hmt id q hq) o1 (by rw [hl]; exact o2) o3 hM sP sD sG sL.1 he.1 (okD_1 hd)) (fun r h' H1 locs1 b1 b2 b3 b4 b5 b6 => by
            have := hk L _ h' H1 locs1 ls b1 ⟨sL, by
              cases r with
              | none => exact fun v hv => sS v (List.mem_append_right _ hv)
              | some v => exact vOK_cons (b3 v rfl) (fun v hv => sS v (List.mem_append_right _ hv)), sV, b2, b4, b5, b6⟩
            cases r <;> exact this)
        · cases hok2
      · exact he.elim
    · exact he.elim
  | invokevirtual idx =>
    dsimp only [exS] at he
    split at he
    · next id n tl =>
      split at he
      · next as st' hp =>
        obtain ⟨hl, rfl⟩ := popA_0 hp
        cases tl with
        | nil => cases hok
        | cons w tl =>
        cases tl with
        | nil => cases hok
        | cons pos tl =>
        have hok2 : (match mt[id]? with
          | some md => !mdS md && (decide (n = mdP md + 1) && okL own idx w pos (mdN md))
          | none => false) = true := hok
        split at hok2
        · next q hq =>
          simp only [Bool.and_eq_true, decide_eq_true_eq, Bool.not_eq_true'] at hok2
          obtain ⟨o1, o2, o3⟩ := hok2
          obtain ⟨hrc, hM⟩ := hT id as h _ he.2 q hq
          have hM := hM sH (fun v hv => sS v (List.mem_append_left _ (List.mem_reverse.mpr hv))) ad G dC dI H.size
          have hrc : rcv (mdC q) as := by
            rcases hrc with z | z
            · rw [o1] at z; cases z
            · exact z
          exact is_back sD sG hA (is_callV F (hmt id q hq) o1 hrc (by rw [hl]; exact o2) o3 hM sP sD sG sL.1 he.1 (okD_1 hd)) (fun r h' H1 locs1 b1 b2 b3 b4 b5 b6 => by
            have := hk L _ h' H1 locs1 ls b1 ⟨sL, by
              cases r with
              | none => exact fun v hv => sS v (List.mem_append_right _ hv)
              | some v => exact vOK_cons (b3 v rfl) (fun v hv => sS v (List.mem_append_right _ hv)), sV, b2, b4, b5, b6⟩
            cases r <;> exact this)
        · cases hok2
      · exact he.elim
    · exact he.elim
  | _ => exact he.elim
end IS
end
section
/-! ===== blocks, methods ===== -/
section IS
variable {mt : List MDat} {lawq : Bool} {p : Program} {l : Launch} {e : Env} {R : Room} {s : State} {m : MethodId} {args : Array Value} {below : List Frame} {meth : Method} {c : Code} {cells slots : Nat} {Q : State → Prop} {cc : ByteArray} {nL : Nat} {own : String} {ad : Nat → Nat} {G : ClassId × (ClassId × ClassId)} {dC : Nat → ClassId} {dI : Nat → Nat → Nat} {A : Nat → Prop} {sc : Int → Int} {sl : Int} {d : Nat}
theorem ex_sound {T : AT} {J : AJ} {K : AK} {bs : List ABlk} {rt : Option FieldType} (F : FX lawq p R s m args c cells slots cc nL own ad G dC dI A sc sl d) (hmt : ∀ (id : Nat) (q : MDat), mt[id]? = some q → okM mt q = true) (hT : TOK mt l d T)
    (hJ : JOK p l e R s m args below meth c cells slots Q nL ad G dC dI A bs J)
    (hRet : ∀ (i : Instr) (x : List Nat) (pc : Nat) (r : Option AV) (h : AH) (H : Heap) (locs : List Loc) (ls : Array Slot), decode cc pc = .ok (i, 1) → okI mt lawq nL own bs rt pc i x = true → isRet i x r → K r h → (∀ v, r = some v → vOK v) → hOK h → va_P (dC, dI) vwCl (wl ad G h) H → va_D A (wl ad G h) → va_S A s.heap H locs → W p l e R s m args below meth c H locs cells slots Q (F0 m pc ls (r.toList.map (cv ad)))) :
    ∀ (is : List RI) (pc : Nat) (L : LL) (st : List AV) (h : AH) (H : Heap) (locs : List Loc) (ls : Array Slot), okB mt lawq nL own cc bs rt pc is = true → ex sc sl T J K is L st h → SS s ad G dC dI A nL ls L st h H locs → W p l e R s m args below meth c H locs cells slots Q (F0 m pc ls (st.map (cv ad))) := by
  intro is
  induction is with
  | nil => intro pc L st h H locs ls _ he; exact he.elim
  | cons r is ih =>
    intro pc L st h H locs ls hok he S
    simp only [okB, Bool.and_eq_true] at hok
    exact exS_sound F hmt hT hJ hRet hok.1 hok.2.1 S (fun L' st' h' H' locs' ls' hk S' => ih _ L' st' h' H' locs' ls' hok.2.2 hk S') he
theorem SS.mask {ls : Array Slot} {L : LL} {st : List AV} {h : AH} {H : Heap} {locs : List Loc} (S : SS s ad G dC dI A nL ls L st h H locs) (bs : List Bool) : SS s ad G dC dI A nL ls (maskL bs L) st h H locs :=
  ⟨S.1.mask bs, S.2.1, fun i v hv => S.2.2.1 i v (maskL_get bs L i v hv), S.2.2.2⟩
theorem Bx_sound {T : AT} {K : AK} {bs : List ABlk} {rt : Option FieldType} (F : FX lawq p R s m args c cells slots cc nL own ad G dC dI A sc sl d) (hmt : ∀ (id : Nat) (q : MDat), mt[id]? = some q → okM mt q = true) (hT : TOK mt l d T)
    (hbs : ∀ b ∈ bs, okB mt lawq nL own cc bs rt b.1 b.2.2 = true)
    (hRet : ∀ (i : Instr) (x : List Nat) (pc : Nat) (r : Option AV) (h : AH) (H : Heap) (locs : List Loc) (ls : Array Slot), decode cc pc = .ok (i, 1) → okI mt lawq nL own bs rt pc i x = true → isRet i x r → K r h → (∀ v, r = some v → vOK v) → hOK h → va_P (dC, dI) vwCl (wl ad G h) H → va_D A (wl ad G h) → va_S A s.heap H locs → W p l e R s m args below meth c H locs cells slots Q (F0 m pc ls (r.toList.map (cv ad)))) :
    JOK p l e R s m args below meth c cells slots Q nL ad G dC dI A bs (Bx sc sl T bs K) := by
  intro t q L st h H locs ls hq hB S
  refine hB (fun t L st h => ∀ (q : ABlk) (H : Heap) (locs : List Loc) (ls : Array Slot), bs[t]? = some q → SS s ad G dC dI A nL ls L st h H locs → W p l e R s m args below meth c H locs cells slots Q (F0 m q.1 ls (st.map (cv ad)))) ?_ q H locs ls hq S
  intro b q L st h hq he q' H locs ls hq' S
  rw [hq] at hq'
  cases hq'
  exact ex_sound F hmt hT (fun t q L st h H locs ls h1 h2 h3 => h2 q H locs ls h1 h3) hRet q.2.2 q.1 _ st h H locs ls (hbs q (List.mem_of_getElem? hq)) he (S.mask _)
end IS
theorem tx_sound (mt : List MDat) (l : Launch) (hmt : ∀ (id : Nat) (q : MDat), mt[id]? = some q → okM mt q = true) : ∀ d, TOK mt l d (tx mt d) := by
  intro d
  induction d with
  | zero => intro id as h K ht; exact ht.elim
  | succ d ih =>
    intro id as h K ht q hq
    have ht2 : (mdS q = true ∨ rcv (mdC q) as) ∧ (entL as).length ≤ mdL q ∧ Bx z0 0 (tx mt d) (mdK q) K 0 (entL as) [] h := by
      unfold tx at ht
      rw [hq] at ht
      exact ht
    obtain ⟨h1, h2, h3⟩ := ht2
    refine ⟨h1, fun hh has ad G dC dI sz => ?_⟩
    have hM := hmt id q hq
    obtain ⟨w1, w2, -⟩ := okM_1 hM
    obtain ⟨g1, g2, g3, g4, ⟨b0, g5, g6⟩, -, g7⟩ := okM_2 hM
    refine Met.ofW (cc := mdB q) (maxL := mdL q) (ret := mdR q) g3 rfl ?_
    intro p e s m args below meth c s₁ B hml hv
    obtain ⟨rfl, hsz, hP, hK, hD0, hX⟩ := hv
    have hx := B.exec
    have hb := B.bytes
    have hr := B.returns
    have hts : ∀ w ∈ tb, w.before ((as.map (cv ad)).toArray) s = true := fun w hw => atoms_spec (ws := wsy q) B.pre w (List.mem_cons_of_mem _ hw)
    have hown : s.vm.findClass (mdN q).cls = some m.cls := findClass_of_methodNamed B.named
    have hlocks := B.notSynchronized
    subst hsz
    have hD : va_D (va_A (wl ad G h) s.heap.size) (wl ad G h) := hD0.self
    generalize hAe : va_A (wl ad G h) s.heap.size = A at hD hX ⊢
    have hA : ∀ q : Nat, s.heap.size ≤ q → A q := fun q h => by rw [← hAe]; exact Or.inr h
    have hS : va_S A s.heap s.heap [] := va_S.rf
    rw [lg_entry_eq]
    have F : FX false p (rmd (d + 1)) s m (as.map (cv ad)).toArray c 0 0 (mdB q) (mdL q) (mdN q).cls ad G dC dI A z0 0 d := by
      refine ⟨hx, hb, hml, hown, hts, hK, hX, hA, ⟨?_, ?_, ?_, ?_⟩, fun hc => by cases hc⟩
      · exact Nat.le_refl _
      · exact Nat.le_refl _
      · exact Nat.le_refl _
      · exact Nat.le_refl _
    have hJ := Bx_sound (Q := MQ below (QQ ad G dC dI K A) (as.map (cv ad)).toArray s 0 0 A) (e := e) (below := below) (meth := meth) (K := K) (rt := mdR q) F hmt ih g7 (by
      intro i x pc r h' H locs ls hdg hok hret hKr hvr hh' hP' hD' hS'
      have hq' : ∀ (v : Option Value), v = r.map (cv ad) → ∀ t : State, t.heap = H → s.WarmedH t.vm → QQ ad G dC dI K A (as.map (cv ad)).toArray s (.returned v) t := fun v hv t ht hW => ⟨⟨r, h', by rw [hv], hKr, hh', hvr, by rw [ht]; exact hP', va_K.moved hW.alike hK, hD'⟩, hS'.F ht⟩
      cases i with
      | ireturn =>
        match r, hret, hq' with
        | some (.inl z), hret, hq' =>
          have hdg' : decode (mdB q) pc = .ok (.ireturn, 1) := hdg
          rcases hret with rfl | ⟨rfl, hz⟩ | ⟨rfl, hz⟩ | ⟨rfl, hz⟩
          · have hrt : mdR q = some .int := by simpa [okI] using hok
            rw [hrt] at hr
            exact W.zret hx hb hr rfl (hq' _ rfl) hS'.2.2 hdg'
          · have hrt : mdR q = some .boolean := by simpa [okI] using hok
            rw [hrt] at hr
            exact W.zret hx hb hr (am_bool hz) (hq' _ rfl) hS'.2.2 hdg'
          · have hrt : mdR q = some .char := by simpa [okI] using hok
            rw [hrt] at hr
            exact W.zret hx hb hr (am_char hz.1 hz.2) (hq' _ rfl) hS'.2.2 hdg'
          · have hrt : mdR q = some .byte := by simpa [okI] using hok
            rw [hrt] at hr
            exact W.zret hx hb hr (am_byte z (by omega) (by omega)) (hq' _ rfl) hS'.2.2 hdg'
      | lreturn =>
        match r, hret, hq' with
        | some (.inr (.inl z)), hret, hq' =>
          have hrt : mdR q = some .long := by simpa [okI] using hok
          rw [hrt] at hr
          exact W.lret hx hb hr (hq' _ rfl) hS'.2.2 hdg
      | areturn =>
        match r, hret, hq' with
        | some (.inr (.inr (some a))), hret, hq' =>
          dsimp only [okI] at hok
          split at hok
          · next nm hrt =>
            rw [hrt] at hr
            exact W.aret hx hb hr (Or.inl ⟨_, rfl⟩) (Or.inr ⟨_, rfl⟩) (hq' _ rfl) hS'.2.2 hdg
          · cases hok
      | return_ =>
        match r, hret, hq' with
        | none, hret, hq' =>
          have hrt : mdR q = none := by simpa [okI] using hok
          rw [hrt] at hr
          exact W.vret hx hb hr (hq' _ rfl) hS'.2.2 hdg
      | _ => exact hret.elim)
    have hent := hJ 0 b0 (entL as) [] h s.heap [] _ g5 h3 ⟨LH.entry h2, fun v hv => by simp at hv, fun i v hv => by
      have := entL_mem as i v hv
      exact has v this, hh, hP, hD, hS⟩
    rw [g6] at hent
    exact hent
end
section
/-! ===== the program: every method as blocks ===== -/
def b_X5_feed_0 : ABlk := (0, ([true, true], [(.iload_n 1, []), (.ifCond .ge 10, [1]), (.aload_n 0, []), (.bipush (-4), []), (.invokevirtual 57, [56, 2, 0, 315]), (.ireturn, [])]))
def b_X5_feed_1 : ABlk := (11, ([true, true], [(.iload_n 1, []), (.sipush 255, []), (.if_icmp .gt 13, [2]), (.aload_n 0, []), (.getfield 25, [1, 5, 4, 25, 0, 281]), (.invokevirtual 61, [207, 1, 1, 319]), (.ifCond .ne 10, [3]), (.nop, [2])]))
def b_X5_feed_2 : ABlk := (28, ([true, false], [(.aload_n 0, []), (.bipush (-6), []), (.invokevirtual 57, [56, 2, 0, 315]), (.ireturn, [])]))
def b_X5_feed_3 : ABlk := (35, ([true, true], [(.aload_n 0, []), (.getfield 25, [1, 5, 4, 25, 0, 281]), (.iload_n 1, []), (.invokevirtual 65, [208, 2, 1, 323]), (.aload_n 0, []), (.getfield 25, [1, 5, 4, 25, 0, 281]), (.getfield 69, [0, 2, 1, 1, 227]), (.ireturn, [])]))
def k_X5_feed : List ABlk := [b_X5_feed_0, b_X5_feed_1, b_X5_feed_2, b_X5_feed_3]
def md_X5_feed : MDat := (yX5_feed, (cX5_feed, (2, (some .int, (false, (1, (5, ([314, 312, 313, 118], k_X5_feed))))))))
def n_X5_feed : Nat := 0
def b_X5_table_0 : ABlk := (0, ([true, false, false, false, false], [(.aload_n 0, []), (.getfield 25, [1, 5, 4, 25, 0, 281]), (.invokevirtual 73, [212, 1, 1, 331]), (.istore_n 1, []), (.aload_n 0, []), (.getfield 25, [1, 5, 4, 25, 0, 281]), (.getfield 69, [0, 2, 1, 1, 227]), (.istore_n 2, []), (.iconst 0, []), (.istore_n 3, []), (.iconst 0, []), (.istore 4, []), (.aload_n 0, []), (.getfield 16, [1, 5, 1, 9, 0, 278]), (.aload_n 0, []), (.getfield 10, [1, 5, 0, 1, 0, 277]), (.invokevirtual 77, [172, 2, 1, 404]), (.nop, [1])]))
def b_X5_table_1 : ABlk := (32, ([true, true, true, true, true], [(.iload_n 1, []), (.ifCond .ge 49, [2]), (.iload 4, []), (.iload_n 2, []), (.if_icmp .ge 43, [2]), (.aload_n 0, []), (.getfield 25, [1, 5, 4, 25, 0, 281]), (.aload_n 0, []), (.getfield 16, [1, 5, 1, 9, 0, 278]), (.iload 4, []), (.invokevirtual 81, [216, 3, 1, 411]), (.ifCond .eq 27, [2]), (.iinc 3 1, []), (.iload 4, []), (.iconst 1, []), (.iadd, []), (.aload_n 0, []), (.getfield 25, [1, 5, 4, 25, 0, 281]), (.iload 4, []), (.invokevirtual 85, [213, 2, 1, 484]), (.invokestatic 88, [0, 488]), (.istore 4, []), (.goto (-47), [1])]))
def b_X5_table_2 : ABlk := (82, ([true, true, true, true, true], [(.aload_n 0, []), (.getfield 25, [1, 5, 4, 25, 0, 281]), (.iconst 0, []), (.putfield 69, [0, 2, 1, 1, 227]), (.iload_n 1, []), (.ifCond .lt 9, [3]), (.sipush (-1000), []), (.iload_n 1, []), (.isub, []), (.ireturn, [])]))
def b_X5_table_3 : ABlk := (100, ([true, false, true, true, true], [(.iload 4, []), (.iload_n 2, []), (.if_icmp .ge 10, [4]), (.sipush (-2000), []), (.iload 4, []), (.isub, []), (.ireturn, [])]))
def b_X5_table_4 : ABlk := (113, ([true, false, false, true, false], [(.aload_n 0, []), (.getfield 10, [1, 5, 0, 1, 0, 277]), (.aload_n 0, []), (.getfield 16, [1, 5, 1, 9, 0, 278]), (.invokevirtual 77, [172, 2, 1, 404]), (.aload_n 0, []), (.getfield 32, [1, 5, 5, 27, 0, 282]), (.invokevirtual 94, [217, 1, 1, 489]), (.iload_n 3, []), (.ireturn, [])]))
def k_X5_table : List ABlk := [b_X5_table_0, b_X5_table_1, b_X5_table_2, b_X5_table_3, b_X5_table_4]
def md_X5_table : MDat := (yX5_table, (cX5_table, (5, (some .int, (false, (0, (5, ([330, 328, 329, 118], k_X5_table))))))))
def n_X5_table : Nat := 1
def b_X5_rhyme_0 : ABlk := (0, ([true, true, true], [(.aload_n 0, []), (.getfield 10, [1, 5, 0, 1, 0, 277]), (.iload_n 1, []), (.invokevirtual 97, [173, 2, 1, 498]), (.ifCond .ne 9, [1]), (.aload_n 0, []), (.iconst (-1), []), (.invokevirtual 57, [56, 2, 0, 315]), (.ireturn, [])]))
def b_X5_rhyme_1 : ABlk := (17, ([true, true, true], [(.iload_n 2, []), (.ifCond .eq 15, [2]), (.iload_n 2, []), (.iconst 1, []), (.if_icmp .eq 10, [2]), (.aload_n 0, []), (.bipush (-2), []), (.invokevirtual 57, [56, 2, 0, 315]), (.ireturn, [])]))
def b_X5_rhyme_2 : ABlk := (33, ([true, true, true], [(.iload_n 2, []), (.ifCond .ne 15, [3]), (.aload_n 0, []), (.getfield 10, [1, 5, 0, 1, 0, 277]), (.getfield 101, [1, 0, 1, 1, 1, 149]), (.iload_n 1, []), (.iaload, []), (.goto 12, [4])]))
def b_X5_rhyme_3 : ABlk := (49, ([true, true, false], [(.aload_n 0, []), (.getfield 10, [1, 5, 0, 1, 0, 277]), (.getfield 104, [1, 0, 2, 2, 1, 152]), (.iload_n 1, []), (.iaload, []), (.nop, [4])]))
def b_X5_rhyme_4 : ABlk := (58, ([false, false, false], [(.ireturn, [])]))
def k_X5_rhyme : List ABlk := [b_X5_rhyme_0, b_X5_rhyme_1, b_X5_rhyme_2, b_X5_rhyme_3, b_X5_rhyme_4]
def md_X5_rhyme : MDat := (yX5_rhyme, (cX5_rhyme, (3, (some .int, (false, (2, (5, ([497, 495, 496, 118], k_X5_rhyme))))))))
def n_X5_rhyme : Nat := 2
def b_X5_begins_0 : ABlk := (0, ([true, true, true, false], [(.aload_n 0, []), (.getfield 10, [1, 5, 0, 1, 0, 277]), (.iload_n 1, []), (.iload_n 2, []), (.invokevirtual 107, [174, 3, 1, 503]), (.ifCond .ne 9, [1]), (.aload_n 0, []), (.iconst (-1), []), (.invokevirtual 57, [56, 2, 0, 315]), (.ireturn, [])]))
def b_X5_begins_1 : ABlk := (18, ([true, true, true, false], [(.aload_n 0, []), (.getfield 10, [1, 5, 0, 1, 0, 277]), (.getfield 104, [1, 0, 2, 2, 1, 152]), (.iload_n 1, []), (.iaload, []), (.istore_n 3, []), (.aload_n 0, []), (.getfield 10, [1, 5, 0, 1, 0, 277]), (.getfield 104, [1, 0, 2, 2, 1, 152]), (.iload_n 1, []), (.iload_n 2, []), (.iastore, []), (.iload_n 3, []), (.ireturn, [])]))
def k_X5_begins : List ABlk := [b_X5_begins_0, b_X5_begins_1]
def md_X5_begins : MDat := (yX5_begins, (cX5_begins, (4, (some .int, (false, (2, (5, ([502, 500, 501, 118], k_X5_begins))))))))
def n_X5_begins : Nat := 3
def b_X5_says_0 : ABlk := (0, ([true, true, true], [(.aload_n 0, []), (.getfield 10, [1, 5, 0, 1, 0, 277]), (.iload_n 1, []), (.invokevirtual 97, [173, 2, 1, 498]), (.ifCond .ne 9, [1]), (.aload_n 0, []), (.iconst (-1), []), (.invokevirtual 57, [56, 2, 0, 315]), (.ireturn, [])]))
def b_X5_says_1 : ABlk := (17, ([true, true, true], [(.iload_n 2, []), (.ifCond .ge 10, [2]), (.aload_n 0, []), (.bipush (-4), []), (.invokevirtual 57, [56, 2, 0, 315]), (.ireturn, [])]))
def b_X5_says_2 : ABlk := (28, ([true, true, true], [(.iload_n 2, []), (.sipush 30000, []), (.if_icmp .le 10, [3]), (.aload_n 0, []), (.bipush (-6), []), (.invokevirtual 57, [56, 2, 0, 315]), (.ireturn, [])]))
def b_X5_says_3 : ABlk := (42, ([true, true, true], [(.aload_n 0, []), (.getfield 10, [1, 5, 0, 1, 0, 277]), (.iload_n 1, []), (.iload_n 2, []), (.invokevirtual 111, [176, 3, 1, 508]), (.ireturn, [])]))
def k_X5_says : List ABlk := [b_X5_says_0, b_X5_says_1, b_X5_says_2, b_X5_says_3]
def md_X5_says : MDat := (yX5_says, (cX5_says, (3, (some .int, (false, (2, (5, ([507, 505, 506, 118], k_X5_says))))))))
def n_X5_says : Nat := 4
def b_X5_both_0 : ABlk := (0, ([true, true, false, false], [(.iload_n 1, []), (.iconst (-1), []), (.if_icmp .ge 10, [1]), (.aload_n 0, []), (.bipush (-4), []), (.invokevirtual 57, [56, 2, 0, 315]), (.ireturn, [])]))
def b_X5_both_1 : ABlk := (12, ([true, true, false, false], [(.iload_n 1, []), (.sipush 30000, []), (.if_icmp .le 10, [2]), (.aload_n 0, []), (.bipush (-6), []), (.invokevirtual 57, [56, 2, 0, 315]), (.ireturn, [])]))
def b_X5_both_2 : ABlk := (26, ([true, true, false, false], [(.aload_n 0, []), (.getfield 10, [1, 5, 0, 1, 0, 277]), (.getfield 114, [0, 0, 0, 1, 147]), (.ifCond .eq 17, [3]), (.aload_n 0, []), (.getfield 117, [0, 5, 7, 0, 284]), (.aload_n 0, []), (.getfield 10, [1, 5, 0, 1, 0, 277]), (.getfield 114, [0, 0, 0, 1, 147]), (.if_icmp .eq 10, [4]), (.nop, [3])]))
def b_X5_both_3 : ABlk := (50, ([true, false, false, false], [(.aload_n 0, []), (.bipush (-3), []), (.invokevirtual 57, [56, 2, 0, 315]), (.ireturn, [])]))
def b_X5_both_4 : ABlk := (57, ([true, true, false, false], [(.aload_n 0, []), (.invokevirtual 120, [6, 1, 0, 516]), (.istore_n 2, []), (.iload_n 1, []), (.iconst (-1), []), (.if_icmp .ne 5, [5]), (.iload_n 2, []), (.ireturn, [])]))
def b_X5_both_5 : ABlk := (69, ([true, true, true, false], [(.iload_n 2, []), (.bipush (-9), []), (.if_icmp .eq 8, [6]), (.iload_n 2, []), (.iload_n 1, []), (.if_icmp .le 5, [7]), (.nop, [6])]))
def b_X5_both_6 : ABlk := (80, ([false, false, false, false], [(.iconst 0, []), (.ireturn, [])]))
def b_X5_both_7 : ABlk := (82, ([true, true, true, false], [(.aload_n 0, []), (.invokevirtual 123, [7, 1, 0, 526]), (.istore_n 3, []), (.iload_n 3, []), (.iconst 1, []), (.if_icmp .ge 7, [8]), (.iconst 0, []), (.goto 10, [9])]))
def b_X5_both_8 : ABlk := (96, ([false, true, true, true], [(.iload_n 1, []), (.iload_n 2, []), (.isub, []), (.iload_n 3, []), (.idiv, []), (.iconst 1, []), (.iadd, []), (.nop, [9])]))
def b_X5_both_9 : ABlk := (103, ([false, false, false, false], [(.ireturn, [])]))
def k_X5_both : List ABlk := [b_X5_both_0, b_X5_both_1, b_X5_both_2, b_X5_both_3, b_X5_both_4, b_X5_both_5, b_X5_both_6, b_X5_both_7, b_X5_both_8, b_X5_both_9]
def md_X5_both : MDat := (yX5_both, (cX5_both, (4, (some .int, (false, (1, (5, ([515, 513, 514, 118], k_X5_both))))))))
def n_X5_both : Nat := 5
def b_X5_leastSaidByAll_0 : ABlk := (0, ([true, false, false, false, false], [(.iconst 1, []), (.istore_n 1, []), (.iconst 1, []), (.istore_n 2, []), (.iconst 0, []), (.istore_n 3, []), (.nop, [1])]))
def b_X5_leastSaidByAll_1 : ABlk := (6, ([true, true, true, true, false], [(.iload_n 3, []), (.aload_n 0, []), (.getfield 10, [1, 5, 0, 1, 0, 277]), (.getfield 114, [0, 0, 0, 1, 147]), (.if_icmp .ge 104, [7]), (.iload_n 3, []), (.aload_n 0, []), (.getfield 117, [0, 5, 7, 0, 284]), (.if_icmp .ge 96, [7]), (.aload_n 0, []), (.getfield 36, [1, 5, 6, 31, 0, 283]), (.iload_n 3, []), (.iaload, []), (.bipush 99, []), (.if_icmp .ne 6, [2]), (.goto 76, [6])]))
def b_X5_leastSaidByAll_2 : ABlk := (39, ([true, true, true, true, false], [(.iconst 0, []), (.istore 4, []), (.nop, [3])]))
def b_X5_leastSaidByAll_3 : ABlk := (42, ([true, true, true, true, true], [(.iload 4, []), (.bipush 12, []), (.if_icmp .ge 31, [4]), (.aload_n 0, []), (.getfield 10, [1, 5, 0, 1, 0, 277]), (.iload_n 3, []), (.iload_n 1, []), (.invokevirtual 111, [176, 3, 1, 508]), (.aload_n 0, []), (.getfield 36, [1, 5, 6, 31, 0, 283]), (.iload_n 3, []), (.iaload, []), (.if_icmp .eq 13, [4]), (.iload_n 1, []), (.iload_n 2, []), (.iadd, []), (.istore_n 1, []), (.iinc 4 1, []), (.goto (-32), [3])]))
def b_X5_leastSaidByAll_4 : ABlk := (77, ([true, true, true, true, false], [(.aload_n 0, []), (.getfield 10, [1, 5, 0, 1, 0, 277]), (.iload_n 3, []), (.iload_n 1, []), (.invokevirtual 111, [176, 3, 1, 508]), (.aload_n 0, []), (.getfield 36, [1, 5, 6, 31, 0, 283]), (.iload_n 3, []), (.iaload, []), (.if_icmp .eq 6, [5]), (.bipush (-9), []), (.ireturn, [])]))
def b_X5_leastSaidByAll_5 : ABlk := (98, ([true, true, true, true, false], [(.iload_n 2, []), (.aload_n 0, []), (.getfield 10, [1, 5, 0, 1, 0, 277]), (.getfield 101, [1, 0, 1, 1, 1, 149]), (.iload_n 3, []), (.iaload, []), (.invokestatic 126, [60, 2, 0, 520]), (.istore_n 2, []), (.nop, [6])]))
def b_X5_leastSaidByAll_6 : ABlk := (112, ([true, true, true, true, false], [(.iinc 3 1, []), (.goto (-109), [1])]))
def b_X5_leastSaidByAll_7 : ABlk := (118, ([false, true, false, false, false], [(.iload_n 1, []), (.ireturn, [])]))
def k_X5_leastSaidByAll : List ABlk := [b_X5_leastSaidByAll_0, b_X5_leastSaidByAll_1, b_X5_leastSaidByAll_2, b_X5_leastSaidByAll_3, b_X5_leastSaidByAll_4, b_X5_leastSaidByAll_5, b_X5_leastSaidByAll_6, b_X5_leastSaidByAll_7]
def md_X5_leastSaidByAll : MDat := (yX5_leastSaidByAll, (cX5_leastSaidByAll, (5, (some .int, (false, (0, (5, ([519, 518, 26, 118], k_X5_leastSaidByAll))))))))
def n_X5_leastSaidByAll : Nat := 6
def b_X5_cycleOfTold_0 : ABlk := (0, ([true, false, false], [(.iconst 1, []), (.istore_n 1, []), (.iconst 0, []), (.istore_n 2, []), (.nop, [1])]))
def b_X5_cycleOfTold_1 : ABlk := (4, ([true, true, true], [(.iload_n 2, []), (.aload_n 0, []), (.getfield 10, [1, 5, 0, 1, 0, 277]), (.getfield 114, [0, 0, 0, 1, 147]), (.if_icmp .ge 42, [3]), (.iload_n 2, []), (.aload_n 0, []), (.getfield 117, [0, 5, 7, 0, 284]), (.if_icmp .ge 34, [3]), (.aload_n 0, []), (.getfield 36, [1, 5, 6, 31, 0, 283]), (.iload_n 2, []), (.iaload, []), (.bipush 99, []), (.if_icmp .eq 17, [2]), (.iload_n 1, []), (.aload_n 0, []), (.getfield 10, [1, 5, 0, 1, 0, 277]), (.getfield 101, [1, 0, 1, 1, 1, 149]), (.iload_n 2, []), (.iaload, []), (.invokestatic 126, [60, 2, 0, 520]), (.istore_n 1, []), (.nop, [2])]))
def b_X5_cycleOfTold_2 : ABlk := (48, ([true, true, true], [(.iinc 2 1, []), (.goto (-47), [1])]))
def b_X5_cycleOfTold_3 : ABlk := (54, ([false, true, false], [(.iload_n 1, []), (.ireturn, [])]))
def k_X5_cycleOfTold : List ABlk := [b_X5_cycleOfTold_0, b_X5_cycleOfTold_1, b_X5_cycleOfTold_2, b_X5_cycleOfTold_3]
def md_X5_cycleOfTold : MDat := (yX5_cycleOfTold, (cX5_cycleOfTold, (3, (some .int, (false, (0, (5, ([529, 528, 27, 118], k_X5_cycleOfTold))))))))
def n_X5_cycleOfTold : Nat := 7
def b_X5_cycle_0 : ABlk := (0, ([true, false, false], [(.iconst 1, []), (.istore_n 1, []), (.iconst 0, []), (.istore_n 2, []), (.nop, [1])]))
def b_X5_cycle_1 : ABlk := (4, ([true, true, true], [(.iload_n 2, []), (.aload_n 0, []), (.getfield 10, [1, 5, 0, 1, 0, 277]), (.getfield 114, [0, 0, 0, 1, 147]), (.if_icmp .ge 23, [2]), (.iload_n 1, []), (.aload_n 0, []), (.getfield 10, [1, 5, 0, 1, 0, 277]), (.getfield 101, [1, 0, 1, 1, 1, 149]), (.iload_n 2, []), (.iaload, []), (.invokestatic 126, [60, 2, 0, 520]), (.istore_n 1, []), (.iinc 2 1, []), (.goto (-28), [1])]))
def b_X5_cycle_2 : ABlk := (35, ([false, true, false], [(.iload_n 1, []), (.ireturn, [])]))
def k_X5_cycle : List ABlk := [b_X5_cycle_0, b_X5_cycle_1, b_X5_cycle_2]
def md_X5_cycle : MDat := (yX5_cycle, (cX5_cycle, (3, (some .int, (false, (0, (5, ([533, 531, 532, 118], k_X5_cycle))))))))
def n_X5_cycle : Nat := 8
def b_X5_same_0 : ABlk := (0, ([true, true, true, false, false], [(.aload_n 0, []), (.getfield 10, [1, 5, 0, 1, 0, 277]), (.iload_n 1, []), (.invokevirtual 97, [173, 2, 1, 498]), (.ifCond .eq 19, [1]), (.aload_n 0, []), (.getfield 10, [1, 5, 0, 1, 0, 277]), (.iload_n 2, []), (.invokevirtual 97, [173, 2, 1, 498]), (.ifCond .eq 8, [1]), (.iload_n 1, []), (.iload_n 2, []), (.if_icmp .ne 9, [2]), (.nop, [1])]))
def b_X5_same_1 : ABlk := (27, ([true, false, false, false, false], [(.aload_n 0, []), (.iconst (-1), []), (.invokevirtual 57, [56, 2, 0, 315]), (.ireturn, [])]))
def b_X5_same_2 : ABlk := (33, ([true, true, true, false, false], [(.aload_n 0, []), (.getfield 10, [1, 5, 0, 1, 0, 277]), (.getfield 101, [1, 0, 1, 1, 1, 149]), (.iload_n 1, []), (.iaload, []), (.aload_n 0, []), (.getfield 10, [1, 5, 0, 1, 0, 277]), (.getfield 101, [1, 0, 1, 1, 1, 149]), (.iload_n 2, []), (.iaload, []), (.invokestatic 126, [60, 2, 0, 520]), (.istore_n 3, []), (.iconst 1, []), (.istore 4, []), (.nop, [3])]))
def b_X5_same_3 : ABlk := (58, ([true, true, true, true, true], [(.iload 4, []), (.iload_n 3, []), (.if_icmp .gt 35, [5]), (.aload_n 0, []), (.getfield 10, [1, 5, 0, 1, 0, 277]), (.iload_n 1, []), (.iload 4, []), (.invokevirtual 111, [176, 3, 1, 508]), (.aload_n 0, []), (.getfield 10, [1, 5, 0, 1, 0, 277]), (.iload_n 2, []), (.iload 4, []), (.invokevirtual 111, [176, 3, 1, 508]), (.if_icmp .ne 6, [4]), (.iload 4, []), (.ireturn, [])]))
def b_X5_same_4 : ABlk := (90, ([true, true, true, true, true], [(.iinc 4 1, []), (.goto (-35), [3])]))
def b_X5_same_5 : ABlk := (96, ([false, false, false, false, false], [(.bipush (-9), []), (.ireturn, [])]))
def k_X5_same : List ABlk := [b_X5_same_0, b_X5_same_1, b_X5_same_2, b_X5_same_3, b_X5_same_4, b_X5_same_5]
def md_X5_same : MDat := (yX5_same, (cX5_same, (5, (some .int, (false, (2, (5, ([537, 535, 536, 118], k_X5_same))))))))
def n_X5_same : Nat := 9
def b_X5_fair_0 : ABlk := (0, ([true, true, false, false, false, false], [(.iload_n 1, []), (.ifCond .eq 15, [1]), (.iload_n 1, []), (.iconst 1, []), (.if_icmp .eq 10, [1]), (.aload_n 0, []), (.bipush (-2), []), (.invokevirtual 57, [56, 2, 0, 315]), (.ireturn, [])]))
def b_X5_fair_1 : ABlk := (16, ([true, true, false, false, false, false], [(.aload_n 0, []), (.getfield 10, [1, 5, 0, 1, 0, 277]), (.getfield 114, [0, 0, 0, 1, 147]), (.ifCond .ne 10, [2]), (.aload_n 0, []), (.bipush (-3), []), (.invokevirtual 57, [56, 2, 0, 315]), (.ireturn, [])]))
def b_X5_fair_2 : ABlk := (33, ([true, true, false, false, false, false], [(.iconst 2, []), (.istore_n 2, []), (.iconst (-1), []), (.istore_n 3, []), (.iconst 2, []), (.istore 4, []), (.nop, [3])]))
def b_X5_fair_3 : ABlk := (40, ([true, true, true, true, true, false], [(.iload 4, []), (.bipush 12, []), (.if_icmp .gt 44, [5]), (.aload_n 0, []), (.getfield 10, [1, 5, 0, 1, 0, 277]), (.iload 4, []), (.aload_n 0, []), (.getfield 10, [1, 5, 0, 1, 0, 277]), (.getfield 104, [1, 0, 2, 2, 1, 152]), (.iconst 0, []), (.iaload, []), (.iload 4, []), (.irem, []), (.invokevirtual 129, [181, 3, 1, 542]), (.istore 5, []), (.iload 5, []), (.iload_n 3, []), (.if_icmp .le 9, [4]), (.iload 5, []), (.istore_n 3, []), (.iload 4, []), (.istore_n 2, []), (.nop, [4])]))
def b_X5_fair_4 : ABlk := (82, ([true, true, true, true, true, false], [(.iinc 4 1, []), (.goto (-45), [3])]))
def b_X5_fair_5 : ABlk := (88, ([false, true, true, true, false, false], [(.iload_n 1, []), (.ifCond .ne 7, [6]), (.iload_n 2, []), (.goto 4, [7])]))
def b_X5_fair_6 : ABlk := (96, ([false, false, false, true, false, false], [(.iload_n 3, []), (.nop, [7])]))
def b_X5_fair_7 : ABlk := (97, ([false, false, false, false, false, false], [(.ireturn, [])]))
def k_X5_fair : List ABlk := [b_X5_fair_0, b_X5_fair_1, b_X5_fair_2, b_X5_fair_3, b_X5_fair_4, b_X5_fair_5, b_X5_fair_6, b_X5_fair_7]
def md_X5_fair : MDat := (yX5_fair, (cX5_fair, (6, (some .int, (false, (1, (5, ([541, 539, 540, 118], k_X5_fair))))))))
def n_X5_fair : Nat := 10
def b_X5_rhymed_0 : ABlk := (0, ([true, true, false, false, false, false, false], [(.iload_n 1, []), (.ifCond .eq 15, [1]), (.iload_n 1, []), (.iconst 1, []), (.if_icmp .eq 10, [1]), (.aload_n 0, []), (.bipush (-2), []), (.invokevirtual 57, [56, 2, 0, 315]), (.ireturn, [])]))
def b_X5_rhymed_1 : ABlk := (16, ([true, true, false, false, false, false, false], [(.sipush 200, []), (.istore_n 2, []), (.iconst (-1), []), (.istore_n 3, []), (.iconst 2, []), (.istore 4, []), (.nop, [2])]))
def b_X5_rhymed_2 : ABlk := (25, ([true, true, true, true, true, false, false], [(.iload 4, []), (.bipush 12, []), (.if_icmp .gt 56, [6]), (.iconst 0, []), (.istore 5, []), (.nop, [3])]))
def b_X5_rhymed_3 : ABlk := (35, ([true, true, true, true, true, true, false], [(.iload 5, []), (.iload 4, []), (.if_icmp .ge 40, [5]), (.aload_n 0, []), (.getfield 10, [1, 5, 0, 1, 0, 277]), (.iload 4, []), (.iload 5, []), (.invokevirtual 129, [181, 3, 1, 542]), (.istore 6, []), (.iload 6, []), (.iload_n 3, []), (.if_icmp .le 15, [4]), (.iload 6, []), (.istore_n 3, []), (.bipush 100, []), (.iload 4, []), (.imul, []), (.iload 5, []), (.iadd, []), (.istore_n 2, []), (.nop, [4])]))
def b_X5_rhymed_4 : ABlk := (73, ([true, true, true, true, true, true, false], [(.iinc 5 1, []), (.goto (-41), [3])]))
def b_X5_rhymed_5 : ABlk := (79, ([true, true, true, true, true, false, false], [(.iinc 4 1, []), (.goto (-57), [2])]))
def b_X5_rhymed_6 : ABlk := (85, ([false, true, true, true, false, false, false], [(.iload_n 1, []), (.ifCond .ne 7, [7]), (.iload_n 2, []), (.goto 4, [8])]))
def b_X5_rhymed_7 : ABlk := (93, ([false, false, false, true, false, false, false], [(.iload_n 3, []), (.nop, [8])]))
def b_X5_rhymed_8 : ABlk := (94, ([false, false, false, false, false, false, false], [(.ireturn, [])]))
def k_X5_rhymed : List ABlk := [b_X5_rhymed_0, b_X5_rhymed_1, b_X5_rhymed_2, b_X5_rhymed_3, b_X5_rhymed_4, b_X5_rhymed_5, b_X5_rhymed_6, b_X5_rhymed_7, b_X5_rhymed_8]
def md_X5_rhymed : MDat := (yX5_rhymed, (cX5_rhymed, (7, (some .int, (false, (1, (5, ([549, 547, 548, 118], k_X5_rhymed))))))))
def n_X5_rhymed : Nat := 11
def b_X5_eater_0 : ABlk := (0, ([true, true, true], [(.aload_n 0, []), (.getfield 10, [1, 5, 0, 1, 0, 277]), (.iload_n 1, []), (.invokevirtual 132, [175, 2, 1, 554]), (.ifCond .ne 9, [1]), (.aload_n 0, []), (.iconst (-1), []), (.invokevirtual 57, [56, 2, 0, 315]), (.ireturn, [])]))
def b_X5_eater_1 : ABlk := (17, ([true, true, true], [(.iload_n 2, []), (.tableswitch 113 0 5 #[38, 48, 58, 68, 78, 96], [10, 2, 3, 4, 5, 6, 7])]))
def b_X5_eater_2 : ABlk := (56, ([true, true, false], [(.aload_n 0, []), (.getfield 10, [1, 5, 0, 1, 0, 277]), (.getfield 135, [1, 0, 4, 3, 1, 159]), (.iload_n 1, []), (.iaload, []), (.ireturn, [])]))
def b_X5_eater_3 : ABlk := (66, ([true, true, false], [(.aload_n 0, []), (.getfield 10, [1, 5, 0, 1, 0, 277]), (.getfield 138, [1, 0, 5, 4, 1, 161]), (.iload_n 1, []), (.iaload, []), (.ireturn, [])]))
def b_X5_eater_4 : ABlk := (76, ([true, true, false], [(.aload_n 0, []), (.getfield 10, [1, 5, 0, 1, 0, 277]), (.getfield 141, [1, 0, 6, 5, 1, 163]), (.iload_n 1, []), (.iaload, []), (.ireturn, [])]))
def b_X5_eater_5 : ABlk := (86, ([true, true, false], [(.aload_n 0, []), (.getfield 10, [1, 5, 0, 1, 0, 277]), (.getfield 144, [1, 0, 7, 6, 1, 168]), (.iload_n 1, []), (.iaload, []), (.ireturn, [])]))
def b_X5_eater_6 : ABlk := (96, ([true, true, false], [(.aload_n 0, []), (.getfield 10, [1, 5, 0, 1, 0, 277]), (.iconst 0, []), (.aload_n 0, []), (.getfield 10, [1, 5, 0, 1, 0, 277]), (.getfield 144, [1, 0, 7, 6, 1, 168]), (.iload_n 1, []), (.iaload, []), (.invokevirtual 111, [176, 3, 1, 508]), (.ireturn, [])]))
def b_X5_eater_7 : ABlk := (114, ([true, true, false], [(.aload_n 0, []), (.getfield 10, [1, 5, 0, 1, 0, 277]), (.iload_n 1, []), (.invokevirtual 147, [179, 2, 1, 555]), (.ifCond .eq 7, [8]), (.iconst 1, []), (.goto 4, [9])]))
def b_X5_eater_8 : ABlk := (129, ([false, false, false], [(.iconst 0, []), (.nop, [9])]))
def b_X5_eater_9 : ABlk := (130, ([false, false, false], [(.ireturn, [])]))
def b_X5_eater_10 : ABlk := (131, ([true, false, false], [(.aload_n 0, []), (.bipush (-2), []), (.invokevirtual 57, [56, 2, 0, 315]), (.ireturn, [])]))
def k_X5_eater : List ABlk := [b_X5_eater_0, b_X5_eater_1, b_X5_eater_2, b_X5_eater_3, b_X5_eater_4, b_X5_eater_5, b_X5_eater_6, b_X5_eater_7, b_X5_eater_8, b_X5_eater_9, b_X5_eater_10]
def md_X5_eater : MDat := (yX5_eater, (cX5_eater, (3, (some .int, (false, (2, (5, ([553, 551, 552, 118], k_X5_eater))))))))
def n_X5_eater : Nat := 12
def b_X5_lay_0 : ABlk := (0, ([true, true, true, true, false, false], [(.aload_n 0, []), (.getfield 10, [1, 5, 0, 1, 0, 277]), (.iload_n 1, []), (.invokevirtual 132, [175, 2, 1, 554]), (.ifCond .ne 9, [1]), (.aload_n 0, []), (.iconst (-1), []), (.invokevirtual 57, [56, 2, 0, 315]), (.ireturn, [])]))
def b_X5_lay_1 : ABlk := (17, ([true, true, true, true, false, false], [(.iload_n 2, []), (.ifCond .eq 15, [2]), (.iload_n 2, []), (.iconst 1, []), (.if_icmp .eq 10, [2]), (.aload_n 0, []), (.bipush (-2), []), (.invokevirtual 57, [56, 2, 0, 315]), (.ireturn, [])]))
def b_X5_lay_2 : ABlk := (33, ([true, true, true, true, false, false], [(.iload_n 3, []), (.ifCond .ge 10, [3]), (.aload_n 0, []), (.bipush (-4), []), (.invokevirtual 57, [56, 2, 0, 315]), (.ireturn, [])]))
def b_X5_lay_3 : ABlk := (44, ([true, true, true, true, false, false], [(.iload_n 3, []), (.iload_n 2, []), (.ifCond .ne 8, [4]), (.bipush 99, []), (.goto 5, [5])]))
def b_X5_lay_4 : ABlk := (54, ([true, true, true, true, false, false], [(.bipush 11, []), (.nop, [5])]))
def b_X5_lay_5 : ABlk := (56, ([true, true, true, true, false, false], [(.if_icmp .le 10, [6]), (.aload_n 0, []), (.bipush (-6), []), (.invokevirtual 57, [56, 2, 0, 315]), (.ireturn, [])]))
def b_X5_lay_6 : ABlk := (66, ([true, true, true, true, false, false], [(.iload_n 2, []), (.ifCond .ne 13, [7]), (.aload_n 0, []), (.getfield 10, [1, 5, 0, 1, 0, 277]), (.getfield 144, [1, 0, 7, 6, 1, 168]), (.goto 10, [8])]))
def b_X5_lay_7 : ABlk := (80, ([true, true, false, true, false, false], [(.aload_n 0, []), (.getfield 10, [1, 5, 0, 1, 0, 277]), (.getfield 141, [1, 0, 6, 5, 1, 163]), (.nop, [8])]))
def b_X5_lay_8 : ABlk := (87, ([true, true, false, true, false, false], [(.astore 4, []), (.aload 4, []), (.iload_n 1, []), (.iaload, []), (.istore 5, []), (.aload 4, []), (.iload_n 1, []), (.iload_n 3, []), (.iastore, []), (.aload_n 0, []), (.getfield 32, [1, 5, 5, 27, 0, 282]), (.invokevirtual 94, [217, 1, 1, 489]), (.iload 5, []), (.ireturn, [])]))
def k_X5_lay : List ABlk := [b_X5_lay_0, b_X5_lay_1, b_X5_lay_2, b_X5_lay_3, b_X5_lay_4, b_X5_lay_5, b_X5_lay_6, b_X5_lay_7, b_X5_lay_8]
def md_X5_lay : MDat := (yX5_lay, (cX5_lay, (6, (some .int, (false, (3, (5, ([562, 560, 561, 118], k_X5_lay))))))))
def n_X5_lay : Nat := 13
def b_X5_kind_0 : ABlk := (0, ([true, true, true, true, false], [(.aload_n 0, []), (.getfield 10, [1, 5, 0, 1, 0, 277]), (.iload_n 1, []), (.invokevirtual 132, [175, 2, 1, 554]), (.ifCond .ne 9, [1]), (.aload_n 0, []), (.iconst (-1), []), (.invokevirtual 57, [56, 2, 0, 315]), (.ireturn, [])]))
def b_X5_kind_1 : ABlk := (17, ([true, true, true, true, false], [(.iload_n 2, []), (.ifCond .lt 9, [2]), (.iload_n 2, []), (.bipush 6, []), (.if_icmp .lt 10, [3]), (.nop, [2])]))
def b_X5_kind_2 : ABlk := (27, ([true, false, false, false, false], [(.aload_n 0, []), (.bipush (-2), []), (.invokevirtual 57, [56, 2, 0, 315]), (.ireturn, [])]))
def b_X5_kind_3 : ABlk := (34, ([true, true, true, true, false], [(.iload_n 3, []), (.ifCond .ge 10, [4]), (.aload_n 0, []), (.bipush (-4), []), (.invokevirtual 57, [56, 2, 0, 315]), (.ireturn, [])]))
def b_X5_kind_4 : ABlk := (45, ([true, true, true, true, false], [(.iload_n 3, []), (.bipush 9, []), (.if_icmp .le 10, [5]), (.aload_n 0, []), (.bipush (-6), []), (.invokevirtual 57, [56, 2, 0, 315]), (.ireturn, [])]))
def b_X5_kind_5 : ABlk := (58, ([true, true, true, true, false], [(.bipush 10, []), (.aload_n 0, []), (.getfield 10, [1, 5, 0, 1, 0, 277]), (.getfield 135, [1, 0, 4, 3, 1, 159]), (.iload_n 1, []), (.iaload, []), (.imul, []), (.aload_n 0, []), (.getfield 10, [1, 5, 0, 1, 0, 277]), (.getfield 138, [1, 0, 5, 4, 1, 161]), (.iload_n 1, []), (.iaload, []), (.iadd, []), (.istore 4, []), (.aload_n 0, []), (.getfield 10, [1, 5, 0, 1, 0, 277]), (.getfield 135, [1, 0, 4, 3, 1, 159]), (.iload_n 1, []), (.iload_n 2, []), (.iastore, []), (.aload_n 0, []), (.getfield 10, [1, 5, 0, 1, 0, 277]), (.getfield 138, [1, 0, 5, 4, 1, 161]), (.iload_n 1, []), (.iload_n 3, []), (.iastore, []), (.aload_n 0, []), (.getfield 32, [1, 5, 5, 27, 0, 282]), (.invokevirtual 94, [217, 1, 1, 489]), (.iload 4, []), (.ireturn, [])]))
def k_X5_kind : List ABlk := [b_X5_kind_0, b_X5_kind_1, b_X5_kind_2, b_X5_kind_3, b_X5_kind_4, b_X5_kind_5]
def md_X5_kind : MDat := (yX5_kind, (cX5_kind, (5, (some .int, (false, (3, (5, ([566, 564, 565, 118], k_X5_kind))))))))
def n_X5_kind : Nat := 14
def b_X5_set_0 : ABlk := (0, ([true, true, true, false, false], [(.aload_n 0, []), (.iload_n 1, []), (.iload_n 2, []), (.invokevirtual 150, [16, 3, 0, 571]), (.istore_n 3, []), (.iload_n 3, []), (.ifCond .eq 9, [1]), (.aload_n 0, []), (.iload_n 3, []), (.invokevirtual 57, [56, 2, 0, 315]), (.ireturn, [])]))
def b_X5_set_1 : ABlk := (17, ([true, true, true, false, false], [(.iload_n 1, []), (.tableswitch 86 0 2 #[26, 46, 66], [5, 2, 3, 4])]))
def b_X5_set_2 : ABlk := (44, ([true, false, true, false, false], [(.aload_n 0, []), (.getfield 10, [1, 5, 0, 1, 0, 277]), (.getfield 153, [0, 0, 8, 1, 173]), (.istore 4, []), (.aload_n 0, []), (.getfield 10, [1, 5, 0, 1, 0, 277]), (.iload_n 2, []), (.putfield 153, [0, 0, 8, 1, 173]), (.goto 60, [6])]))
def b_X5_set_3 : ABlk := (64, ([true, false, true, false, false], [(.aload_n 0, []), (.getfield 10, [1, 5, 0, 1, 0, 277]), (.getfield 156, [0, 0, 9, 1, 175]), (.istore 4, []), (.aload_n 0, []), (.getfield 10, [1, 5, 0, 1, 0, 277]), (.iload_n 2, []), (.putfield 156, [0, 0, 9, 1, 175]), (.goto 40, [6])]))
def b_X5_set_4 : ABlk := (84, ([true, false, true, false, false], [(.aload_n 0, []), (.getfield 10, [1, 5, 0, 1, 0, 277]), (.getfield 159, [0, 0, 10, 1, 178]), (.istore 4, []), (.aload_n 0, []), (.getfield 10, [1, 5, 0, 1, 0, 277]), (.iload_n 2, []), (.putfield 159, [0, 0, 10, 1, 178]), (.goto 20, [6])]))
def b_X5_set_5 : ABlk := (104, ([true, false, true, false, false], [(.aload_n 0, []), (.getfield 10, [1, 5, 0, 1, 0, 277]), (.getfield 162, [0, 0, 11, 1, 182]), (.istore 4, []), (.aload_n 0, []), (.getfield 10, [1, 5, 0, 1, 0, 277]), (.iload_n 2, []), (.putfield 162, [0, 0, 11, 1, 182]), (.nop, [6])]))
def b_X5_set_6 : ABlk := (121, ([true, false, false, false, true], [(.aload_n 0, []), (.getfield 32, [1, 5, 5, 27, 0, 282]), (.invokevirtual 94, [217, 1, 1, 489]), (.iload 4, []), (.ireturn, [])]))
def k_X5_set : List ABlk := [b_X5_set_0, b_X5_set_1, b_X5_set_2, b_X5_set_3, b_X5_set_4, b_X5_set_5, b_X5_set_6]
def md_X5_set : MDat := (yX5_set, (cX5_set, (5, (some .int, (false, (2, (5, ([570, 568, 569, 118], k_X5_set))))))))
def n_X5_set : Nat := 15
def b_X5_refusalToSet_0 : ABlk := (0, ([true, true, true, false], [(.iload_n 1, []), (.ifCond .lt 8, [1]), (.iload_n 1, []), (.iconst 3, []), (.if_icmp .le 6, [2]), (.nop, [1])]))
def b_X5_refusalToSet_1 : ABlk := (9, ([false, false, false, false], [(.bipush (-2), []), (.ireturn, [])]))
def b_X5_refusalToSet_2 : ABlk := (12, ([true, true, true, false], [(.iload_n 1, []), (.iconst 3, []), (.if_icmp .ne 20, [5]), (.aload_n 0, []), (.getfield 10, [1, 5, 0, 1, 0, 277]), (.iload_n 2, []), (.invokevirtual 132, [175, 2, 1, 554]), (.ifCond .eq 7, [3]), (.iconst 0, []), (.goto 4, [4])]))
def b_X5_refusalToSet_3 : ABlk := (32, ([false, false, false, false], [(.iconst (-1), []), (.nop, [4])]))
def b_X5_refusalToSet_4 : ABlk := (33, ([false, false, false, false], [(.ireturn, [])]))
def b_X5_refusalToSet_5 : ABlk := (34, ([false, true, true, false], [(.iload_n 2, []), (.iload_n 1, []), (.ifCond .ne 7, [6]), (.iconst 0, []), (.goto 4, [7])]))
def b_X5_refusalToSet_6 : ABlk := (43, ([false, true, true, false], [(.iconst 1, []), (.nop, [7])]))
def b_X5_refusalToSet_7 : ABlk := (44, ([false, true, true, false], [(.if_icmp .ge 6, [8]), (.bipush (-4), []), (.ireturn, [])]))
def b_X5_refusalToSet_8 : ABlk := (50, ([false, true, true, false], [(.iload_n 1, []), (.ifCond .ne 8, [9]), (.bipush 60, []), (.goto 14, [11])]))
def b_X5_refusalToSet_9 : ABlk := (59, ([false, true, true, false], [(.iload_n 1, []), (.iconst 1, []), (.if_icmp .ne 7, [10]), (.iconst 4, []), (.goto 5, [11])]))
def b_X5_refusalToSet_10 : ABlk := (68, ([false, false, true, false], [(.bipush 6, []), (.nop, [11])]))
def b_X5_refusalToSet_11 : ABlk := (70, ([false, false, true, false], [(.istore_n 3, []), (.iload_n 2, []), (.iload_n 3, []), (.if_icmp .le 8, [12]), (.bipush (-6), []), (.goto 4, [13])]))
def b_X5_refusalToSet_12 : ABlk := (81, ([false, false, false, false], [(.iconst 0, []), (.nop, [13])]))
def b_X5_refusalToSet_13 : ABlk := (82, ([false, false, false, false], [(.ireturn, [])]))
def k_X5_refusalToSet : List ABlk := [b_X5_refusalToSet_0, b_X5_refusalToSet_1, b_X5_refusalToSet_2, b_X5_refusalToSet_3, b_X5_refusalToSet_4, b_X5_refusalToSet_5, b_X5_refusalToSet_6, b_X5_refusalToSet_7, b_X5_refusalToSet_8, b_X5_refusalToSet_9, b_X5_refusalToSet_10, b_X5_refusalToSet_11, b_X5_refusalToSet_12, b_X5_refusalToSet_13]
def md_X5_refusalToSet : MDat := (yX5_refusalToSet, (cX5_refusalToSet, (4, (some .int, (false, (2, (5, ([574, 573, 30, 118], k_X5_refusalToSet))))))))
def n_X5_refusalToSet : Nat := 16
def b_X5_turn_0 : ABlk := (0, ([true], [(.aload_n 0, []), (.getfield 10, [1, 5, 0, 1, 0, 277]), (.getfield 165, [0, 0, 3, 1, 157]), (.ifCond .ne 10, [1]), (.aload_n 0, []), (.bipush (-3), []), (.invokevirtual 57, [56, 2, 0, 315]), (.ireturn, [])]))
def b_X5_turn_1 : ABlk := (17, ([true], [(.aload_n 0, []), (.getfield 32, [1, 5, 5, 27, 0, 282]), (.aload_n 0, []), (.getfield 10, [1, 5, 0, 1, 0, 277]), (.invokevirtual 168, [218, 2, 1, 579]), (.aload_n 0, []), (.getfield 10, [1, 5, 0, 1, 0, 277]), (.invokevirtual 171, [189, 1, 1, 589]), (.ireturn, [])]))
def k_X5_turn : List ABlk := [b_X5_turn_0, b_X5_turn_1]
def md_X5_turn : MDat := (yX5_turn, (cX5_turn, (1, (some .int, (false, (0, (5, ([578, 576, 577, 118], k_X5_turn))))))))
def n_X5_turn : Nat := 17
def b_X5_back_0 : ABlk := (0, ([true], [(.aload_n 0, []), (.getfield 32, [1, 5, 5, 27, 0, 282]), (.getfield 174, [0, 3, 3, 1, 243]), (.ifCond .ne 10, [1]), (.aload_n 0, []), (.bipush (-3), []), (.invokevirtual 57, [56, 2, 0, 315]), (.ireturn, [])]))
def b_X5_back_1 : ABlk := (17, ([true], [(.aload_n 0, []), (.getfield 32, [1, 5, 5, 27, 0, 282]), (.aload_n 0, []), (.getfield 10, [1, 5, 0, 1, 0, 277]), (.invokevirtual 175, [220, 2, 1, 594]), (.ireturn, [])]))
def k_X5_back : List ABlk := [b_X5_back_0, b_X5_back_1]
def md_X5_back : MDat := (yX5_back, (cX5_back, (1, (some .int, (false, (0, (5, ([593, 591, 592, 118], k_X5_back))))))))
def n_X5_back : Nat := 18
def b_X5_supper_0 : ABlk := (0, ([true, true, false], [(.iload_n 1, []), (.ifCond .lt 8, [1]), (.iload_n 1, []), (.iconst 2, []), (.if_icmp .le 10, [2]), (.nop, [1])]))
def b_X5_supper_1 : ABlk := (9, ([true, false, false], [(.aload_n 0, []), (.bipush (-2), []), (.invokevirtual 57, [56, 2, 0, 315]), (.ireturn, [])]))
def b_X5_supper_2 : ABlk := (16, ([true, true, false], [(.aload_n 0, []), (.getfield 10, [1, 5, 0, 1, 0, 277]), (.getfield 165, [0, 0, 3, 1, 157]), (.ifCond .ne 10, [3]), (.aload_n 0, []), (.bipush (-3), []), (.invokevirtual 57, [56, 2, 0, 315]), (.ireturn, [])]))
def b_X5_supper_3 : ABlk := (33, ([true, true, false], [(.aload_n 0, []), (.getfield 16, [1, 5, 1, 9, 0, 278]), (.aload_n 0, []), (.getfield 10, [1, 5, 0, 1, 0, 277]), (.invokevirtual 77, [172, 2, 1, 404]), (.aload_n 0, []), (.getfield 16, [1, 5, 1, 9, 0, 278]), (.invokevirtual 179, [194, 1, 1, 602]), (.istore_n 2, []), (.iload_n 1, []), (.ifCond .ne 5, [4]), (.iload_n 2, []), (.ireturn, [])]))
def b_X5_supper_4 : ABlk := (58, ([true, true, false], [(.iload_n 1, []), (.iconst 1, []), (.if_icmp .ne 13, [5]), (.aload_n 0, []), (.getfield 16, [1, 5, 1, 9, 0, 278]), (.getfield 153, [0, 0, 8, 1, 173]), (.goto 10, [6])]))
def b_X5_supper_5 : ABlk := (73, ([true, false, false], [(.aload_n 0, []), (.getfield 16, [1, 5, 1, 9, 0, 278]), (.invokevirtual 182, [180, 1, 1, 607]), (.nop, [6])]))
def b_X5_supper_6 : ABlk := (80, ([false, false, false], [(.ireturn, [])]))
def k_X5_supper : List ABlk := [b_X5_supper_0, b_X5_supper_1, b_X5_supper_2, b_X5_supper_3, b_X5_supper_4, b_X5_supper_5, b_X5_supper_6]
def md_X5_supper : MDat := (yX5_supper, (cX5_supper, (3, (some .int, (false, (1, (5, ([601, 599, 600, 118], k_X5_supper))))))))
def n_X5_supper : Nat := 19
def b_X5_behind_0 : ABlk := (0, ([true, true], [(.aload_n 0, []), (.getfield 10, [1, 5, 0, 1, 0, 277]), (.iload_n 1, []), (.invokevirtual 132, [175, 2, 1, 554]), (.ifCond .ne 9, [1]), (.aload_n 0, []), (.iconst (-1), []), (.invokevirtual 57, [56, 2, 0, 315]), (.ireturn, [])]))
def b_X5_behind_1 : ABlk := (17, ([true, true], [(.aload_n 0, []), (.getfield 16, [1, 5, 1, 9, 0, 278]), (.aload_n 0, []), (.getfield 10, [1, 5, 0, 1, 0, 277]), (.invokevirtual 77, [172, 2, 1, 404]), (.aload_n 0, []), (.getfield 16, [1, 5, 1, 9, 0, 278]), (.invokevirtual 179, [194, 1, 1, 602]), (.pop, []), (.aload_n 0, []), (.getfield 16, [1, 5, 1, 9, 0, 278]), (.getfield 144, [1, 0, 7, 6, 1, 168]), (.iload_n 1, []), (.iaload, []), (.ireturn, [])]))
def k_X5_behind : List ABlk := [b_X5_behind_0, b_X5_behind_1]
def md_X5_behind : MDat := (yX5_behind, (cX5_behind, (2, (some .int, (false, (1, (5, ([615, 613, 614, 118], k_X5_behind))))))))
def n_X5_behind : Nat := 20
def b_X5_best_0 : ABlk := (0, ([true, true, false], [(.aload_n 0, []), (.getfield 10, [1, 5, 0, 1, 0, 277]), (.iload_n 1, []), (.invokevirtual 132, [175, 2, 1, 554]), (.ifCond .ne 9, [1]), (.aload_n 0, []), (.iconst (-1), []), (.invokevirtual 57, [56, 2, 0, 315]), (.ireturn, [])]))
def b_X5_best_1 : ABlk := (17, ([true, true, false], [(.iconst 0, []), (.istore_n 2, []), (.nop, [2])]))
def b_X5_best_2 : ABlk := (19, ([true, true, true], [(.iload_n 2, []), (.bipush 6, []), (.if_icmp .ge 51, [4]), (.aload_n 0, []), (.getfield 16, [1, 5, 1, 9, 0, 278]), (.aload_n 0, []), (.getfield 10, [1, 5, 0, 1, 0, 277]), (.invokevirtual 77, [172, 2, 1, 404]), (.aload_n 0, []), (.getfield 16, [1, 5, 1, 9, 0, 278]), (.getfield 135, [1, 0, 4, 3, 1, 159]), (.iload_n 1, []), (.iload_n 2, []), (.iastore, []), (.aload_n 0, []), (.getfield 16, [1, 5, 1, 9, 0, 278]), (.invokevirtual 179, [194, 1, 1, 602]), (.pop, []), (.aload_n 0, []), (.getfield 16, [1, 5, 1, 9, 0, 278]), (.iload_n 1, []), (.invokevirtual 147, [179, 2, 1, 555]), (.ifCond .eq 5, [3]), (.iload_n 2, []), (.ireturn, [])]))
def b_X5_best_3 : ABlk := (67, ([true, true, true], [(.iinc 2 1, []), (.goto (-51), [2])]))
def b_X5_best_4 : ABlk := (73, ([false, false, false], [(.bipush (-9), []), (.ireturn, [])]))
def k_X5_best : List ABlk := [b_X5_best_0, b_X5_best_1, b_X5_best_2, b_X5_best_3, b_X5_best_4]
def md_X5_best : MDat := (yX5_best, (cX5_best, (3, (some .int, (false, (1, (5, ([619, 617, 618, 118], k_X5_best))))))))
def n_X5_best : Nat := 21
def b_X5_rims_0 : ABlk := (0, ([true, false, false], [(.aload_n 0, []), (.getfield 10, [1, 5, 0, 1, 0, 277]), (.getfield 165, [0, 0, 3, 1, 157]), (.ifCond .eq 17, [1]), (.aload_n 0, []), (.getfield 117, [0, 5, 7, 0, 284]), (.aload_n 0, []), (.getfield 10, [1, 5, 0, 1, 0, 277]), (.getfield 165, [0, 0, 3, 1, 157]), (.if_icmp .eq 10, [2]), (.nop, [1])]))
def b_X5_rims_1 : ABlk := (24, ([true, false, false], [(.aload_n 0, []), (.bipush (-3), []), (.invokevirtual 57, [56, 2, 0, 315]), (.ireturn, [])]))
def b_X5_rims_2 : ABlk := (31, ([true, false, false], [(.iconst 0, []), (.istore_n 1, []), (.iconst 0, []), (.istore_n 2, []), (.nop, [3])]))
def b_X5_rims_3 : ABlk := (35, ([true, true, true], [(.iload_n 2, []), (.aload_n 0, []), (.getfield 10, [1, 5, 0, 1, 0, 277]), (.getfield 165, [0, 0, 3, 1, 157]), (.if_icmp .ge 53, [5]), (.aload_n 0, []), (.getfield 16, [1, 5, 1, 9, 0, 278]), (.aload_n 0, []), (.getfield 10, [1, 5, 0, 1, 0, 277]), (.invokevirtual 77, [172, 2, 1, 404]), (.aload_n 0, []), (.getfield 16, [1, 5, 1, 9, 0, 278]), (.iload_n 2, []), (.putfield 162, [0, 0, 11, 1, 182]), (.aload_n 0, []), (.getfield 16, [1, 5, 1, 9, 0, 278]), (.invokevirtual 179, [194, 1, 1, 602]), (.pop, []), (.aload_n 0, []), (.aload_n 0, []), (.getfield 16, [1, 5, 1, 9, 0, 278]), (.invokevirtual 185, [23, 2, 0, 624]), (.ifCond .eq 9, [4]), (.iload_n 1, []), (.iconst 1, []), (.iload_n 2, []), (.ishl, []), (.ior, []), (.istore_n 1, []), (.nop, [4])]))
def b_X5_rims_4 : ABlk := (90, ([true, true, true], [(.iinc 2 1, []), (.goto (-58), [3])]))
def b_X5_rims_5 : ABlk := (96, ([false, true, false], [(.iload_n 1, []), (.ireturn, [])]))
def k_X5_rims : List ABlk := [b_X5_rims_0, b_X5_rims_1, b_X5_rims_2, b_X5_rims_3, b_X5_rims_4, b_X5_rims_5]
def md_X5_rims : MDat := (yX5_rims, (cX5_rims, (3, (some .int, (false, (0, (5, ([623, 621, 622, 118], k_X5_rims))))))))
def n_X5_rims : Nat := 22
def b_X5_bringsTold_0 : ABlk := (0, ([true, true, false], [(.iconst 0, []), (.istore_n 2, []), (.nop, [1])]))
def b_X5_bringsTold_1 : ABlk := (2, ([true, true, true], [(.iload_n 2, []), (.aload_n 1, []), (.getfield 165, [0, 0, 3, 1, 157]), (.if_icmp .ge 34, [3]), (.iload_n 2, []), (.aload_n 0, []), (.getfield 117, [0, 5, 7, 0, 284]), (.if_icmp .ge 26, [3]), (.aload_n 1, []), (.getfield 144, [1, 0, 7, 6, 1, 168]), (.iload_n 2, []), (.iaload, []), (.aload_n 0, []), (.getfield 36, [1, 5, 6, 31, 0, 283]), (.iload_n 2, []), (.iaload, []), (.if_icmp .eq 5, [2]), (.iconst 0, []), (.ireturn, [1])]))
def b_X5_bringsTold_2 : ABlk := (35, ([true, true, true], [(.iinc 2 1, []), (.goto (-36), [1])]))
def b_X5_bringsTold_3 : ABlk := (41, ([false, false, false], [(.iconst 1, []), (.ireturn, [1])]))
def k_X5_bringsTold : List ABlk := [b_X5_bringsTold_0, b_X5_bringsTold_1, b_X5_bringsTold_2, b_X5_bringsTold_3]
def md_X5_bringsTold : MDat := (yX5_bringsTold, (cX5_bringsTold, (3, (some .boolean, (false, (1, (5, ([627, 626, 36, 118], k_X5_bringsTold))))))))
def n_X5_bringsTold : Nat := 23
def b_X5_wished_0 : ABlk := (0, ([true, true, false, false], [(.aload_n 0, []), (.getfield 10, [1, 5, 0, 1, 0, 277]), (.iload_n 1, []), (.invokevirtual 132, [175, 2, 1, 554]), (.ifCond .ne 9, [1]), (.aload_n 0, []), (.iconst (-1), []), (.invokevirtual 57, [56, 2, 0, 315]), (.ireturn, [])]))
def b_X5_wished_1 : ABlk := (17, ([true, true, false, false], [(.aload_n 0, []), (.getfield 117, [0, 5, 7, 0, 284]), (.aload_n 0, []), (.getfield 10, [1, 5, 0, 1, 0, 277]), (.getfield 165, [0, 0, 3, 1, 157]), (.if_icmp .eq 10, [2]), (.aload_n 0, []), (.bipush (-3), []), (.invokevirtual 57, [56, 2, 0, 315]), (.ireturn, [])]))
def b_X5_wished_2 : ABlk := (38, ([true, true, false, false], [(.iconst 0, []), (.istore_n 2, []), (.iconst 0, []), (.istore_n 3, []), (.nop, [3])]))
def b_X5_wished_3 : ABlk := (42, ([true, true, true, true], [(.iload_n 3, []), (.bipush 12, []), (.if_icmp .ge 62, [5]), (.aload_n 0, []), (.getfield 16, [1, 5, 1, 9, 0, 278]), (.aload_n 0, []), (.getfield 10, [1, 5, 0, 1, 0, 277]), (.invokevirtual 77, [172, 2, 1, 404]), (.aload_n 0, []), (.getfield 16, [1, 5, 1, 9, 0, 278]), (.getfield 141, [1, 0, 6, 5, 1, 163]), (.iload_n 1, []), (.iload_n 3, []), (.iastore, []), (.aload_n 0, []), (.getfield 16, [1, 5, 1, 9, 0, 278]), (.invokevirtual 179, [194, 1, 1, 602]), (.pop, []), (.aload_n 0, []), (.getfield 16, [1, 5, 1, 9, 0, 278]), (.getfield 144, [1, 0, 7, 6, 1, 168]), (.iload_n 1, []), (.iaload, []), (.aload_n 0, []), (.getfield 36, [1, 5, 6, 31, 0, 283]), (.iload_n 1, []), (.iaload, []), (.if_icmp .ne 9, [4]), (.iload_n 2, []), (.iconst 1, []), (.iload_n 3, []), (.ishl, []), (.ior, []), (.istore_n 2, []), (.nop, [4])]))
def b_X5_wished_4 : ABlk := (101, ([true, true, true, true], [(.iinc 3 1, []), (.goto (-62), [3])]))
def b_X5_wished_5 : ABlk := (107, ([false, false, true, false], [(.iload_n 2, []), (.ireturn, [])]))
def k_X5_wished : List ABlk := [b_X5_wished_0, b_X5_wished_1, b_X5_wished_2, b_X5_wished_3, b_X5_wished_4, b_X5_wished_5]
def md_X5_wished : MDat := (yX5_wished, (cX5_wished, (4, (some .int, (false, (1, (5, ([631, 629, 630, 118], k_X5_wished))))))))
def n_X5_wished : Nat := 24
def b_X5_seeds_0 : ABlk := (0, ([true, true, true, true, true, false, false, false, false], [(.aload_n 0, []), (.getfield 10, [1, 5, 0, 1, 0, 277]), (.iload_n 1, []), (.invokevirtual 132, [175, 2, 1, 554]), (.ifCond .ne 9, [1]), (.aload_n 0, []), (.iconst (-1), []), (.invokevirtual 57, [56, 2, 0, 315]), (.ireturn, [])]))
def b_X5_seeds_1 : ABlk := (17, ([true, true, true, true, true, false, false, false, false], [(.iload_n 2, []), (.iconst 1, []), (.if_icmp .ge 10, [2]), (.aload_n 0, []), (.bipush (-4), []), (.invokevirtual 57, [56, 2, 0, 315]), (.ireturn, [])]))
def b_X5_seeds_2 : ABlk := (29, ([true, true, true, true, true, false, false, false, false], [(.iload_n 2, []), (.bipush 20, []), (.if_icmp .le 10, [3]), (.aload_n 0, []), (.bipush (-6), []), (.invokevirtual 57, [56, 2, 0, 315]), (.ireturn, [])]))
def b_X5_seeds_3 : ABlk := (42, ([true, true, true, true, true, false, false, false, false], [(.iload 4, []), (.ifCond .eq 16, [4]), (.iload 4, []), (.iconst 1, []), (.if_icmp .eq 10, [4]), (.aload_n 0, []), (.bipush (-2), []), (.invokevirtual 57, [56, 2, 0, 315]), (.ireturn, [])]))
def b_X5_seeds_4 : ABlk := (60, ([true, true, true, true, true, false, false, false, false], [(.iload_n 3, []), (.istore 5, []), (.iconst 0, []), (.istore 6, []), (.iconst 0, []), (.istore 7, []), (.iconst 0, []), (.istore 8, []), (.nop, [5])]))
def b_X5_seeds_5 : ABlk := (72, ([true, true, true, false, true, true, true, true, true], [(.iload 8, []), (.iload_n 2, []), (.if_icmp .ge 101, [7]), (.aload_n 0, []), (.getfield 16, [1, 5, 1, 9, 0, 278]), (.aload_n 0, []), (.getfield 10, [1, 5, 0, 1, 0, 277]), (.invokevirtual 77, [172, 2, 1, 404]), (.iload 5, []), (.invokestatic 189, [26, 1, 0, 636]), (.istore 5, []), (.aload_n 0, []), (.getfield 16, [1, 5, 1, 9, 0, 278]), (.iload 5, []), (.bipush 61, []), (.invokestatic 192, [27, 2, 0, 640]), (.putfield 153, [0, 0, 8, 1, 173]), (.iload 5, []), (.invokestatic 189, [26, 1, 0, 636]), (.istore 5, []), (.aload_n 0, []), (.getfield 16, [1, 5, 1, 9, 0, 278]), (.iload 5, []), (.aload_n 0, []), (.getfield 10, [1, 5, 0, 1, 0, 277]), (.getfield 165, [0, 0, 3, 1, 157]), (.invokestatic 192, [27, 2, 0, 640]), (.putfield 162, [0, 0, 11, 1, 182]), (.aload_n 0, []), (.getfield 16, [1, 5, 1, 9, 0, 278]), (.invokevirtual 179, [194, 1, 1, 602]), (.pop, []), (.aload_n 0, []), (.getfield 16, [1, 5, 1, 9, 0, 278]), (.iload_n 1, []), (.invokevirtual 147, [179, 2, 1, 555]), (.ifCond .eq 6, [6]), (.iinc 6 1, []), (.nop, [6])]))
def b_X5_seeds_6 : ABlk := (158, ([true, true, true, false, true, true, true, true, true], [(.iload 7, []), (.aload_n 0, []), (.getfield 16, [1, 5, 1, 9, 0, 278]), (.getfield 153, [0, 0, 8, 1, 173]), (.iadd, []), (.istore 7, []), (.iinc 8 1, []), (.goto (-101), [5])]))
def b_X5_seeds_7 : ABlk := (176, ([false, false, false, false, true, false, true, true, false], [(.iload 4, []), (.ifCond .ne 8, [8]), (.iload 6, []), (.goto 5, [9])]))
def b_X5_seeds_8 : ABlk := (186, ([false, false, false, false, false, false, false, true, false], [(.iload 7, []), (.nop, [9])]))
def b_X5_seeds_9 : ABlk := (188, ([false, false, false, false, false, false, false, false, false], [(.ireturn, [])]))
def k_X5_seeds : List ABlk := [b_X5_seeds_0, b_X5_seeds_1, b_X5_seeds_2, b_X5_seeds_3, b_X5_seeds_4, b_X5_seeds_5, b_X5_seeds_6, b_X5_seeds_7, b_X5_seeds_8, b_X5_seeds_9]
def md_X5_seeds : MDat := (yX5_seeds, (cX5_seeds, (9, (some .int, (false, (4, (5, ([635, 633, 634, 118], k_X5_seeds))))))))
def n_X5_seeds : Nat := 25
def b_X5_nextSeed_0 : ABlk := (0, ([true], [(.iload_n 0, []), (.ldc 195, [0, 1103515245, 0, 639]), (.imul, [1]), (.sipush 12345, []), (.iadd, [1]), (.ireturn, [])]))
def k_X5_nextSeed : List ABlk := [b_X5_nextSeed_0]
def md_X5_nextSeed : MDat := (yX5_nextSeed, (cX5_nextSeed, (1, (some .int, (true, (1, (5, ([638, 637, 0, 118], k_X5_nextSeed))))))))
def n_X5_nextSeed : Nat := 26
def b_X5_drawBelow_0 : ABlk := (0, ([true, true], [(.iload_n 1, []), (.iconst 1, []), (.if_icmp .ge 7, [1]), (.iconst 0, []), (.goto 12, [2])]))
def b_X5_drawBelow_1 : ABlk := (9, ([true, true], [(.iload_n 0, []), (.ldc 196, [0, 2147483647, 0, 643]), (.iand, [1]), (.ldc 197, [0, 65536, 0, 644]), (.idiv, []), (.iload_n 1, []), (.irem, []), (.nop, [2])]))
def b_X5_drawBelow_2 : ABlk := (18, ([false, false], [(.ireturn, [])]))
def k_X5_drawBelow : List ABlk := [b_X5_drawBelow_0, b_X5_drawBelow_1, b_X5_drawBelow_2]
def md_X5_drawBelow : MDat := (yX5_drawBelow, (cX5_drawBelow, (2, (some .int, (true, (2, (5, ([642, 641, 0, 118], k_X5_drawBelow))))))))
def n_X5_drawBelow : Nat := 27
def b_X5_judge_0 : ABlk := (0, ([true, false], [(.aload_n 0, []), (.invokevirtual 198, [29, 1, 0, 649]), (.istore_n 1, []), (.aload_n 0, []), (.iconst 0, []), (.putfield 117, [0, 5, 7, 0, 284]), (.iload_n 1, []), (.ireturn, [])]))
def k_X5_judge : List ABlk := [b_X5_judge_0]
def md_X5_judge : MDat := (yX5_judge, (cX5_judge, (2, (some .int, (false, (0, (5, ([648, 646, 647, 118], k_X5_judge))))))))
def n_X5_judge : Nat := 28
def b_X5_firstNotSo_0 : ABlk := (0, ([true, false], [(.aload_n 0, []), (.getfield 16, [1, 5, 1, 9, 0, 278]), (.aload_n 0, []), (.getfield 10, [1, 5, 0, 1, 0, 277]), (.invokevirtual 77, [172, 2, 1, 404]), (.iconst 0, []), (.istore_n 1, []), (.nop, [1])]))
def b_X5_firstNotSo_1 : ABlk := (13, ([true, true], [(.iload_n 1, []), (.aload_n 0, []), (.getfield 117, [0, 5, 7, 0, 284]), (.if_icmp .ge 37, [4]), (.aload_n 0, []), (.getfield 16, [1, 5, 1, 9, 0, 278]), (.getfield 165, [0, 0, 3, 1, 157]), (.ifCond .eq 19, [2]), (.aload_n 0, []), (.getfield 16, [1, 5, 1, 9, 0, 278]), (.invokevirtual 171, [189, 1, 1, 589]), (.aload_n 0, []), (.getfield 36, [1, 5, 6, 31, 0, 283]), (.iload_n 1, []), (.iaload, []), (.if_icmp .eq 5, [3]), (.nop, [2])]))
def b_X5_firstNotSo_2 : ABlk := (47, ([false, true], [(.iload_n 1, []), (.ireturn, [])]))
def b_X5_firstNotSo_3 : ABlk := (49, ([true, true], [(.iinc 1 1, []), (.goto (-39), [1])]))
def b_X5_firstNotSo_4 : ABlk := (55, ([false, false], [(.bipush (-9), []), (.ireturn, [])]))
def k_X5_firstNotSo : List ABlk := [b_X5_firstNotSo_0, b_X5_firstNotSo_1, b_X5_firstNotSo_2, b_X5_firstNotSo_3, b_X5_firstNotSo_4]
def md_X5_firstNotSo : MDat := (yX5_firstNotSo, (cX5_firstNotSo, (2, (some .int, (false, (0, (5, ([652, 651, 37, 118], k_X5_firstNotSo))))))))
def n_X5_firstNotSo : Nat := 29
def b_X5_planned_0 : ABlk := (0, ([true, true, false], [(.iload_n 1, []), (.ifCond .eq 15, [1]), (.iload_n 1, []), (.iconst 1, []), (.if_icmp .eq 10, [1]), (.aload_n 0, []), (.bipush (-2), []), (.invokevirtual 57, [56, 2, 0, 315]), (.ireturn, [])]))
def b_X5_planned_1 : ABlk := (16, ([true, true, false], [(.aload_n 0, []), (.getfield 10, [1, 5, 0, 1, 0, 277]), (.getfield 165, [0, 0, 3, 1, 157]), (.ifCond .ne 10, [2]), (.aload_n 0, []), (.bipush (-3), []), (.invokevirtual 57, [56, 2, 0, 315]), (.ireturn, [])]))
def b_X5_planned_2 : ABlk := (33, ([true, true, false], [(.aload_n 0, []), (.getfield 16, [1, 5, 1, 9, 0, 278]), (.aload_n 0, []), (.getfield 10, [1, 5, 0, 1, 0, 277]), (.invokevirtual 77, [172, 2, 1, 404]), (.iconst 0, []), (.istore_n 2, []), (.nop, [3])]))
def b_X5_planned_3 : ABlk := (46, ([true, true, true], [(.iload_n 2, []), (.aload_n 0, []), (.getfield 117, [0, 5, 7, 0, 284]), (.if_icmp .ge 23, [4]), (.aload_n 0, []), (.getfield 16, [1, 5, 1, 9, 0, 278]), (.aload_n 0, []), (.getfield 36, [1, 5, 6, 31, 0, 283]), (.iload_n 2, []), (.iaload, []), (.invokevirtual 201, [190, 2, 1, 657]), (.pop, []), (.iinc 2 1, []), (.goto (-25), [3])]))
def b_X5_planned_4 : ABlk := (74, ([true, true, false], [(.iload_n 1, []), (.ifCond .ne 13, [5]), (.aload_n 0, []), (.getfield 16, [1, 5, 1, 9, 0, 278]), (.invokevirtual 182, [180, 1, 1, 607]), (.goto 10, [6])]))
def b_X5_planned_5 : ABlk := (88, ([true, false, false], [(.aload_n 0, []), (.getfield 16, [1, 5, 1, 9, 0, 278]), (.getfield 153, [0, 0, 8, 1, 173]), (.nop, [6])]))
def b_X5_planned_6 : ABlk := (95, ([false, false, false], [(.ireturn, [])]))
def k_X5_planned : List ABlk := [b_X5_planned_0, b_X5_planned_1, b_X5_planned_2, b_X5_planned_3, b_X5_planned_4, b_X5_planned_5, b_X5_planned_6]
def md_X5_planned : MDat := (yX5_planned, (cX5_planned, (3, (some .int, (false, (1, (5, ([656, 654, 655, 118], k_X5_planned))))))))
def n_X5_planned : Nat := 30
def b_X5_scheme_0 : ABlk := (0, ([true, true, false, false, false], [(.aload_n 0, []), (.getfield 10, [1, 5, 0, 1, 0, 277]), (.iload_n 1, []), (.invokevirtual 132, [175, 2, 1, 554]), (.ifCond .ne 9, [1]), (.aload_n 0, []), (.iconst (-1), []), (.invokevirtual 57, [56, 2, 0, 315]), (.ireturn, [])]))
def b_X5_scheme_1 : ABlk := (17, ([true, true, false, false, false], [(.aload_n 0, []), (.getfield 10, [1, 5, 0, 1, 0, 277]), (.getfield 114, [0, 0, 0, 1, 147]), (.ifCond .ne 10, [2]), (.aload_n 0, []), (.bipush (-3), []), (.invokevirtual 57, [56, 2, 0, 315]), (.ireturn, [])]))
def b_X5_scheme_2 : ABlk := (34, ([true, true, false, false, false], [(.aload_n 0, []), (.getfield 16, [1, 5, 1, 9, 0, 278]), (.aload_n 0, []), (.getfield 10, [1, 5, 0, 1, 0, 277]), (.invokevirtual 77, [172, 2, 1, 404]), (.bipush 6, []), (.istore_n 2, []), (.nop, [3])]))
def b_X5_scheme_3 : ABlk := (48, ([true, true, true, false, false], [(.iload_n 2, []), (.ifCond .le 38, [4]), (.aload_n 0, []), (.getfield 16, [1, 5, 1, 9, 0, 278]), (.getfield 153, [0, 0, 8, 1, 173]), (.ifCond .le 28, [4]), (.aload_n 0, []), (.getfield 16, [1, 5, 1, 9, 0, 278]), (.getfield 162, [0, 0, 11, 1, 182]), (.iload_n 1, []), (.if_icmp .eq 17, [4]), (.aload_n 0, []), (.getfield 16, [1, 5, 1, 9, 0, 278]), (.invokevirtual 171, [189, 1, 1, 589]), (.pop, []), (.iinc 2 (-1), []), (.goto (-36), [3])]))
def b_X5_scheme_4 : ABlk := (87, ([true, true, true, false, false], [(.iload_n 2, []), (.ifCond .eq 13, [5]), (.aload_n 0, []), (.getfield 16, [1, 5, 1, 9, 0, 278]), (.getfield 153, [0, 0, 8, 1, 173]), (.ifCond .ne 21, [8]), (.nop, [5])]))
def b_X5_scheme_5 : ABlk := (101, ([true, true, false, false, false], [(.aload_n 0, []), (.getfield 16, [1, 5, 1, 9, 0, 278]), (.iload_n 1, []), (.invokevirtual 147, [179, 2, 1, 555]), (.ifCond .eq 7, [6]), (.iconst 0, []), (.goto 5, [7])]))
def b_X5_scheme_6 : ABlk := (116, ([false, false, false, false, false], [(.bipush (-9), []), (.nop, [7])]))
def b_X5_scheme_7 : ABlk := (118, ([false, false, false, false, false], [(.ireturn, [])]))
def b_X5_scheme_8 : ABlk := (119, ([true, true, true, false, false], [(.aload_n 0, []), (.getfield 16, [1, 5, 1, 9, 0, 278]), (.getfield 159, [0, 0, 10, 1, 178]), (.aload_n 0, []), (.getfield 16, [1, 5, 1, 9, 0, 278]), (.getfield 153, [0, 0, 8, 1, 173]), (.invokestatic 204, [1, 662]), (.istore_n 3, []), (.iconst 0, []), (.istore 4, []), (.nop, [9])]))
def b_X5_scheme_9 : ABlk := (140, ([true, true, true, true, true], [(.iload 4, []), (.iload_n 3, []), (.if_icmp .gt 26, [11]), (.aload_n 0, []), (.getfield 16, [1, 5, 1, 9, 0, 278]), (.iload_n 1, []), (.iload 4, []), (.iload_n 2, []), (.invokestatic 207, [32, 4, 0, 663]), (.ifCond .eq 6, [10]), (.iload 4, []), (.ireturn, [])]))
def b_X5_scheme_10 : ABlk := (163, ([true, true, true, true, true], [(.iinc 4 1, []), (.goto (-26), [9])]))
def b_X5_scheme_11 : ABlk := (169, ([false, false, false, false, false], [(.bipush (-9), []), (.ireturn, [])]))
def k_X5_scheme : List ABlk := [b_X5_scheme_0, b_X5_scheme_1, b_X5_scheme_2, b_X5_scheme_3, b_X5_scheme_4, b_X5_scheme_5, b_X5_scheme_6, b_X5_scheme_7, b_X5_scheme_8, b_X5_scheme_9, b_X5_scheme_10, b_X5_scheme_11]
def md_X5_scheme : MDat := (yX5_scheme, (cX5_scheme, (5, (some .int, (false, (1, (5, ([661, 659, 660, 118], k_X5_scheme))))))))
def n_X5_scheme : Nat := 31
def b_X5_numberLeadsToWish_0 : ABlk := (0, ([true, true, true, true, false, false, false, false], [(.aload_n 0, []), (.getfield 162, [0, 0, 11, 1, 182]), (.istore 4, []), (.aload_n 0, []), (.iload 4, []), (.invokevirtual 132, [175, 2, 1, 554]), (.ifCond .eq 8, [1]), (.iload_n 3, []), (.iconst 1, []), (.if_icmp .ge 5, [2]), (.nop, [1])]))
def b_X5_numberLeadsToWish_1 : ABlk := (20, ([false, false, false, false, false, false, false, false], [(.iconst 0, []), (.ireturn, [1])]))
def b_X5_numberLeadsToWish_2 : ABlk := (22, ([true, true, true, true, true, false, false, false], [(.aload_n 0, []), (.getfield 153, [0, 0, 8, 1, 173]), (.istore 5, []), (.aload_n 0, []), (.getfield 144, [1, 0, 7, 6, 1, 168]), (.iload 4, []), (.iaload, []), (.istore 6, []), (.aload_n 0, []), (.iload_n 2, []), (.invokevirtual 201, [190, 2, 1, 657]), (.pop, []), (.aload_n 0, []), (.iload_n 1, []), (.iload_n 3, []), (.iconst 1, []), (.isub, []), (.invokestatic 211, [33, 3, 0, 666]), (.istore 7, []), (.aload_n 0, []), (.iload 5, []), (.putfield 153, [0, 0, 8, 1, 173]), (.aload_n 0, []), (.getfield 144, [1, 0, 7, 6, 1, 168]), (.iload 4, []), (.iload 6, []), (.iastore, []), (.aload_n 0, []), (.iload 4, []), (.putfield 162, [0, 0, 11, 1, 182]), (.iload 7, []), (.ireturn, [1])]))
def k_X5_numberLeadsToWish : List ABlk := [b_X5_numberLeadsToWish_0, b_X5_numberLeadsToWish_1, b_X5_numberLeadsToWish_2]
def md_X5_numberLeadsToWish : MDat := (yX5_numberLeadsToWish, (cX5_numberLeadsToWish, (8, (some .boolean, (true, (4, (5, ([665, 664, 0, 118], k_X5_numberLeadsToWish))))))))
def n_X5_numberLeadsToWish : Nat := 32
def b_X5_leadsToWish_0 : ABlk := (0, ([true, true, true, false, false], [(.iload_n 2, []), (.iconst 1, []), (.if_icmp .lt 10, [1]), (.aload_n 0, []), (.getfield 153, [0, 0, 8, 1, 173]), (.ifCond .ne 9, [2]), (.nop, [1])]))
def b_X5_leadsToWish_1 : ABlk := (12, ([true, true, false, false, false], [(.aload_n 0, []), (.iload_n 1, []), (.invokevirtual 147, [179, 2, 1, 555]), (.ireturn, [1])]))
def b_X5_leadsToWish_2 : ABlk := (18, ([true, true, true, false, false], [(.aload_n 0, []), (.getfield 165, [0, 0, 3, 1, 157]), (.iconst 1, []), (.if_icmp .ne 10, [3]), (.aload_n 0, []), (.iload_n 1, []), (.iload_n 2, []), (.invokestatic 215, [34, 3, 0, 669]), (.ireturn, [1])]))
def b_X5_leadsToWish_3 : ABlk := (33, ([true, true, true, false, false], [(.aload_n 0, []), (.getfield 162, [0, 0, 11, 1, 182]), (.iload_n 1, []), (.if_icmp .eq 14, [4]), (.aload_n 0, []), (.iload_n 1, []), (.aload_n 0, []), (.invokevirtual 218, [191, 1, 1, 673]), (.iload_n 2, []), (.invokestatic 207, [32, 4, 0, 663]), (.ireturn, [1])]))
def b_X5_leadsToWish_4 : ABlk := (52, ([true, true, true, false, false], [(.aload_n 0, []), (.getfield 159, [0, 0, 10, 1, 178]), (.aload_n 0, []), (.getfield 153, [0, 0, 8, 1, 173]), (.invokestatic 204, [1, 662]), (.istore_n 3, []), (.iconst 0, []), (.istore 4, []), (.nop, [5])]))
def b_X5_leadsToWish_5 : ABlk := (67, ([true, true, true, true, true], [(.iload 4, []), (.iload_n 3, []), (.if_icmp .gt 22, [7]), (.aload_n 0, []), (.iload_n 1, []), (.iload 4, []), (.iload_n 2, []), (.invokestatic 207, [32, 4, 0, 663]), (.ifCond .eq 5, [6]), (.iconst 1, []), (.ireturn, [1])]))
def b_X5_leadsToWish_6 : ABlk := (86, ([true, true, true, true, true], [(.iinc 4 1, []), (.goto (-22), [5])]))
def b_X5_leadsToWish_7 : ABlk := (92, ([false, false, false, false, false], [(.iconst 0, []), (.ireturn, [1])]))
def k_X5_leadsToWish : List ABlk := [b_X5_leadsToWish_0, b_X5_leadsToWish_1, b_X5_leadsToWish_2, b_X5_leadsToWish_3, b_X5_leadsToWish_4, b_X5_leadsToWish_5, b_X5_leadsToWish_6, b_X5_leadsToWish_7]
def md_X5_leadsToWish : MDat := (yX5_leadsToWish, (cX5_leadsToWish, (5, (some .boolean, (true, (3, (5, ([668, 667, 0, 118], k_X5_leadsToWish))))))))
def n_X5_leadsToWish : Nat := 33
def b_X5_aloneLeadsToWish_0 : ABlk := (0, ([true, true, true, false, false], [(.aload_n 0, []), (.iload_n 1, []), (.invokevirtual 132, [175, 2, 1, 554]), (.ifCond .ne 5, [1]), (.iconst 0, []), (.ireturn, [1])]))
def b_X5_aloneLeadsToWish_1 : ABlk := (10, ([true, true, true, false, false], [(.aload_n 0, []), (.getfield 153, [0, 0, 8, 1, 173]), (.iload_n 2, []), (.aload_n 0, []), (.getfield 159, [0, 0, 10, 1, 178]), (.imul, []), (.invokestatic 204, [1, 662]), (.istore_n 3, []), (.iconst 0, []), (.istore 4, []), (.nop, [2])]))
def b_X5_aloneLeadsToWish_2 : ABlk := (27, ([true, true, false, true, true], [(.iload 4, []), (.iload_n 3, []), (.if_icmp .gt 33, [4]), (.aload_n 0, []), (.iload_n 1, []), (.bipush 99, []), (.aload_n 0, []), (.getfield 144, [1, 0, 7, 6, 1, 168]), (.iload_n 1, []), (.iaload, []), (.iload 4, []), (.iadd, []), (.invokestatic 204, [1, 662]), (.invokevirtual 221, [177, 3, 1, 672]), (.ifCond .eq 5, [3]), (.iconst 1, []), (.ireturn, [1])]))
def b_X5_aloneLeadsToWish_3 : ABlk := (57, ([true, true, false, true, true], [(.iinc 4 1, []), (.goto (-33), [2])]))
def b_X5_aloneLeadsToWish_4 : ABlk := (63, ([false, false, false, false, false], [(.iconst 0, []), (.ireturn, [1])]))
def k_X5_aloneLeadsToWish : List ABlk := [b_X5_aloneLeadsToWish_0, b_X5_aloneLeadsToWish_1, b_X5_aloneLeadsToWish_2, b_X5_aloneLeadsToWish_3, b_X5_aloneLeadsToWish_4]
def md_X5_aloneLeadsToWish : MDat := (yX5_aloneLeadsToWish, (cX5_aloneLeadsToWish, (5, (some .boolean, (true, (3, (5, ([671, 670, 0, 118], k_X5_aloneLeadsToWish))))))))
def n_X5_aloneLeadsToWish : Nat := 34
def b_X5_shared_0 : ABlk := (0, ([true, true], [(.iload_n 1, []), (.ifCond .eq 15, [1]), (.iload_n 1, []), (.iconst 1, []), (.if_icmp .eq 10, [1]), (.aload_n 0, []), (.bipush (-2), []), (.invokevirtual 224, [57, 2, 0, 678]), (.lreturn, [])]))
def b_X5_shared_1 : ABlk := (16, ([true, true], [(.aload_n 0, []), (.getfield 10, [1, 5, 0, 1, 0, 277]), (.getfield 165, [0, 0, 3, 1, 157]), (.ifCond .eq 13, [2]), (.aload_n 0, []), (.getfield 10, [1, 5, 0, 1, 0, 277]), (.getfield 114, [0, 0, 0, 1, 147]), (.ifCond .ne 10, [3]), (.nop, [2])]))
def b_X5_shared_2 : ABlk := (36, ([true, false], [(.aload_n 0, []), (.bipush (-3), []), (.invokevirtual 224, [57, 2, 0, 678]), (.lreturn, [])]))
def b_X5_shared_3 : ABlk := (43, ([true, true], [(.aload_n 0, []), (.getfield 53, [1, 5, 10, 35, 0, 287]), (.aload_n 0, []), (.getfield 10, [1, 5, 0, 1, 0, 277]), (.iload_n 1, []), (.ifCond .ne 7, [4]), (.iconst 1, []), (.goto 10, [5])]))
def b_X5_shared_4 : ABlk := (59, ([true, false], [(.aload_n 0, []), (.getfield 10, [1, 5, 0, 1, 0, 277]), (.getfield 156, [0, 0, 9, 1, 175]), (.nop, [5])]))
def b_X5_shared_5 : ABlk := (66, ([false, false], [(.invokevirtual 228, [221, 3, 1, 683]), (.lreturn, [])]))
def k_X5_shared : List ABlk := [b_X5_shared_0, b_X5_shared_1, b_X5_shared_2, b_X5_shared_3, b_X5_shared_4, b_X5_shared_5]
def md_X5_shared : MDat := (yX5_shared, (cX5_shared, (2, (some .long, (false, (1, (5, ([677, 675, 676, 118], k_X5_shared))))))))
def n_X5_shared : Nat := 35
def b_X5_can_0 : ABlk := (0, ([true, true, false, false, false, false, false], [(.iload_n 1, []), (.ifCond .eq 15, [1]), (.iload_n 1, []), (.iconst 1, []), (.if_icmp .eq 10, [1]), (.aload_n 0, []), (.bipush (-2), []), (.invokevirtual 57, [56, 2, 0, 315]), (.ireturn, [])]))
def b_X5_can_1 : ABlk := (16, ([true, true, false, false, false, false, false], [(.aload_n 0, []), (.getfield 10, [1, 5, 0, 1, 0, 277]), (.getfield 165, [0, 0, 3, 1, 157]), (.ifCond .eq 13, [2]), (.aload_n 0, []), (.getfield 10, [1, 5, 0, 1, 0, 277]), (.getfield 114, [0, 0, 0, 1, 147]), (.ifCond .ne 10, [3]), (.nop, [2])]))
def b_X5_can_2 : ABlk := (36, ([true, false, false, false, false, false, false], [(.aload_n 0, []), (.bipush (-3), []), (.invokevirtual 57, [56, 2, 0, 315]), (.ireturn, [])]))
def b_X5_can_3 : ABlk := (43, ([true, true, false, false, false, false, false], [(.iconst 0, []), (.istore_n 2, []), (.iconst 0, []), (.istore_n 3, []), (.iconst 1, []), (.aload_n 0, []), (.getfield 10, [1, 5, 0, 1, 0, 277]), (.getfield 165, [0, 0, 3, 1, 157]), (.ishl, []), (.istore 4, []), (.iconst 1, []), (.istore 5, []), (.nop, [4])]))
def b_X5_can_4 : ABlk := (61, ([true, true, true, true, true, true, false], [(.iload 5, []), (.iload 4, []), (.if_icmp .ge 44, [6]), (.iload 5, []), (.invokestatic 232, [227, 1, 0, 697]), (.istore 6, []), (.iload 6, []), (.iload_n 3, []), (.if_icmp .le 25, [5]), (.aload_n 0, []), (.getfield 53, [1, 5, 10, 35, 0, 287]), (.aload_n 0, []), (.getfield 10, [1, 5, 0, 1, 0, 277]), (.iload 5, []), (.invokevirtual 237, [223, 3, 1, 703]), (.ifCond .eq 9, [5]), (.iload 6, []), (.istore_n 3, []), (.iload 5, []), (.istore_n 2, []), (.nop, [5])]))
def b_X5_can_5 : ABlk := (103, ([true, true, true, true, true, true, false], [(.iinc 5 1, []), (.goto (-45), [4])]))
def b_X5_can_6 : ABlk := (109, ([false, true, true, true, false, false, false], [(.iload_n 1, []), (.ifCond .ne 7, [7]), (.iload_n 3, []), (.goto 4, [8])]))
def b_X5_can_7 : ABlk := (117, ([false, false, true, false, false, false, false], [(.iload_n 2, []), (.nop, [8])]))
def b_X5_can_8 : ABlk := (118, ([false, false, false, false, false, false, false], [(.ireturn, [])]))
def k_X5_can : List ABlk := [b_X5_can_0, b_X5_can_1, b_X5_can_2, b_X5_can_3, b_X5_can_4, b_X5_can_5, b_X5_can_6, b_X5_can_7, b_X5_can_8]
def md_X5_can : MDat := (yX5_can, (cX5_can, (7, (some .int, (false, (1, (5, ([696, 694, 695, 118], k_X5_can))))))))
def n_X5_can : Nat := 36
def b_X5_gift_0 : ABlk := (0, ([true, false, false, false, false, false, false], [(.aload_n 0, []), (.getfield 10, [1, 5, 0, 1, 0, 277]), (.getfield 114, [0, 0, 0, 1, 147]), (.ifCond .ne 10, [1]), (.aload_n 0, []), (.bipush (-3), []), (.invokevirtual 57, [56, 2, 0, 315]), (.ireturn, [])]))
def b_X5_gift_1 : ABlk := (17, ([true, false, false, false, false, false, false], [(.bipush (-9), []), (.istore_n 1, []), (.aload_n 0, []), (.getfield 10, [1, 5, 0, 1, 0, 277]), (.invokevirtual 182, [180, 1, 1, 607]), (.invokestatic 232, [227, 1, 0, 697]), (.istore_n 2, []), (.iconst 0, []), (.istore_n 3, []), (.nop, [2])]))
def b_X5_gift_2 : ABlk := (33, ([true, true, true, true, false, false, false], [(.iload_n 3, []), (.aload_n 0, []), (.getfield 10, [1, 5, 0, 1, 0, 277]), (.getfield 165, [0, 0, 3, 1, 157]), (.if_icmp .ge 82, [8]), (.iconst 0, []), (.istore 4, []), (.nop, [3])]))
def b_X5_gift_3 : ABlk := (47, ([true, true, true, true, true, false, false], [(.iload 4, []), (.aload_n 0, []), (.getfield 10, [1, 5, 0, 1, 0, 277]), (.getfield 165, [0, 0, 3, 1, 157]), (.if_icmp .ge 61, [7]), (.iconst 1, []), (.istore 5, []), (.nop, [4])]))
def b_X5_gift_4 : ABlk := (62, ([true, true, true, true, true, true, false], [(.iload 5, []), (.iconst 3, []), (.if_icmp .gt 46, [6]), (.aload_n 0, []), (.getfield 10, [1, 5, 0, 1, 0, 277]), (.iload_n 3, []), (.iload 4, []), (.iload 5, []), (.invokevirtual 240, [182, 4, 1, 717]), (.istore 6, []), (.iload 6, []), (.iload_n 2, []), (.if_icmp .le 20, [5]), (.iload 6, []), (.istore_n 2, []), (.bipush 100, []), (.iload_n 3, []), (.imul, []), (.bipush 10, []), (.iload 4, []), (.imul, []), (.iadd, []), (.iload 5, []), (.iadd, []), (.istore_n 1, []), (.nop, [5])]))
def b_X5_gift_5 : ABlk := (105, ([true, true, true, true, true, true, false], [(.iinc 5 1, []), (.goto (-46), [4])]))
def b_X5_gift_6 : ABlk := (111, ([true, true, true, true, true, false, false], [(.iinc 4 1, []), (.goto (-67), [3])]))
def b_X5_gift_7 : ABlk := (117, ([true, true, true, true, false, false, false], [(.iinc 3 1, []), (.goto (-87), [2])]))
def b_X5_gift_8 : ABlk := (123, ([false, true, false, false, false, false, false], [(.iload_n 1, []), (.ireturn, [])]))
def k_X5_gift : List ABlk := [b_X5_gift_0, b_X5_gift_1, b_X5_gift_2, b_X5_gift_3, b_X5_gift_4, b_X5_gift_5, b_X5_gift_6, b_X5_gift_7, b_X5_gift_8]
def md_X5_gift : MDat := (yX5_gift, (cX5_gift, (7, (some .int, (false, (0, (5, ([716, 714, 715, 118], k_X5_gift))))))))
def n_X5_gift : Nat := 37
def b_X5_pushes_0 : ABlk := (0, ([true], [(.aload_n 0, []), (.getfield 10, [1, 5, 0, 1, 0, 277]), (.getfield 114, [0, 0, 0, 1, 147]), (.ifCond .ne 10, [1]), (.aload_n 0, []), (.bipush (-3), []), (.invokevirtual 57, [56, 2, 0, 315]), (.ireturn, [])]))
def b_X5_pushes_1 : ABlk := (17, ([true], [(.aload_n 0, []), (.getfield 53, [1, 5, 10, 35, 0, 287]), (.aload_n 0, []), (.getfield 10, [1, 5, 0, 1, 0, 277]), (.invokevirtual 244, [225, 2, 1, 725]), (.ireturn, [])]))
def k_X5_pushes : List ABlk := [b_X5_pushes_0, b_X5_pushes_1]
def md_X5_pushes : MDat := (yX5_pushes, (cX5_pushes, (1, (some .int, (false, (0, (5, ([724, 722, 723, 118], k_X5_pushes))))))))
def n_X5_pushes : Nat := 38
def b_X5_sure_0 : ABlk := (0, ([true, true, true], [(.aload_n 0, []), (.getfield 10, [1, 5, 0, 1, 0, 277]), (.iload_n 1, []), (.invokevirtual 132, [175, 2, 1, 554]), (.ifCond .ne 9, [1]), (.aload_n 0, []), (.iconst (-1), []), (.invokevirtual 57, [56, 2, 0, 315]), (.ireturn, [])]))
def b_X5_sure_1 : ABlk := (17, ([true, true, true], [(.iload_n 2, []), (.ifCond .eq 15, [2]), (.iload_n 2, []), (.iconst 1, []), (.if_icmp .eq 10, [2]), (.aload_n 0, []), (.bipush (-2), []), (.invokevirtual 57, [56, 2, 0, 315]), (.ireturn, [])]))
def b_X5_sure_2 : ABlk := (33, ([true, true, true], [(.aload_n 0, []), (.getfield 10, [1, 5, 0, 1, 0, 277]), (.getfield 114, [0, 0, 0, 1, 147]), (.ifCond .ne 10, [3]), (.aload_n 0, []), (.bipush (-3), []), (.invokevirtual 57, [56, 2, 0, 315]), (.ireturn, [])]))
def b_X5_sure_3 : ABlk := (50, ([true, true, true], [(.aload_n 0, []), (.getfield 46, [1, 5, 9, 33, 0, 286]), (.aload_n 0, []), (.getfield 10, [1, 5, 0, 1, 0, 277]), (.iload_n 1, []), (.invokevirtual 247, [198, 3, 1, 746]), (.iload_n 2, []), (.ifCond .ne 17, [4]), (.aload_n 0, []), (.getfield 46, [1, 5, 9, 33, 0, 286]), (.aload_n 0, []), (.getfield 10, [1, 5, 0, 1, 0, 277]), (.invokevirtual 251, [196, 2, 1, 764]), (.goto 15, [5])]))
def b_X5_sure_4 : ABlk := (80, ([true, true, false], [(.aload_n 0, []), (.getfield 46, [1, 5, 9, 33, 0, 286]), (.aload_n 0, []), (.getfield 10, [1, 5, 0, 1, 0, 277]), (.iload_n 1, []), (.invokevirtual 254, [200, 3, 1, 768]), (.nop, [5])]))
def b_X5_sure_5 : ABlk := (92, ([false, false, false], [(.ireturn, [])]))
def k_X5_sure : List ABlk := [b_X5_sure_0, b_X5_sure_1, b_X5_sure_2, b_X5_sure_3, b_X5_sure_4, b_X5_sure_5]
def md_X5_sure : MDat := (yX5_sure, (cX5_sure, (3, (some .int, (false, (2, (5, ([745, 743, 744, 118], k_X5_sure))))))))
def n_X5_sure : Nat := 39
def b_X5_last_0 : ABlk := (0, ([true, true, false], [(.iload_n 1, []), (.ifCond .eq 15, [1]), (.iload_n 1, []), (.iconst 1, []), (.if_icmp .eq 10, [1]), (.aload_n 0, []), (.bipush (-2), []), (.invokevirtual 57, [56, 2, 0, 315]), (.ireturn, [])]))
def b_X5_last_1 : ABlk := (16, ([true, true, false], [(.aload_n 0, []), (.getfield 10, [1, 5, 0, 1, 0, 277]), (.getfield 165, [0, 0, 3, 1, 157]), (.iconst 2, []), (.if_icmp .ne 13, [2]), (.aload_n 0, []), (.getfield 10, [1, 5, 0, 1, 0, 277]), (.getfield 153, [0, 0, 8, 1, 173]), (.ifCond .ne 10, [3]), (.nop, [2])]))
def b_X5_last_2 : ABlk := (37, ([true, false, false], [(.aload_n 0, []), (.bipush (-3), []), (.invokevirtual 57, [56, 2, 0, 315]), (.ireturn, [])]))
def b_X5_last_3 : ABlk := (44, ([true, true, false], [(.aload_n 0, []), (.getfield 10, [1, 5, 0, 1, 0, 277]), (.getfield 153, [0, 0, 8, 1, 173]), (.aload_n 0, []), (.getfield 10, [1, 5, 0, 1, 0, 277]), (.getfield 159, [0, 0, 10, 1, 178]), (.iconst 1, []), (.iadd, []), (.irem, []), (.istore_n 2, []), (.iload_n 1, []), (.ifCond .ne 27, [6]), (.iload_n 2, []), (.ifCond .eq 13, [4]), (.aload_n 0, []), (.getfield 10, [1, 5, 0, 1, 0, 277]), (.getfield 162, [0, 0, 11, 1, 182]), (.goto 12, [5])]))
def b_X5_last_4 : ABlk := (80, ([true, false, false], [(.iconst 1, []), (.aload_n 0, []), (.getfield 10, [1, 5, 0, 1, 0, 277]), (.getfield 162, [0, 0, 11, 1, 182]), (.isub, []), (.nop, [5])]))
def b_X5_last_5 : ABlk := (89, ([false, false, false], [(.ireturn, [])]))
def b_X5_last_6 : ABlk := (90, ([false, false, true], [(.iload_n 2, []), (.ifCond .eq 7, [7]), (.iload_n 2, []), (.goto 4, [8])]))
def b_X5_last_7 : ABlk := (98, ([false, false, false], [(.iconst 1, []), (.nop, [8])]))
def b_X5_last_8 : ABlk := (99, ([false, false, false], [(.ireturn, [])]))
def k_X5_last : List ABlk := [b_X5_last_0, b_X5_last_1, b_X5_last_2, b_X5_last_3, b_X5_last_4, b_X5_last_5, b_X5_last_6, b_X5_last_7, b_X5_last_8]
def md_X5_last : MDat := (yX5_last, (cX5_last, (3, (some .int, (false, (1, (5, ([775, 773, 774, 118], k_X5_last))))))))
def n_X5_last : Nat := 40
def b_X5_duel_0 : ABlk := (0, ([true, true], [(.iload_n 1, []), (.ifCond .eq 15, [1]), (.iload_n 1, []), (.iconst 1, []), (.if_icmp .eq 10, [1]), (.aload_n 0, []), (.bipush (-2), []), (.invokevirtual 57, [56, 2, 0, 315]), (.ireturn, [])]))
def b_X5_duel_1 : ABlk := (16, ([true, true], [(.aload_n 0, []), (.getfield 10, [1, 5, 0, 1, 0, 277]), (.getfield 165, [0, 0, 3, 1, 157]), (.iconst 2, []), (.if_icmp .ne 13, [2]), (.aload_n 0, []), (.getfield 10, [1, 5, 0, 1, 0, 277]), (.getfield 114, [0, 0, 0, 1, 147]), (.ifCond .ne 10, [3]), (.nop, [2])]))
def b_X5_duel_2 : ABlk := (37, ([true, false], [(.aload_n 0, []), (.bipush (-3), []), (.invokevirtual 57, [56, 2, 0, 315]), (.ireturn, [])]))
def b_X5_duel_3 : ABlk := (44, ([true, true], [(.aload_n 0, []), (.getfield 46, [1, 5, 9, 33, 0, 286]), (.aload_n 0, []), (.getfield 10, [1, 5, 0, 1, 0, 277]), (.invokevirtual 258, [201, 2, 1, 780]), (.iload_n 1, []), (.ifCond .ne 17, [4]), (.aload_n 0, []), (.getfield 46, [1, 5, 9, 33, 0, 286]), (.aload_n 0, []), (.getfield 10, [1, 5, 0, 1, 0, 277]), (.invokevirtual 251, [196, 2, 1, 764]), (.goto 29, [5])]))
def b_X5_duel_4 : ABlk := (73, ([true, false], [(.aload_n 0, []), (.getfield 46, [1, 5, 9, 33, 0, 286]), (.aload_n 0, []), (.getfield 10, [1, 5, 0, 1, 0, 277]), (.aload_n 0, []), (.getfield 10, [1, 5, 0, 1, 0, 277]), (.getfield 153, [0, 0, 8, 1, 173]), (.aload_n 0, []), (.getfield 10, [1, 5, 0, 1, 0, 277]), (.getfield 162, [0, 0, 11, 1, 182]), (.iconst 0, []), (.invokevirtual 261, [204, 5, 1, 799]), (.nop, [5])]))
def b_X5_duel_5 : ABlk := (99, ([false, false], [(.ireturn, [])]))
def k_X5_duel : List ABlk := [b_X5_duel_0, b_X5_duel_1, b_X5_duel_2, b_X5_duel_3, b_X5_duel_4, b_X5_duel_5]
def md_X5_duel : MDat := (yX5_duel, (cX5_duel, (2, (some .int, (false, (1, (5, ([779, 777, 778, 118], k_X5_duel))))))))
def n_X5_duel : Nat := 41
def b_X5_pile_0 : ABlk := (0, ([true, true], [(.iload_n 1, []), (.ifCond .ge 10, [1]), (.aload_n 0, []), (.bipush (-4), []), (.invokevirtual 57, [56, 2, 0, 315]), (.ireturn, [])]))
def b_X5_pile_1 : ABlk := (11, ([true, true], [(.iload_n 1, []), (.bipush 12, []), (.if_icmp .gt 14, [2]), (.aload_n 0, []), (.getfield 10, [1, 5, 0, 1, 0, 277]), (.getfield 265, [0, 0, 12, 1, 185]), (.iconst 4, []), (.if_icmp .lt 10, [3]), (.nop, [2])]))
def b_X5_pile_2 : ABlk := (28, ([true, false], [(.aload_n 0, []), (.bipush (-6), []), (.invokevirtual 57, [56, 2, 0, 315]), (.ireturn, [])]))
def b_X5_pile_3 : ABlk := (35, ([true, true], [(.aload_n 0, []), (.getfield 10, [1, 5, 0, 1, 0, 277]), (.getfield 268, [1, 0, 13, 7, 1, 188]), (.aload_n 0, []), (.getfield 10, [1, 5, 0, 1, 0, 277]), (.getfield 265, [0, 0, 12, 1, 185]), (.iload_n 1, []), (.iastore, []), (.aload_n 0, []), (.getfield 10, [1, 5, 0, 1, 0, 277]), (.dup, []), (.getfield 265, [0, 0, 12, 1, 185]), (.iconst 1, []), (.iadd, []), (.putfield 265, [0, 0, 12, 1, 185]), (.aload_n 0, []), (.getfield 10, [1, 5, 0, 1, 0, 277]), (.getfield 265, [0, 0, 12, 1, 185]), (.iconst 1, []), (.isub, []), (.ireturn, [])]))
def k_X5_pile : List ABlk := [b_X5_pile_0, b_X5_pile_1, b_X5_pile_2, b_X5_pile_3]
def md_X5_pile : MDat := (yX5_pile, (cX5_pile, (2, (some .int, (false, (1, (5, ([803, 801, 802, 118], k_X5_pile))))))))
def n_X5_pile : Nat := 42
def b_X5_move_0 : ABlk := (0, ([true, true, true], [(.iload_n 1, []), (.ifCond .lt 14, [1]), (.iload_n 1, []), (.aload_n 0, []), (.getfield 10, [1, 5, 0, 1, 0, 277]), (.getfield 265, [0, 0, 12, 1, 185]), (.if_icmp .lt 9, [2]), (.nop, [1])]))
def b_X5_move_1 : ABlk := (15, ([true, false, false], [(.aload_n 0, []), (.iconst (-1), []), (.invokevirtual 57, [56, 2, 0, 315]), (.ireturn, [])]))
def b_X5_move_2 : ABlk := (21, ([true, true, true], [(.iload_n 2, []), (.iconst 1, []), (.if_icmp .ge 10, [3]), (.aload_n 0, []), (.bipush (-4), []), (.invokevirtual 57, [56, 2, 0, 315]), (.ireturn, [])]))
def b_X5_move_3 : ABlk := (33, ([true, true, true], [(.iload_n 2, []), (.aload_n 0, []), (.getfield 10, [1, 5, 0, 1, 0, 277]), (.getfield 159, [0, 0, 10, 1, 178]), (.if_icmp .gt 16, [4]), (.iload_n 2, []), (.aload_n 0, []), (.getfield 10, [1, 5, 0, 1, 0, 277]), (.getfield 268, [1, 0, 13, 7, 1, 188]), (.iload_n 1, []), (.iaload, []), (.if_icmp .le 10, [5]), (.nop, [4])]))
def b_X5_move_4 : ABlk := (57, ([true, false, false], [(.aload_n 0, []), (.bipush (-6), []), (.invokevirtual 57, [56, 2, 0, 315]), (.ireturn, [])]))
def b_X5_move_5 : ABlk := (64, ([true, true, true], [(.aload_n 0, []), (.getfield 10, [1, 5, 0, 1, 0, 277]), (.getfield 268, [1, 0, 13, 7, 1, 188]), (.iload_n 1, []), (.dup2, []), (.iaload, []), (.iload_n 2, []), (.isub, []), (.iastore, []), (.aload_n 0, []), (.getfield 10, [1, 5, 0, 1, 0, 277]), (.getfield 268, [1, 0, 13, 7, 1, 188]), (.iload_n 1, []), (.iaload, []), (.ireturn, [])]))
def k_X5_move : List ABlk := [b_X5_move_0, b_X5_move_1, b_X5_move_2, b_X5_move_3, b_X5_move_4, b_X5_move_5]
def md_X5_move : MDat := (yX5_move, (cX5_move, (3, (some .int, (false, (2, (5, ([807, 805, 806, 118], k_X5_move))))))))
def n_X5_move : Nat := 43
def b_X5_wins_0 : ABlk := (0, ([true, true, false, false, false, false], [(.iload_n 1, []), (.ifCond .lt 8, [1]), (.iload_n 1, []), (.iconst 3, []), (.if_icmp .le 10, [2]), (.nop, [1])]))
def b_X5_wins_1 : ABlk := (9, ([true, false, false, false, false, false], [(.aload_n 0, []), (.bipush (-2), []), (.invokevirtual 57, [56, 2, 0, 315]), (.ireturn, [])]))
def b_X5_wins_2 : ABlk := (16, ([true, true, false, false, false, false], [(.iload_n 1, []), (.iconst 1, []), (.if_icmp .eq 8, [3]), (.iload_n 1, []), (.iconst 3, []), (.if_icmp .ne 7, [4]), (.nop, [3])]))
def b_X5_wins_3 : ABlk := (26, ([true, true, false, false, false, false], [(.iconst 1, []), (.goto 4, [5])]))
def b_X5_wins_4 : ABlk := (30, ([true, true, false, false, false, false], [(.iconst 0, []), (.nop, [5])]))
def b_X5_wins_5 : ABlk := (31, ([true, true, false, false, false, false], [(.istore_n 2, []), (.iload_n 1, []), (.iconst 2, []), (.if_icmp .ge 22, [8]), (.aload_n 0, []), (.getfield 10, [1, 5, 0, 1, 0, 277]), (.iconst (-1), []), (.iconst 0, []), (.iload_n 2, []), (.invokestatic 271, [206, 4, 1, 812]), (.ifCond .eq 7, [6]), (.iconst 0, []), (.goto 4, [7])]))
def b_X5_wins_6 : ABlk := (54, ([false, false, false, false, false, false], [(.iconst 1, []), (.nop, [7])]))
def b_X5_wins_7 : ABlk := (55, ([false, false, false, false, false, false], [(.ireturn, [])]))
def b_X5_wins_8 : ABlk := (56, ([true, false, true, false, false, false], [(.iconst 0, []), (.istore_n 3, []), (.nop, [9])]))
def b_X5_wins_9 : ABlk := (58, ([true, false, true, true, false, false], [(.iload_n 3, []), (.aload_n 0, []), (.getfield 10, [1, 5, 0, 1, 0, 277]), (.getfield 265, [0, 0, 12, 1, 185]), (.if_icmp .ge 68, [13]), (.aload_n 0, []), (.getfield 10, [1, 5, 0, 1, 0, 277]), (.getfield 159, [0, 0, 10, 1, 178]), (.aload_n 0, []), (.getfield 10, [1, 5, 0, 1, 0, 277]), (.getfield 268, [1, 0, 13, 7, 1, 188]), (.iload_n 3, []), (.iaload, []), (.invokestatic 204, [1, 662]), (.istore 4, []), (.iconst 1, []), (.istore 5, []), (.nop, [10])]))
def b_X5_wins_10 : ABlk := (93, ([true, false, true, true, true, true], [(.iload 5, []), (.iload 4, []), (.if_icmp .gt 31, [12]), (.aload_n 0, []), (.getfield 10, [1, 5, 0, 1, 0, 277]), (.iload_n 3, []), (.iload 5, []), (.iload_n 2, []), (.invokestatic 271, [206, 4, 1, 812]), (.ifCond .eq 11, [11]), (.bipush 10, []), (.iload_n 3, []), (.imul, []), (.iload 5, []), (.iadd, []), (.ireturn, [])]))
def b_X5_wins_11 : ABlk := (122, ([true, false, true, true, true, true], [(.iinc 5 1, []), (.goto (-32), [10])]))
def b_X5_wins_12 : ABlk := (128, ([true, false, true, true, false, false], [(.iinc 3 1, []), (.goto (-73), [9])]))
def b_X5_wins_13 : ABlk := (134, ([false, false, false, false, false, false], [(.bipush (-9), []), (.ireturn, [])]))
def k_X5_wins : List ABlk := [b_X5_wins_0, b_X5_wins_1, b_X5_wins_2, b_X5_wins_3, b_X5_wins_4, b_X5_wins_5, b_X5_wins_6, b_X5_wins_7, b_X5_wins_8, b_X5_wins_9, b_X5_wins_10, b_X5_wins_11, b_X5_wins_12, b_X5_wins_13]
def md_X5_wins : MDat := (yX5_wins, (cX5_wins, (6, (some .int, (false, (1, (5, ([811, 809, 810, 118], k_X5_wins))))))))
def n_X5_wins : Nat := 44
def b_X5_spoons_0 : ABlk := (0, ([true, true, true, true, true, true, true, false, false, false, false, false, false, false], [(.aload_n 0, []), (.getfield 10, [1, 5, 0, 1, 0, 277]), (.iload_n 1, []), (.invokevirtual 132, [175, 2, 1, 554]), (.ifCond .eq 15, [1]), (.iload 5, []), (.ifCond .lt 10, [1]), (.iload 5, []), (.bipush 12, []), (.if_icmp .le 9, [2]), (.nop, [1])]))
def b_X5_spoons_1 : ABlk := (23, ([true, false, false, false, false, false, false, false, false, false, false, false, false, false], [(.aload_n 0, []), (.iconst (-1), []), (.invokevirtual 224, [57, 2, 0, 678]), (.lreturn, [])]))
def b_X5_spoons_2 : ABlk := (29, ([true, true, true, true, true, true, true, false, false, false, false, false, false, false], [(.iload_n 2, []), (.ifCond .lt 12, [3]), (.iload_n 3, []), (.ifCond .lt 8, [3]), (.iload 4, []), (.ifCond .ge 10, [4]), (.nop, [3])]))
def b_X5_spoons_3 : ABlk := (42, ([true, false, false, false, false, false, false, false, false, false, false, false, false, false], [(.aload_n 0, []), (.bipush (-4), []), (.invokevirtual 224, [57, 2, 0, 678]), (.lreturn, [])]))
def b_X5_spoons_4 : ABlk := (49, ([true, true, true, true, true, true, true, false, false, false, false, false, false, false], [(.iload_n 2, []), (.bipush 20, []), (.if_icmp .gt 16, [5]), (.iload_n 3, []), (.bipush 9, []), (.if_icmp .gt 10, [5]), (.iload 4, []), (.bipush 9, []), (.if_icmp .le 10, [6]), (.nop, [5])]))
def b_X5_spoons_5 : ABlk := (68, ([true, false, false, false, false, false, false, false, false, false, false, false, false, false], [(.aload_n 0, []), (.bipush (-6), []), (.invokevirtual 224, [57, 2, 0, 678]), (.lreturn, [])]))
def b_X5_spoons_6 : ABlk := (75, ([true, true, true, true, true, true, true, false, false, false, false, false, false, false], [(.iload 6, []), (.ifCond .eq 16, [7]), (.iload 6, []), (.iconst 1, []), (.if_icmp .eq 10, [7]), (.aload_n 0, []), (.bipush (-2), []), (.invokevirtual 224, [57, 2, 0, 678]), (.lreturn, [])]))
def b_X5_spoons_7 : ABlk := (93, ([true, true, true, true, true, true, true, false, false, false, false, false, false, false], [(.aload_n 0, []), (.getfield 10, [1, 5, 0, 1, 0, 277]), (.getfield 114, [0, 0, 0, 1, 147]), (.ifCond .ne 10, [8]), (.aload_n 0, []), (.bipush (-3), []), (.invokevirtual 224, [57, 2, 0, 678]), (.lreturn, [])]))
def b_X5_spoons_8 : ABlk := (110, ([true, true, true, true, true, true, true, false, false, false, false, false, false, false], [(.iload 5, []), (.bipush 12, []), (.if_icmp .ne 8, [9]), (.bipush (-9), []), (.goto 5, [10])]))
def b_X5_spoons_9 : ABlk := (122, ([true, true, true, true, true, true, true, false, false, false, false, false, false, false], [(.iload 5, []), (.nop, [10])]))
def b_X5_spoons_10 : ABlk := (124, ([true, true, true, true, true, false, true, false, false, false, false, false, false, false], [(.istore 7, []), (.lconst 0, []), (.lstore 8, []), (.lconst 1, []), (.lstore 10, []), (.iconst 0, []), (.istore 12, []), (.nop, [11])]))
def b_X5_spoons_11 : ABlk := (135, ([true, true, true, true, true, false, true, true, true, false, true, false, true, false], [(.iload 12, []), (.iload_n 2, []), (.if_icmp .gt 71, [13]), (.aload_n 0, []), (.getfield 10, [1, 5, 0, 1, 0, 277]), (.getfield 144, [1, 0, 7, 6, 1, 168]), (.iload_n 1, []), (.iaload, []), (.iload 12, []), (.iload_n 3, []), (.imul, []), (.iadd, []), (.iload_n 2, []), (.iload 12, []), (.isub, []), (.iload 4, []), (.imul, []), (.iadd, []), (.istore 13, []), (.aload_n 0, []), (.getfield 10, [1, 5, 0, 1, 0, 277]), (.iconst 0, []), (.iload 13, []), (.invokevirtual 111, [176, 3, 1, 508]), (.iload 7, []), (.if_icmp .ne 10, [12]), (.lload 8, []), (.lload 10, []), (.ladd, []), (.lstore 8, []), (.nop, [12])]))
def b_X5_spoons_12 : ABlk := (187, ([true, true, true, true, true, false, true, true, true, false, true, false, true, false], [(.lload 10, []), (.iload_n 2, []), (.iload 12, []), (.isub, []), (.i2l, []), (.lmul, []), (.iload 12, []), (.iconst 1, []), (.iadd, []), (.i2l, []), (.ldiv, []), (.lstore 10, []), (.iinc 12 1, []), (.goto (-71), [11])]))
def b_X5_spoons_13 : ABlk := (209, ([false, false, true, false, false, false, true, false, true, false, false, false, false, false], [(.lload 8, []), (.lconst 1, []), (.iload_n 2, []), (.lshl, []), (.iload 6, []), (.invokestatic 275, [61, 3, 0, 819]), (.lreturn, [])]))
def k_X5_spoons : List ABlk := [b_X5_spoons_0, b_X5_spoons_1, b_X5_spoons_2, b_X5_spoons_3, b_X5_spoons_4, b_X5_spoons_5, b_X5_spoons_6, b_X5_spoons_7, b_X5_spoons_8, b_X5_spoons_9, b_X5_spoons_10, b_X5_spoons_11, b_X5_spoons_12, b_X5_spoons_13]
def md_X5_spoons : MDat := (yX5_spoons, (cX5_spoons, (14, (some .long, (false, (6, (5, ([818, 816, 817, 118], k_X5_spoons))))))))
def n_X5_spoons : Nat := 45
def b_X5_unknown_0 : ABlk := (0, ([true, true, true, true, true, false, false], [(.aload_n 0, []), (.getfield 10, [1, 5, 0, 1, 0, 277]), (.iload_n 1, []), (.iload_n 3, []), (.invokevirtual 107, [174, 3, 1, 503]), (.ifCond .ne 9, [1]), (.aload_n 0, []), (.iconst (-1), []), (.invokevirtual 224, [57, 2, 0, 678]), (.lreturn, [])]))
def b_X5_unknown_1 : ABlk := (18, ([true, true, true, true, true, false, false], [(.iload_n 2, []), (.iconst 1, []), (.if_icmp .ge 10, [2]), (.aload_n 0, []), (.bipush (-4), []), (.invokevirtual 224, [57, 2, 0, 678]), (.lreturn, [])]))
def b_X5_unknown_2 : ABlk := (30, ([true, true, true, true, true, false, false], [(.iload_n 2, []), (.sipush 999, []), (.if_icmp .le 10, [3]), (.aload_n 0, []), (.bipush (-6), []), (.invokevirtual 224, [57, 2, 0, 678]), (.lreturn, [])]))
def b_X5_unknown_3 : ABlk := (44, ([true, true, true, true, true, false, false], [(.iload 4, []), (.ifCond .eq 16, [4]), (.iload 4, []), (.iconst 1, []), (.if_icmp .eq 10, [4]), (.aload_n 0, []), (.bipush (-2), []), (.invokevirtual 224, [57, 2, 0, 678]), (.lreturn, [])]))
def b_X5_unknown_4 : ABlk := (62, ([true, true, true, true, true, false, false], [(.iconst 0, []), (.istore 5, []), (.iconst 1, []), (.istore 6, []), (.nop, [5])]))
def b_X5_unknown_5 : ABlk := (68, ([true, true, true, true, true, true, true], [(.iload 6, []), (.iload_n 2, []), (.if_icmp .gt 26, [7]), (.aload_n 0, []), (.getfield 10, [1, 5, 0, 1, 0, 277]), (.iload_n 1, []), (.iload 6, []), (.invokevirtual 111, [176, 3, 1, 508]), (.iload_n 3, []), (.if_icmp .ne 6, [6]), (.iinc 5 1, []), (.nop, [6])]))
def b_X5_unknown_6 : ABlk := (91, ([true, true, true, true, true, true, true], [(.iinc 6 1, []), (.goto (-26), [5])]))
def b_X5_unknown_7 : ABlk := (97, ([false, false, true, false, true, true, false], [(.iload 5, []), (.i2l, []), (.iload_n 2, []), (.i2l, []), (.iload 4, []), (.invokestatic 275, [61, 3, 0, 819]), (.lreturn, [])]))
def k_X5_unknown : List ABlk := [b_X5_unknown_0, b_X5_unknown_1, b_X5_unknown_2, b_X5_unknown_3, b_X5_unknown_4, b_X5_unknown_5, b_X5_unknown_6, b_X5_unknown_7]
def md_X5_unknown : MDat := (yX5_unknown, (cX5_unknown, (7, (some .long, (false, (4, (5, ([825, 823, 824, 118], k_X5_unknown))))))))
def n_X5_unknown : Nat := 46
def b_X5_petals_0 : ABlk := (0, ([true, true], [(.aload_n 0, []), (.getfield 10, [1, 5, 0, 1, 0, 277]), (.iload_n 1, []), (.invokevirtual 132, [175, 2, 1, 554]), (.ifCond .ne 9, [1]), (.aload_n 0, []), (.iconst (-1), []), (.invokevirtual 57, [56, 2, 0, 315]), (.ireturn, [])]))
def b_X5_petals_1 : ABlk := (17, ([true, true], [(.aload_n 0, []), (.getfield 117, [0, 5, 7, 0, 284]), (.bipush 12, []), (.if_icmp .ne 13, [2]), (.aload_n 0, []), (.getfield 10, [1, 5, 0, 1, 0, 277]), (.getfield 114, [0, 0, 0, 1, 147]), (.ifCond .ne 10, [3]), (.nop, [2])]))
def b_X5_petals_2 : ABlk := (36, ([true, false], [(.aload_n 0, []), (.bipush (-3), []), (.invokevirtual 57, [56, 2, 0, 315]), (.ireturn, [])]))
def b_X5_petals_3 : ABlk := (43, ([true, true], [(.aload_n 0, []), (.aload_n 0, []), (.getfield 10, [1, 5, 0, 1, 0, 277]), (.getfield 141, [1, 0, 6, 5, 1, 163]), (.iload_n 1, []), (.iaload, []), (.invokevirtual 279, [49, 2, 0, 830]), (.ireturn, [])]))
def k_X5_petals : List ABlk := [b_X5_petals_0, b_X5_petals_1, b_X5_petals_2, b_X5_petals_3]
def md_X5_petals : MDat := (yX5_petals, (cX5_petals, (2, (some .int, (false, (1, (5, ([829, 827, 828, 118], k_X5_petals))))))))
def n_X5_petals : Nat := 47
def b_X5_petal_0 : ABlk := (0, ([true, true, true, false, false, false], [(.aload_n 0, []), (.getfield 10, [1, 5, 0, 1, 0, 277]), (.iload_n 1, []), (.invokevirtual 132, [175, 2, 1, 554]), (.ifCond .ne 9, [1]), (.aload_n 0, []), (.iconst (-1), []), (.invokevirtual 224, [57, 2, 0, 678]), (.lreturn, [])]))
def b_X5_petal_1 : ABlk := (17, ([true, true, true, false, false, false], [(.aload_n 0, []), (.getfield 117, [0, 5, 7, 0, 284]), (.bipush 12, []), (.if_icmp .ne 13, [2]), (.aload_n 0, []), (.getfield 10, [1, 5, 0, 1, 0, 277]), (.getfield 114, [0, 0, 0, 1, 147]), (.ifCond .ne 10, [3]), (.nop, [2])]))
def b_X5_petal_2 : ABlk := (36, ([true, false, false, false, false, false], [(.aload_n 0, []), (.bipush (-3), []), (.invokevirtual 224, [57, 2, 0, 678]), (.lreturn, [])]))
def b_X5_petal_3 : ABlk := (43, ([true, true, true, false, false, false], [(.iload_n 2, []), (.ifCond .eq 15, [4]), (.iload_n 2, []), (.iconst 1, []), (.if_icmp .eq 10, [4]), (.aload_n 0, []), (.bipush (-2), []), (.invokevirtual 224, [57, 2, 0, 678]), (.lreturn, [])]))
def b_X5_petal_4 : ABlk := (59, ([true, true, true, false, false, false], [(.aload_n 0, []), (.getfield 10, [1, 5, 0, 1, 0, 277]), (.getfield 141, [1, 0, 6, 5, 1, 163]), (.iload_n 1, []), (.iaload, []), (.istore_n 3, []), (.iconst 0, []), (.istore 4, []), (.iconst 0, []), (.istore 5, []), (.nop, [5])]))
def b_X5_petal_5 : ABlk := (75, ([true, false, true, true, true, true], [(.iload 5, []), (.bipush 12, []), (.if_icmp .ge 21, [6]), (.iload 4, []), (.aload_n 0, []), (.getfield 36, [1, 5, 6, 31, 0, 283]), (.iload 5, []), (.iaload, []), (.iadd, []), (.istore 4, []), (.iinc 5 1, []), (.goto (-22), [5])]))
def b_X5_petal_6 : ABlk := (100, ([true, false, true, true, true, false], [(.aload_n 0, []), (.iload_n 3, []), (.aload_n 0, []), (.iload_n 3, []), (.invokevirtual 279, [49, 2, 0, 830]), (.invokevirtual 282, [50, 3, 0, 834]), (.i2l, []), (.iload 4, []), (.i2l, []), (.iload_n 2, []), (.invokestatic 275, [61, 3, 0, 819]), (.lreturn, [])]))
def k_X5_petal : List ABlk := [b_X5_petal_0, b_X5_petal_1, b_X5_petal_2, b_X5_petal_3, b_X5_petal_4, b_X5_petal_5, b_X5_petal_6]
def md_X5_petal : MDat := (yX5_petal, (cX5_petal, (6, (some .long, (false, (2, (5, ([842, 840, 841, 118], k_X5_petal))))))))
def n_X5_petal : Nat := 48
def b_X5_likeliestWord_0 : ABlk := (0, ([true, true, false, false], [(.iconst 0, []), (.istore_n 2, []), (.iconst 1, []), (.istore_n 3, []), (.nop, [1])]))
def b_X5_likeliestWord_1 : ABlk := (4, ([true, true, true, true], [(.iload_n 3, []), (.aload_n 0, []), (.getfield 10, [1, 5, 0, 1, 0, 277]), (.getfield 101, [1, 0, 1, 1, 1, 149]), (.iconst 0, []), (.iaload, []), (.if_icmp .ge 26, [3]), (.aload_n 0, []), (.iload_n 1, []), (.iload_n 3, []), (.invokevirtual 282, [50, 3, 0, 834]), (.aload_n 0, []), (.iload_n 1, []), (.iload_n 2, []), (.invokevirtual 282, [50, 3, 0, 834]), (.if_icmp .le 5, [2]), (.iload_n 3, []), (.istore_n 2, []), (.nop, [2])]))
def b_X5_likeliestWord_2 : ABlk := (34, ([true, true, true, true], [(.iinc 3 1, []), (.goto (-33), [1])]))
def b_X5_likeliestWord_3 : ABlk := (40, ([false, false, true, false], [(.iload_n 2, []), (.ireturn, [])]))
def k_X5_likeliestWord : List ABlk := [b_X5_likeliestWord_0, b_X5_likeliestWord_1, b_X5_likeliestWord_2, b_X5_likeliestWord_3]
def md_X5_likeliestWord : MDat := (yX5_likeliestWord, (cX5_likeliestWord, (4, (some .int, (false, (1, (5, ([833, 832, 57, 118], k_X5_likeliestWord))))))))
def n_X5_likeliestWord : Nat := 49
def b_X5_weightFor_0 : ABlk := (0, ([true, true, true, false, false], [(.iconst 0, []), (.istore_n 3, []), (.iconst 1, []), (.istore 4, []), (.nop, [1])]))
def b_X5_weightFor_1 : ABlk := (5, ([true, true, true, true, true], [(.iload 4, []), (.bipush 12, []), (.if_icmp .gt 40, [3]), (.aload_n 0, []), (.getfield 10, [1, 5, 0, 1, 0, 277]), (.getfield 101, [1, 0, 1, 1, 1, 149]), (.iconst 0, []), (.iaload, []), (.iload_n 2, []), (.iload 4, []), (.invokestatic 285, [58, 3, 0, 838]), (.iload_n 1, []), (.if_icmp .ne 15, [2]), (.iload_n 3, []), (.aload_n 0, []), (.getfield 36, [1, 5, 6, 31, 0, 283]), (.iload 4, []), (.iconst 1, []), (.isub, []), (.iaload, []), (.iadd, []), (.istore_n 3, []), (.nop, [2])]))
def b_X5_weightFor_2 : ABlk := (43, ([true, true, true, true, true], [(.iinc 4 1, []), (.goto (-41), [1])]))
def b_X5_weightFor_3 : ABlk := (49, ([false, false, false, true, false], [(.iload_n 3, []), (.ireturn, [])]))
def k_X5_weightFor : List ABlk := [b_X5_weightFor_0, b_X5_weightFor_1, b_X5_weightFor_2, b_X5_weightFor_3]
def md_X5_weightFor : MDat := (yX5_weightFor, (cX5_weightFor, (5, (some .int, (false, (2, (5, ([837, 836, 58, 118], k_X5_weightFor))))))))
def n_X5_weightFor : Nat := 50
def b_X5_row_0 : ABlk := (0, ([true, true], [(.iload_n 1, []), (.ifCond .ge 10, [1]), (.aload_n 0, []), (.bipush (-4), []), (.invokevirtual 57, [56, 2, 0, 315]), (.ireturn, [])]))
def b_X5_row_1 : ABlk := (11, ([true, true], [(.iload_n 1, []), (.bipush 99, []), (.if_icmp .gt 12, [2]), (.aload_n 0, []), (.getfield 117, [0, 5, 7, 0, 284]), (.bipush 12, []), (.if_icmp .lt 10, [3]), (.nop, [2])]))
def b_X5_row_2 : ABlk := (26, ([true, false], [(.aload_n 0, []), (.bipush (-6), []), (.invokevirtual 57, [56, 2, 0, 315]), (.ireturn, [])]))
def b_X5_row_3 : ABlk := (33, ([true, true], [(.aload_n 0, []), (.getfield 36, [1, 5, 6, 31, 0, 283]), (.aload_n 0, []), (.getfield 117, [0, 5, 7, 0, 284]), (.iload_n 1, []), (.iastore, []), (.aload_n 0, []), (.dup, []), (.getfield 117, [0, 5, 7, 0, 284]), (.iconst 1, []), (.iadd, []), (.putfield 117, [0, 5, 7, 0, 284]), (.aload_n 0, []), (.getfield 117, [0, 5, 7, 0, 284]), (.ireturn, [])]))
def k_X5_row : List ABlk := [b_X5_row_0, b_X5_row_1, b_X5_row_2, b_X5_row_3]
def md_X5_row : MDat := (yX5_row, (cX5_row, (2, (some .int, (false, (1, (5, ([846, 844, 845, 118], k_X5_row))))))))
def n_X5_row : Nat := 51
def b_X5_clear_0 : ABlk := (0, ([true, false], [(.aload_n 0, []), (.getfield 117, [0, 5, 7, 0, 284]), (.istore_n 1, []), (.aload_n 0, []), (.iconst 0, []), (.putfield 117, [0, 5, 7, 0, 284]), (.iload_n 1, []), (.ireturn, [])]))
def k_X5_clear : List ABlk := [b_X5_clear_0]
def md_X5_clear : MDat := (yX5_clear, (cX5_clear, (2, (some .int, (false, (0, (5, ([850, 848, 849, 118], k_X5_clear))))))))
def n_X5_clear : Nat := 52
def b_X5_image_0 : ABlk := (0, ([true], [(.aload_n 0, []), (.getfield 19, [1, 5, 2, 17, 0, 279]), (.aload_n 0, []), (.getfield 10, [1, 5, 0, 1, 0, 277]), (.invokevirtual 77, [172, 2, 1, 404]), (.aload_n 0, []), (.iconst 1, []), (.putfield 288, [3, 5, 3, 0, 280]), (.aload_n 0, []), (.getfield 10, [1, 5, 0, 1, 0, 277]), (.getfield 153, [0, 0, 8, 1, 173]), (.ireturn, [])]))
def k_X5_image : List ABlk := [b_X5_image_0]
def md_X5_image : MDat := (yX5_image, (cX5_image, (1, (some .int, (false, (0, (5, ([854, 852, 853, 118], k_X5_image))))))))
def n_X5_image : Nat := 53
def b_X5_restore_0 : ABlk := (0, ([true], [(.aload_n 0, []), (.getfield 288, [0, 5, 3, 0, 280]), (.ifCond .ne 10, [1]), (.aload_n 0, []), (.bipush (-3), []), (.invokevirtual 57, [56, 2, 0, 315]), (.ireturn, [])]))
def b_X5_restore_1 : ABlk := (14, ([true], [(.aload_n 0, []), (.getfield 10, [1, 5, 0, 1, 0, 277]), (.aload_n 0, []), (.getfield 19, [1, 5, 2, 17, 0, 279]), (.invokevirtual 77, [172, 2, 1, 404]), (.aload_n 0, []), (.getfield 32, [1, 5, 5, 27, 0, 282]), (.invokevirtual 94, [217, 1, 1, 489]), (.aload_n 0, []), (.getfield 10, [1, 5, 0, 1, 0, 277]), (.getfield 153, [0, 0, 8, 1, 173]), (.ireturn, [])]))
def k_X5_restore : List ABlk := [b_X5_restore_0, b_X5_restore_1]
def md_X5_restore : MDat := (yX5_restore, (cX5_restore, (1, (some .int, (false, (0, (5, ([858, 856, 857, 118], k_X5_restore))))))))
def n_X5_restore : Nat := 54
def b_X5_count_0 : ABlk := (0, ([true, true], [(.iload_n 1, []), (.bipush 11, []), (.if_icmp .lt 19, [1]), (.iload_n 1, []), (.bipush 16, []), (.if_icmp .gt 13, [1]), (.aload_n 0, []), (.getfield 40, [1, 5, 8, 32, 0, 285]), (.iload_n 1, []), (.bipush 10, []), (.isub, []), (.iaload, []), (.ireturn, [])]))
def b_X5_count_1 : ABlk := (22, ([true, true], [(.iload_n 1, []), (.tableswitch 190 0 18 #[89, 97, 105, 113, 121, 129, 137, 145, 153, 158, 166, 190, 190, 190, 190, 190, 190, 174, 182], [15, 2, 3, 4, 5, 6, 7, 8, 9, 10, 11, 12, 15, 15, 15, 15, 15, 15, 13, 14])]))
def b_X5_count_2 : ABlk := (112, ([true, false], [(.aload_n 0, []), (.getfield 10, [1, 5, 0, 1, 0, 277]), (.getfield 165, [0, 0, 3, 1, 157]), (.ireturn, [])]))
def b_X5_count_3 : ABlk := (120, ([true, false], [(.aload_n 0, []), (.getfield 10, [1, 5, 0, 1, 0, 277]), (.getfield 114, [0, 0, 0, 1, 147]), (.ireturn, [])]))
def b_X5_count_4 : ABlk := (128, ([true, false], [(.aload_n 0, []), (.getfield 10, [1, 5, 0, 1, 0, 277]), (.getfield 153, [0, 0, 8, 1, 173]), (.ireturn, [])]))
def b_X5_count_5 : ABlk := (136, ([true, false], [(.aload_n 0, []), (.getfield 10, [1, 5, 0, 1, 0, 277]), (.getfield 156, [0, 0, 9, 1, 175]), (.ireturn, [])]))
def b_X5_count_6 : ABlk := (144, ([true, false], [(.aload_n 0, []), (.getfield 10, [1, 5, 0, 1, 0, 277]), (.getfield 159, [0, 0, 10, 1, 178]), (.ireturn, [])]))
def b_X5_count_7 : ABlk := (152, ([true, false], [(.aload_n 0, []), (.getfield 10, [1, 5, 0, 1, 0, 277]), (.getfield 162, [0, 0, 11, 1, 182]), (.ireturn, [])]))
def b_X5_count_8 : ABlk := (160, ([true, false], [(.aload_n 0, []), (.getfield 10, [1, 5, 0, 1, 0, 277]), (.invokevirtual 292, [183, 1, 1, 863]), (.ireturn, [])]))
def b_X5_count_9 : ABlk := (168, ([true, false], [(.aload_n 0, []), (.getfield 25, [1, 5, 4, 25, 0, 281]), (.getfield 69, [0, 2, 1, 1, 227]), (.ireturn, [])]))
def b_X5_count_10 : ABlk := (176, ([true, false], [(.aload_n 0, []), (.getfield 117, [0, 5, 7, 0, 284]), (.ireturn, [])]))
def b_X5_count_11 : ABlk := (181, ([true, false], [(.aload_n 0, []), (.getfield 10, [1, 5, 0, 1, 0, 277]), (.invokevirtual 182, [180, 1, 1, 607]), (.ireturn, [])]))
def b_X5_count_12 : ABlk := (189, ([true, false], [(.aload_n 0, []), (.getfield 10, [1, 5, 0, 1, 0, 277]), (.getfield 265, [0, 0, 12, 1, 185]), (.ireturn, [])]))
def b_X5_count_13 : ABlk := (197, ([true, false], [(.aload_n 0, []), (.getfield 32, [1, 5, 5, 27, 0, 282]), (.getfield 174, [0, 3, 3, 1, 243]), (.ireturn, [])]))
def b_X5_count_14 : ABlk := (205, ([true, false], [(.aload_n 0, []), (.getfield 10, [1, 5, 0, 1, 0, 277]), (.invokevirtual 295, [184, 1, 1, 864]), (.ireturn, [])]))
def b_X5_count_15 : ABlk := (213, ([false, false], [(.bipush (-9), []), (.ireturn, [])]))
def k_X5_count : List ABlk := [b_X5_count_0, b_X5_count_1, b_X5_count_2, b_X5_count_3, b_X5_count_4, b_X5_count_5, b_X5_count_6, b_X5_count_7, b_X5_count_8, b_X5_count_9, b_X5_count_10, b_X5_count_11, b_X5_count_12, b_X5_count_13, b_X5_count_14, b_X5_count_15]
def md_X5_count : MDat := (yX5_count, (cX5_count, (2, (some .int, (false, (1, (5, ([862, 860, 861, 118], k_X5_count))))))))
def n_X5_count : Nat := 55
def b_X5_refuse_0 : ABlk := (0, ([true, true], [(.iload_n 1, []), (.iconst (-1), []), (.if_icmp .gt 20, [1]), (.iload_n 1, []), (.bipush (-6), []), (.if_icmp .lt 14, [1]), (.aload_n 0, []), (.getfield 40, [1, 5, 8, 32, 0, 285]), (.iload_n 1, []), (.ineg, []), (.dup2, []), (.iaload, []), (.iconst 1, []), (.iadd, []), (.iastore, []), (.nop, [1])]))
def b_X5_refuse_1 : ABlk := (22, ([false, true], [(.iload_n 1, []), (.ireturn, [])]))
def k_X5_refuse : List ABlk := [b_X5_refuse_0, b_X5_refuse_1]
def md_X5_refuse : MDat := (yX5_refuse, (cX5_refuse, (2, (some .int, (false, (1, (5, ([318, 317, 0, 118], k_X5_refuse))))))))
def n_X5_refuse : Nat := 56
def b_X5_refuseLong_0 : ABlk := (0, ([true, true], [(.ldc2_w 298, [4000000000000000000, 0, 682]), (.aload_n 0, []), (.iload_n 1, []), (.invokevirtual 57, [56, 2, 0, 315]), (.i2l, []), (.lsub, []), (.lreturn, [])]))
def k_X5_refuseLong : List ABlk := [b_X5_refuseLong_0]
def md_X5_refuseLong : MDat := (yX5_refuseLong, (cX5_refuseLong, (2, (some .long, (false, (1, (5, ([681, 680, 38, 118], k_X5_refuseLong))))))))
def n_X5_refuseLong : Nat := 57
def b_X5_spoken_0 : ABlk := (0, ([true, true, true], [(.iload_n 2, []), (.iconst 1, []), (.if_icmp .lt 8, [1]), (.iload_n 0, []), (.iconst 1, []), (.if_icmp .ge 6, [2]), (.nop, [1])]))
def b_X5_spoken_1 : ABlk := (10, ([false, false, false], [(.bipush (-9), []), (.ireturn, [])]))
def b_X5_spoken_2 : ABlk := (13, ([true, true, true], [(.iload_n 1, []), (.iload_n 2, []), (.iadd, []), (.iconst 1, []), (.isub, []), (.iload_n 0, []), (.irem, []), (.ireturn, [])]))
def k_X5_spoken : List ABlk := [b_X5_spoken_0, b_X5_spoken_1, b_X5_spoken_2]
def md_X5_spoken : MDat := (yX5_spoken, (cX5_spoken, (3, (some .int, (true, (3, (5, ([472, 471, 0, 118], k_X5_spoken))))))))
def n_X5_spoken : Nat := 58
def b_X5_commonDivisor_0 : ABlk := (0, ([true, false, true, false, false, false, false, false, false, false, false], [(.lload_n 0, []), (.lstore 4, []), (.lload_n 2, []), (.lstore 6, []), (.iconst 0, []), (.istore 8, []), (.nop, [1])]))
def b_X5_commonDivisor_1 : ABlk := (9, ([false, false, false, false, true, false, true, false, true, false, false], [(.iload 8, []), (.bipush 100, []), (.if_icmp .ge 31, [2]), (.lload 6, []), (.lconst 0, []), (.lcmp, []), (.ifCond .le 24, [2]), (.lload 4, []), (.lload 6, []), (.lrem, []), (.lstore 9, []), (.lload 6, []), (.lstore 4, []), (.lload 9, []), (.lstore 6, []), (.iinc 8 1, []), (.goto (-32), [1])]))
def b_X5_commonDivisor_2 : ABlk := (44, ([false, false, false, false, true, false, false, false, false, false, false], [(.lload 4, []), (.lreturn, [])]))
def k_X5_commonDivisor : List ABlk := [b_X5_commonDivisor_0, b_X5_commonDivisor_1, b_X5_commonDivisor_2]
def md_X5_commonDivisor : MDat := (yX5_commonDivisor, (cX5_commonDivisor, (11, (some .long, (true, (2, (5, ([525, 524, 0, 118], k_X5_commonDivisor))))))))
def n_X5_commonDivisor : Nat := 59
def b_X5_commonMultiple_0 : ABlk := (0, ([true, true, false, false], [(.iload_n 0, []), (.i2l, []), (.iload_n 1, []), (.i2l, []), (.invokestatic 300, [59, 2, 0, 523]), (.lstore_n 2, []), (.lload_n 2, []), (.lconst 1, []), (.lcmp, []), (.ifCond .ge 7, [1]), (.iconst 0, []), (.goto 11, [2])]))
def b_X5_commonMultiple_1 : ABlk := (18, ([true, true, true, false], [(.iload_n 0, []), (.i2l, []), (.lload_n 2, []), (.ldiv, []), (.iload_n 1, []), (.i2l, []), (.lmul, []), (.l2i, []), (.nop, [2])]))
def b_X5_commonMultiple_2 : ABlk := (26, ([false, false, false, false], [(.ireturn, [])]))
def k_X5_commonMultiple : List ABlk := [b_X5_commonMultiple_0, b_X5_commonMultiple_1, b_X5_commonMultiple_2]
def md_X5_commonMultiple : MDat := (yX5_commonMultiple, (cX5_commonMultiple, (4, (some .int, (true, (2, (5, ([522, 521, 0, 118], k_X5_commonMultiple))))))))
def n_X5_commonMultiple : Nat := 60
def b_X5_partOf_0 : ABlk := (0, ([true, false, true, false, true, false, false], [(.lload_n 0, []), (.lload_n 2, []), (.invokestatic 300, [59, 2, 0, 523]), (.lstore 5, []), (.lload 5, []), (.lconst 1, []), (.lcmp, []), (.ifCond .lt 9, [1]), (.lload_n 2, []), (.lconst 1, []), (.lcmp, []), (.ifCond .ge 7, [2]), (.nop, [1])]))
def b_X5_partOf_1 : ABlk := (20, ([false, false, false, false, true, false, false], [(.iload 4, []), (.i2l, []), (.lreturn, [])]))
def b_X5_partOf_2 : ABlk := (24, ([true, false, true, false, true, true, false], [(.iload 4, []), (.ifCond .ne 7, [3]), (.lload_n 0, []), (.goto 4, [4])]))
def b_X5_partOf_3 : ABlk := (33, ([false, false, true, false, false, true, false], [(.lload_n 2, []), (.nop, [4])]))
def b_X5_partOf_4 : ABlk := (34, ([false, false, false, false, false, true, false], [(.lload 5, []), (.ldiv, []), (.lreturn, [])]))
def k_X5_partOf : List ABlk := [b_X5_partOf_0, b_X5_partOf_1, b_X5_partOf_2, b_X5_partOf_3, b_X5_partOf_4]
def md_X5_partOf : MDat := (yX5_partOf, (cX5_partOf, (7, (some .long, (true, (3, (5, ([821, 820, 0, 118], k_X5_partOf))))))))
def n_X5_partOf : Nat := 61
def b_X6_in_0 : ABlk := (0, ([true, false, true, false, true, false], [(.lload_n 0, []), (.lload_n 2, []), (.lcmp, []), (.ifCond .lt 14, [1]), (.lload_n 0, []), (.lload 4, []), (.lcmp, []), (.ifCond .gt 7, [1]), (.iconst 1, []), (.goto 4, [2])]))
def b_X6_in_1 : ABlk := (17, ([false, false, false, false, false, false], [(.iconst 0, []), (.nop, [2])]))
def b_X6_in_2 : ABlk := (18, ([false, false, false, false, false, false], [(.ireturn, [1])]))
def k_X6_in : List ABlk := [b_X6_in_0, b_X6_in_1, b_X6_in_2]
def md_X6_in : MDat := (yX6_in, (cX6_in, (6, (some .boolean, (true, (3, (6, ([1059, 1058, 0, 124], k_X6_in))))))))
def n_X6_in : Nat := 62
def b_X6_refuse_0 : ABlk := (0, ([true, true], [(.aload_n 0, []), (.getfield 35, [1, 6, 13, 7, 0, 887]), (.iload_n 1, []), (.ineg, []), (.dup2, []), (.iaload, []), (.iconst 1, []), (.iadd, []), (.iastore, []), (.iload_n 1, []), (.ireturn, [])]))
def k_X6_refuse : List ABlk := [b_X6_refuse_0]
def md_X6_refuse : MDat := (yX6_refuse, (cX6_refuse, (2, (some .int, (false, (1, (6, ([1030, 1029, 62, 124], k_X6_refuse))))))))
def n_X6_refuse : Nat := 63
def b_X6_isRhyme_0 : ABlk := (0, ([true, true], [(.iload_n 1, []), (.i2l, []), (.lconst 0, []), (.aload_n 0, []), (.getfield 100, [0, 6, 0, 0, 874]), (.iconst 1, []), (.isub, []), (.i2l, []), (.invokestatic 103, [62, 3, 0, 1057]), (.ireturn, [1])]))
def k_X6_isRhyme : List ABlk := [b_X6_isRhyme_0]
def md_X6_isRhyme : MDat := (yX6_isRhyme, (cX6_isRhyme, (2, (some .boolean, (false, (1, (6, ([1099, 1098, 75, 124], k_X6_isRhyme))))))))
def n_X6_isRhyme : Nat := 64
def b_X6_isEater_0 : ABlk := (0, ([true, true], [(.iload_n 1, []), (.i2l, []), (.lconst 0, []), (.aload_n 0, []), (.getfield 107, [0, 6, 1, 0, 875]), (.iconst 1, []), (.isub, []), (.i2l, []), (.invokestatic 103, [62, 3, 0, 1057]), (.ireturn, [1])]))
def k_X6_isEater : List ABlk := [b_X6_isEater_0]
def md_X6_isEater : MDat := (yX6_isEater, (cX6_isEater, (2, (some .boolean, (false, (1, (6, ([1154, 1153, 84, 124], k_X6_isEater))))))))
def n_X6_isEater : Nat := 65
def b_X6_wrongNumber_0 : ABlk := (0, ([true, true, true], [(.iload_n 0, []), (.iload_n 1, []), (.if_icmp .ge 8, [1]), (.bipush (-4), []), (.goto 14, [3])]))
def b_X6_wrongNumber_1 : ABlk := (10, ([true, false, true], [(.iload_n 0, []), (.iload_n 2, []), (.if_icmp .le 8, [2]), (.bipush (-6), []), (.goto 4, [3])]))
def b_X6_wrongNumber_2 : ABlk := (20, ([false, false, false], [(.iconst 0, []), (.nop, [3])]))
def b_X6_wrongNumber_3 : ABlk := (21, ([false, false, false], [(.ireturn, [])]))
def k_X6_wrongNumber : List ABlk := [b_X6_wrongNumber_0, b_X6_wrongNumber_1, b_X6_wrongNumber_2, b_X6_wrongNumber_3]
def md_X6_wrongNumber : MDat := (yX6_wrongNumber, (cX6_wrongNumber, (3, (some .int, (true, (3, (6, ([1146, 1145, 0, 124], k_X6_wrongNumber))))))))
def n_X6_wrongNumber : Nat := 66
def b_X6_ones_0 : ABlk := (0, ([true, false, false], [(.iconst 0, []), (.istore_n 1, []), (.iload_n 0, []), (.istore_n 2, []), (.nop, [1])]))
def b_X6_ones_1 : ABlk := (4, ([false, true, true], [(.iload_n 2, []), (.ifCond .eq 15, [2]), (.iinc 1 1, []), (.iload_n 2, []), (.iload_n 2, []), (.iconst 1, []), (.isub, []), (.iand, []), (.istore_n 2, []), (.goto (-13), [1])]))
def b_X6_ones_2 : ABlk := (20, ([false, true, false], [(.iload_n 1, []), (.ireturn, [])]))
def k_X6_ones : List ABlk := [b_X6_ones_0, b_X6_ones_1, b_X6_ones_2]
def md_X6_ones : MDat := (yX6_ones, (cX6_ones, (3, (some .int, (true, (1, (6, ([1235, 1234, 0, 124], k_X6_ones))))))))
def n_X6_ones : Nat := 67
def b_X6_saidBy_0 : ABlk := (0, ([true, true, true], [(.iload_n 2, []), (.ifCond .ne 8, [1]), (.bipush (-9), []), (.goto 20, [2])]))
def b_X6_saidBy_1 : ABlk := (9, ([true, true, true], [(.aload_n 0, []), (.getfield 20, [1, 6, 7, 2, 0, 881]), (.iload_n 1, []), (.iaload, []), (.iload_n 2, []), (.iadd, []), (.iconst 1, []), (.isub, []), (.aload_n 0, []), (.getfield 16, [1, 6, 6, 1, 0, 880]), (.iload_n 1, []), (.iaload, []), (.irem, []), (.nop, [2])]))
def b_X6_saidBy_2 : ABlk := (26, ([false, false, false], [(.ireturn, [])]))
def k_X6_saidBy : List ABlk := [b_X6_saidBy_0, b_X6_saidBy_1, b_X6_saidBy_2]
def md_X6_saidBy : MDat := (yX6_saidBy, (cX6_saidBy, (3, (some .int, (false, (2, (6, ([1123, 1122, 81, 124], k_X6_saidBy))))))))
def n_X6_saidBy : Nat := 68
def b_X6_wordTo_0 : ABlk := (0, ([true, true], [(.aload_n 0, []), (.getfield 100, [0, 6, 0, 0, 874]), (.ifCond .ne 8, [1]), (.bipush (-9), []), (.goto 9, [2])]))
def b_X6_wordTo_1 : ABlk := (12, ([true, true], [(.aload_n 0, []), (.iconst 0, []), (.iload_n 1, []), (.invokevirtual 110, [68, 3, 0, 1120]), (.nop, [2])]))
def b_X6_wordTo_2 : ABlk := (18, ([false, false], [(.ireturn, [])]))
def k_X6_wordTo : List ABlk := [b_X6_wordTo_0, b_X6_wordTo_1, b_X6_wordTo_2]
def md_X6_wordTo : MDat := (yX6_wordTo, (cX6_wordTo, (2, (some .int, (false, (1, (6, ([1119, 1118, 80, 124], k_X6_wordTo))))))))
def n_X6_wordTo : Nat := 69
def b_X6_wouldHave_0 : ABlk := (0, ([true, true, true], [(.aload_n 0, []), (.iload_n 2, []), (.invokevirtual 114, [69, 2, 0, 1116]), (.aload_n 0, []), (.getfield 29, [1, 6, 10, 5, 0, 884]), (.iload_n 1, []), (.iaload, []), (.if_icmp .ne 7, [1]), (.iconst 1, []), (.goto 4, [2])]))
def b_X6_wouldHave_1 : ABlk := (18, ([false, false, false], [(.iconst 0, []), (.nop, [2])]))
def b_X6_wouldHave_2 : ABlk := (19, ([false, false, false], [(.ireturn, [1])]))
def k_X6_wouldHave : List ABlk := [b_X6_wouldHave_0, b_X6_wouldHave_1, b_X6_wouldHave_2]
def md_X6_wouldHave : MDat := (yX6_wouldHave, (cX6_wouldHave, (3, (some .boolean, (false, (2, (6, ([1115, 1114, 79, 124], k_X6_wouldHave))))))))
def n_X6_wouldHave : Nat := 70
def b_X6_has_0 : ABlk := (0, ([true, true], [(.aload_n 0, []), (.iload_n 1, []), (.aload_n 0, []), (.getfield 32, [1, 6, 11, 6, 0, 885]), (.iload_n 1, []), (.iaload, []), (.invokevirtual 118, [70, 3, 0, 1112]), (.ireturn, [1])]))
def k_X6_has : List ABlk := [b_X6_has_0]
def md_X6_has : MDat := (yX6_has, (cX6_has, (2, (some .boolean, (false, (1, (6, ([1159, 1158, 85, 124], k_X6_has))))))))
def n_X6_has : Nat := 71
def b_X6_leastFor_0 : ABlk := (0, ([true, true, true, false], [(.iconst 0, []), (.istore_n 3, []), (.nop, [1])]))
def b_X6_leastFor_1 : ABlk := (2, ([true, true, true, true], [(.iload_n 3, []), (.aload_n 0, []), (.getfield 122, [0, 6, 2, 0, 876]), (.if_icmp .gt 41, [3]), (.aload_n 0, []), (.getfield 32, [1, 6, 11, 6, 0, 885]), (.iload_n 1, []), (.iaload, []), (.iload_n 3, []), (.iadd, []), (.bipush 100, []), (.if_icmp .ge 28, [3]), (.aload_n 0, []), (.iload_n 1, []), (.aload_n 0, []), (.getfield 32, [1, 6, 11, 6, 0, 885]), (.iload_n 1, []), (.iaload, []), (.iload_n 3, []), (.iadd, []), (.invokevirtual 118, [70, 3, 0, 1112]), (.ifCond .eq 5, [2]), (.iload_n 3, []), (.ireturn, [])]))
def b_X6_leastFor_2 : ABlk := (41, ([true, true, true, true], [(.iload_n 3, []), (.iload_n 2, []), (.iadd, []), (.istore_n 3, []), (.goto (-43), [1])]))
def b_X6_leastFor_3 : ABlk := (48, ([false, false, false, false], [(.iconst 0, []), (.ireturn, [])]))
def k_X6_leastFor : List ABlk := [b_X6_leastFor_0, b_X6_leastFor_1, b_X6_leastFor_2, b_X6_leastFor_3]
def md_X6_leastFor : MDat := (yX6_leastFor, (cX6_leastFor, (4, (some .int, (false, (2, (6, ([1111, 1110, 78, 124], k_X6_leastFor))))))))
def n_X6_leastFor : Nat := 72
def b_X6_playful_0 : ABlk := (0, ([true, false], [(.iconst 1, []), (.istore_n 1, []), (.nop, [1])]))
def b_X6_playful_1 : ABlk := (2, ([true, true], [(.iload_n 1, []), (.aload_n 0, []), (.getfield 13, [0, 6, 4, 0, 878]), (.if_icmp .gt 35, [3]), (.iload_n 1, []), (.aload_n 0, []), (.getfield 122, [0, 6, 2, 0, 876]), (.if_icmp .gt 27, [3]), (.aload_n 0, []), (.getfield 122, [0, 6, 2, 0, 876]), (.iload_n 1, []), (.isub, []), (.aload_n 0, []), (.getfield 13, [0, 6, 4, 0, 878]), (.iconst 1, []), (.iadd, []), (.irem, []), (.ifCond .ne 5, [2]), (.iload_n 1, []), (.ireturn, [])]))
def b_X6_playful_2 : ABlk := (36, ([true, true], [(.iinc 1 1, []), (.goto (-37), [1])]))
def b_X6_playful_3 : ABlk := (42, ([false, false], [(.iconst 1, []), (.ireturn, [])]))
def k_X6_playful : List ABlk := [b_X6_playful_0, b_X6_playful_1, b_X6_playful_2, b_X6_playful_3]
def md_X6_playful : MDat := (yX6_playful, (cX6_playful, (2, (some .int, (false, (0, (6, ([1127, 1126, 82, 124], k_X6_playful))))))))
def n_X6_playful : Nat := 73
def b_X6_wants_0 : ABlk := (0, ([true, true], [(.aload_n 0, []), (.getfield 23, [1, 6, 8, 3, 0, 882]), (.iload_n 1, []), (.iaload, []), (.tableswitch 79 0 4 #[34, 36, 43, 64, 74], [8, 1, 2, 3, 6, 7])]))
def b_X6_wants_1 : ABlk := (40, ([false, false], [(.iconst 1, []), (.ireturn, [])]))
def b_X6_wants_2 : ABlk := (42, ([true, true], [(.aload_n 0, []), (.iload_n 1, []), (.iconst 1, []), (.invokevirtual 125, [72, 3, 0, 1108]), (.ireturn, [])]))
def b_X6_wants_3 : ABlk := (49, ([true, true], [(.aload_n 0, []), (.getfield 26, [1, 6, 9, 4, 0, 883]), (.iload_n 1, []), (.iaload, []), (.iconst 1, []), (.if_icmp .ge 7, [4]), (.iconst 1, []), (.goto 9, [5])]))
def b_X6_wants_4 : ABlk := (63, ([true, true], [(.aload_n 0, []), (.getfield 26, [1, 6, 9, 4, 0, 883]), (.iload_n 1, []), (.iaload, []), (.nop, [5])]))
def b_X6_wants_5 : ABlk := (69, ([false, false], [(.ireturn, [])]))
def b_X6_wants_6 : ABlk := (70, ([true, true], [(.aload_n 0, []), (.iload_n 1, []), (.aload_n 0, []), (.getfield 7, [0, 6, 3, 0, 877]), (.invokevirtual 125, [72, 3, 0, 1108]), (.ireturn, [])]))
def b_X6_wants_7 : ABlk := (80, ([true, false], [(.aload_n 0, []), (.invokevirtual 128, [73, 1, 0, 1124]), (.ireturn, [])]))
def b_X6_wants_8 : ABlk := (85, ([true, false], [(.aload_n 0, []), (.invokevirtual 128, [73, 1, 0, 1124]), (.iconst 3, []), (.if_icmp .ge 7, [9]), (.iconst 1, []), (.goto 9, [10])]))
def b_X6_wants_9 : ABlk := (97, ([true, false], [(.aload_n 0, []), (.invokevirtual 128, [73, 1, 0, 1124]), (.iconst 1, []), (.isub, []), (.nop, [10])]))
def b_X6_wants_10 : ABlk := (103, ([false, false], [(.ireturn, [])]))
def k_X6_wants : List ABlk := [b_X6_wants_0, b_X6_wants_1, b_X6_wants_2, b_X6_wants_3, b_X6_wants_4, b_X6_wants_5, b_X6_wants_6, b_X6_wants_7, b_X6_wants_8, b_X6_wants_9, b_X6_wants_10]
def md_X6_wants : MDat := (yX6_wants, (cX6_wants, (2, (some .int, (false, (1, (6, ([1107, 1106, 77, 124], k_X6_wants))))))))
def n_X6_wants : Nat := 74
def b_X6_turnOne_0 : ABlk := (0, ([true, false], [(.aload_n 0, []), (.aload_n 0, []), (.getfield 132, [0, 6, 5, 0, 879]), (.invokevirtual 135, [74, 2, 0, 1104]), (.istore_n 1, []), (.iload_n 1, []), (.aload_n 0, []), (.getfield 122, [0, 6, 2, 0, 876]), (.if_icmp .le 10, [1]), (.aload_n 0, []), (.getfield 122, [0, 6, 2, 0, 876]), (.goto 4, [2])]))
def b_X6_turnOne_1 : ABlk := (24, ([true, true], [(.iload_n 1, []), (.nop, [2])]))
def b_X6_turnOne_2 : ABlk := (25, ([true, false], [(.istore_n 1, []), (.aload_n 0, []), (.dup, []), (.getfield 122, [0, 6, 2, 0, 876]), (.iload_n 1, []), (.isub, []), (.putfield 122, [0, 6, 2, 0, 876]), (.aload_n 0, []), (.getfield 32, [1, 6, 11, 6, 0, 885]), (.aload_n 0, []), (.getfield 132, [0, 6, 5, 0, 879]), (.aload_n 0, []), (.getfield 32, [1, 6, 11, 6, 0, 885]), (.aload_n 0, []), (.getfield 132, [0, 6, 5, 0, 879]), (.iaload, []), (.iload_n 1, []), (.iadd, []), (.bipush 99, []), (.if_icmp .le 8, [3]), (.bipush 99, []), (.goto 14, [4])]))
def b_X6_turnOne_3 : ABlk := (65, ([true, true], [(.aload_n 0, []), (.getfield 32, [1, 6, 11, 6, 0, 885]), (.aload_n 0, []), (.getfield 132, [0, 6, 5, 0, 879]), (.iaload, []), (.iload_n 1, []), (.iadd, []), (.nop, [4])]))
def b_X6_turnOne_4 : ABlk := (76, ([true, true], [(.iastore, []), (.aload_n 0, []), (.aload_n 0, []), (.getfield 132, [0, 6, 5, 0, 879]), (.iconst 1, []), (.iadd, []), (.aload_n 0, []), (.getfield 107, [0, 6, 1, 0, 875]), (.irem, []), (.putfield 132, [0, 6, 5, 0, 879]), (.iload_n 1, []), (.ireturn, [])]))
def k_X6_turnOne : List ABlk := [b_X6_turnOne_0, b_X6_turnOne_1, b_X6_turnOne_2, b_X6_turnOne_3, b_X6_turnOne_4]
def md_X6_turnOne : MDat := (yX6_turnOne, (cX6_turnOne, (2, (some .int, (false, (0, (6, ([1103, 1102, 76, 124], k_X6_turnOne))))))))
def n_X6_turnOne : Nat := 75
def b_X6_supperNow_0 : ABlk := (0, ([true, false, false], [(.iconst 0, []), (.istore_n 1, []), (.iconst 0, []), (.istore_n 2, []), (.nop, [1])]))
def b_X6_supperNow_1 : ABlk := (4, ([true, true, true], [(.aload_n 0, []), (.getfield 122, [0, 6, 2, 0, 876]), (.ifCond .le 38, [4]), (.iload_n 2, []), (.aload_n 0, []), (.getfield 107, [0, 6, 1, 0, 875]), (.if_icmp .ge 30, [4]), (.iload_n 1, []), (.bipush 100, []), (.if_icmp .ge 24, [4]), (.aload_n 0, []), (.invokevirtual 138, [75, 1, 0, 1100]), (.ifCond .ne 9, [2]), (.iload_n 2, []), (.iconst 1, []), (.iadd, []), (.goto 4, [3])]))
def b_X6_supperNow_2 : ABlk := (38, ([true, true, false], [(.iconst 0, []), (.nop, [3])]))
def b_X6_supperNow_3 : ABlk := (39, ([true, true, false], [(.istore_n 2, []), (.iinc 1 1, []), (.goto (-39), [1])]))
def b_X6_supperNow_4 : ABlk := (46, ([false, true, false], [(.iload_n 1, []), (.ireturn, [])]))
def k_X6_supperNow : List ABlk := [b_X6_supperNow_0, b_X6_supperNow_1, b_X6_supperNow_2, b_X6_supperNow_3, b_X6_supperNow_4]
def md_X6_supperNow : MDat := (yX6_supperNow, (cX6_supperNow, (3, (some .int, (false, (0, (6, ([1195, 1194, 88, 124], k_X6_supperNow))))))))
def n_X6_supperNow : Nat := 76
def b_X6_haveBits_0 : ABlk := (0, ([true, false, false], [(.iconst 0, []), (.istore_n 1, []), (.iconst 0, []), (.istore_n 2, []), (.nop, [1])]))
def b_X6_haveBits_1 : ABlk := (4, ([true, true, true], [(.iload_n 2, []), (.aload_n 0, []), (.getfield 107, [0, 6, 1, 0, 875]), (.if_icmp .ge 27, [4]), (.iload_n 1, []), (.aload_n 0, []), (.iload_n 2, []), (.invokevirtual 141, [71, 2, 0, 1156]), (.ifCond .eq 9, [2]), (.iconst 1, []), (.iload_n 2, []), (.ishl, []), (.goto 4, [3])]))
def b_X6_haveBits_2 : ABlk := (27, ([true, false, true], [(.iconst 0, []), (.nop, [3])]))
def b_X6_haveBits_3 : ABlk := (28, ([true, false, true], [(.ior, []), (.istore_n 1, []), (.iinc 2 1, []), (.goto (-29), [1])]))
def b_X6_haveBits_4 : ABlk := (36, ([false, true, false], [(.iload_n 1, []), (.ireturn, [])]))
def k_X6_haveBits : List ABlk := [b_X6_haveBits_0, b_X6_haveBits_1, b_X6_haveBits_2, b_X6_haveBits_3, b_X6_haveBits_4]
def md_X6_haveBits : MDat := (yX6_haveBits, (cX6_haveBits, (3, (some .int, (false, (0, (6, ([1199, 1198, 89, 124], k_X6_haveBits))))))))
def n_X6_haveBits : Nat := 77
def b_X6_carry_0 : ABlk := (0, ([true, true], [(.aload_n 0, []), (.getfield 145, [0, 6, 18, 0, 892]), (.ifCond .eq 13, [1]), (.aload_n 0, []), (.getfield 149, [2, 6, 19, 0, 893]), (.aload_n 0, []), (.getfield 152, [0, 6, 17, 0, 891]), (.iload_n 1, []), (.iastore, []), (.nop, [1])]))
def b_X6_carry_1 : ABlk := (17, ([true, false], [(.aload_n 0, []), (.dup, []), (.getfield 152, [0, 6, 17, 0, 891]), (.iconst 1, []), (.iadd, []), (.putfield 152, [0, 6, 17, 0, 891]), (.aload_n 0, []), (.getfield 149, [2, 6, 19, 0, 893]), (.aload_n 0, []), (.getfield 152, [0, 6, 17, 0, 891]), (.iconst 1, []), (.isub, []), (.iaload, []), (.ireturn, [])]))
def k_X6_carry : List ABlk := [b_X6_carry_0, b_X6_carry_1]
def md_X6_carry : MDat := (yX6_carry, (cX6_carry, (2, (some .int, (false, (1, (6, ([1022, 1021, 61, 124], k_X6_carry))))))))
def n_X6_carry : Nat := 78
def b_X6_carryAll_0 : ABlk := (0, ([true, true, true, false], [(.aload_n 0, []), (.aload_n 1, []), (.putfield 149, [2, 6, 19, 0, 893]), (.aload_n 0, []), (.iload_n 2, []), (.putfield 145, [3, 6, 18, 0, 892]), (.aload_n 0, []), (.iconst 0, []), (.putfield 152, [0, 6, 17, 0, 891]), (.aload_n 0, []), (.aload_n 0, []), (.aload_n 0, []), (.getfield 100, [0, 6, 0, 0, 874]), (.invokevirtual 155, [78, 2, 0, 1019]), (.putfield 100, [0, 6, 0, 0, 874]), (.aload_n 0, []), (.aload_n 0, []), (.aload_n 0, []), (.getfield 107, [0, 6, 1, 0, 875]), (.invokevirtual 155, [78, 2, 0, 1019]), (.putfield 107, [0, 6, 1, 0, 875]), (.aload_n 0, []), (.aload_n 0, []), (.aload_n 0, []), (.getfield 122, [0, 6, 2, 0, 876]), (.invokevirtual 155, [78, 2, 0, 1019]), (.putfield 122, [0, 6, 2, 0, 876]), (.aload_n 0, []), (.aload_n 0, []), (.aload_n 0, []), (.getfield 7, [0, 6, 3, 0, 877]), (.invokevirtual 155, [78, 2, 0, 1019]), (.putfield 7, [0, 6, 3, 0, 877]), (.aload_n 0, []), (.aload_n 0, []), (.aload_n 0, []), (.getfield 13, [0, 6, 4, 0, 878]), (.invokevirtual 155, [78, 2, 0, 1019]), (.putfield 13, [0, 6, 4, 0, 878]), (.aload_n 0, []), (.aload_n 0, []), (.aload_n 0, []), (.getfield 132, [0, 6, 5, 0, 879]), (.invokevirtual 155, [78, 2, 0, 1019]), (.putfield 132, [0, 6, 5, 0, 879]), (.iconst 0, []), (.istore_n 3, []), (.nop, [1])]))
def b_X6_carryAll_1 : ABlk := (89, ([true, false, false, true], [(.iload_n 3, []), (.iconst 4, []), (.if_icmp .ge 121, [2]), (.aload_n 0, []), (.getfield 16, [1, 6, 6, 1, 0, 880]), (.iload_n 3, []), (.aload_n 0, []), (.aload_n 0, []), (.getfield 16, [1, 6, 6, 1, 0, 880]), (.iload_n 3, []), (.iaload, []), (.invokevirtual 155, [78, 2, 0, 1019]), (.iastore, []), (.aload_n 0, []), (.getfield 20, [1, 6, 7, 2, 0, 881]), (.iload_n 3, []), (.aload_n 0, []), (.aload_n 0, []), (.getfield 20, [1, 6, 7, 2, 0, 881]), (.iload_n 3, []), (.iaload, []), (.invokevirtual 155, [78, 2, 0, 1019]), (.iastore, []), (.aload_n 0, []), (.getfield 23, [1, 6, 8, 3, 0, 882]), (.iload_n 3, []), (.aload_n 0, []), (.aload_n 0, []), (.getfield 23, [1, 6, 8, 3, 0, 882]), (.iload_n 3, []), (.iaload, []), (.invokevirtual 155, [78, 2, 0, 1019]), (.iastore, []), (.aload_n 0, []), (.getfield 26, [1, 6, 9, 4, 0, 883]), (.iload_n 3, []), (.aload_n 0, []), (.aload_n 0, []), (.getfield 26, [1, 6, 9, 4, 0, 883]), (.iload_n 3, []), (.iaload, []), (.invokevirtual 155, [78, 2, 0, 1019]), (.iastore, []), (.aload_n 0, []), (.getfield 29, [1, 6, 10, 5, 0, 884]), (.iload_n 3, []), (.aload_n 0, []), (.aload_n 0, []), (.getfield 29, [1, 6, 10, 5, 0, 884]), (.iload_n 3, []), (.iaload, []), (.invokevirtual 155, [78, 2, 0, 1019]), (.iastore, []), (.aload_n 0, []), (.getfield 32, [1, 6, 11, 6, 0, 885]), (.iload_n 3, []), (.aload_n 0, []), (.aload_n 0, []), (.getfield 32, [1, 6, 11, 6, 0, 885]), (.iload_n 3, []), (.iaload, []), (.invokevirtual 155, [78, 2, 0, 1019]), (.iastore, []), (.aload_n 0, []), (.getfield 85, [1, 6, 38, 23, 0, 912]), (.iload_n 3, []), (.aload_n 0, []), (.aload_n 0, []), (.getfield 85, [1, 6, 38, 23, 0, 912]), (.iload_n 3, []), (.iaload, []), (.invokevirtual 155, [78, 2, 0, 1019]), (.iastore, []), (.iinc 3 1, []), (.goto (-120), [1])]))
def b_X6_carryAll_2 : ABlk := (212, ([true, false, false, false], [(.aload_n 0, []), (.aload_n 0, []), (.aload_n 0, []), (.getfield 158, [0, 6, 39, 0, 913]), (.invokevirtual 155, [78, 2, 0, 1019]), (.putfield 158, [0, 6, 39, 0, 913]), (.return_, [])]))
def k_X6_carryAll : List ABlk := [b_X6_carryAll_0, b_X6_carryAll_1, b_X6_carryAll_2]
def md_X6_carryAll : MDat := (yX6_carryAll, (cX6_carryAll, (4, (none, (false, (2, (6, ([1018, 1017, 60, 124], k_X6_carryAll))))))))
def n_X6_carryAll : Nat := 79
def b_X6_open_0 : ABlk := (0, ([true], [(.aload_n 0, []), (.aload_n 0, []), (.getfield 38, [1, 6, 14, 8, 0, 888]), (.iconst 1, []), (.invokevirtual 161, [79, 3, 0, 1015]), (.return_, [])]))
def k_X6_open : List ABlk := [b_X6_open_0]
def md_X6_open : MDat := (yX6_open, (cX6_open, (1, (none, (false, (0, (6, ([1071, 1070, 69, 124], k_X6_open))))))))
def n_X6_open : Nat := 80
def b_X6_putBack_0 : ABlk := (0, ([true], [(.aload_n 0, []), (.aload_n 0, []), (.getfield 38, [1, 6, 14, 8, 0, 888]), (.iconst 0, []), (.invokevirtual 161, [79, 3, 0, 1015]), (.return_, [])]))
def k_X6_putBack : List ABlk := [b_X6_putBack_0]
def md_X6_putBack : MDat := (yX6_putBack, (cX6_putBack, (1, (none, (false, (0, (6, ([1131, 1130, 83, 124], k_X6_putBack))))))))
def n_X6_putBack : Nat := 81
def b_X6_image_0 : ABlk := (0, ([true], [(.aload_n 0, []), (.iconst 0, []), (.putfield 97, [0, 6, 12, 0, 886]), (.aload_n 0, []), (.iconst 1, []), (.putfield 165, [3, 6, 16, 0, 890]), (.aload_n 0, []), (.aload_n 0, []), (.getfield 41, [1, 6, 15, 9, 0, 889]), (.iconst 1, []), (.invokevirtual 161, [79, 3, 0, 1015]), (.aload_n 0, []), (.getfield 122, [0, 6, 2, 0, 876]), (.ireturn, [])]))
def k_X6_image : List ABlk := [b_X6_image_0]
def md_X6_image : MDat := (yX6_image, (cX6_image, (1, (some .int, (false, (0, (6, ([1014, 1012, 1013, 124], k_X6_image))))))))
def n_X6_image : Nat := 82
def b_X6_restore_0 : ABlk := (0, ([true], [(.aload_n 0, []), (.iconst 0, []), (.putfield 97, [0, 6, 12, 0, 886]), (.aload_n 0, []), (.getfield 165, [0, 6, 16, 0, 890]), (.ifCond .ne 10, [1]), (.aload_n 0, []), (.bipush (-3), []), (.invokevirtual 168, [63, 2, 0, 1027]), (.ireturn, [])]))
def b_X6_restore_1 : ABlk := (19, ([true], [(.aload_n 0, []), (.aload_n 0, []), (.getfield 41, [1, 6, 15, 9, 0, 889]), (.iconst 0, []), (.invokevirtual 161, [79, 3, 0, 1015]), (.aload_n 0, []), (.iconst 0, []), (.putfield 171, [0, 6, 31, 0, 905]), (.aload_n 0, []), (.getfield 122, [0, 6, 2, 0, 876]), (.ireturn, [])]))
def k_X6_restore : List ABlk := [b_X6_restore_0, b_X6_restore_1]
def md_X6_restore : MDat := (yX6_restore, (cX6_restore, (1, (some .int, (false, (0, (6, ([1026, 1024, 1025, 124], k_X6_restore))))))))
def n_X6_restore : Nat := 83
def b_X6_feed_0 : ABlk := (0, ([true, true], [(.aload_n 0, []), (.iconst 0, []), (.putfield 97, [0, 6, 12, 0, 886]), (.iload_n 1, []), (.ifCond .ge 10, [1]), (.aload_n 0, []), (.bipush (-4), []), (.invokevirtual 168, [63, 2, 0, 1027]), (.ireturn, [])]))
def b_X6_feed_1 : ABlk := (16, ([true, true], [(.iload_n 1, []), (.sipush 255, []), (.if_icmp .gt 12, [2]), (.aload_n 0, []), (.getfield 174, [0, 6, 21, 0, 895]), (.bipush 96, []), (.if_icmp .ne 10, [3]), (.nop, [2])]))
def b_X6_feed_2 : ABlk := (32, ([true, false], [(.aload_n 0, []), (.bipush (-6), []), (.invokevirtual 168, [63, 2, 0, 1027]), (.ireturn, [])]))
def b_X6_feed_3 : ABlk := (39, ([true, true], [(.aload_n 0, []), (.getfield 44, [1, 6, 20, 10, 0, 894]), (.aload_n 0, []), (.getfield 174, [0, 6, 21, 0, 895]), (.iload_n 1, []), (.iastore, []), (.aload_n 0, []), (.dup, []), (.getfield 174, [0, 6, 21, 0, 895]), (.iconst 1, []), (.iadd, []), (.putfield 174, [0, 6, 21, 0, 895]), (.aload_n 0, []), (.getfield 174, [0, 6, 21, 0, 895]), (.ireturn, [])]))
def k_X6_feed : List ABlk := [b_X6_feed_0, b_X6_feed_1, b_X6_feed_2, b_X6_feed_3]
def md_X6_feed : MDat := (yX6_feed, (cX6_feed, (2, (some .int, (false, (1, (6, ([1034, 1032, 1033, 124], k_X6_feed))))))))
def n_X6_feed : Nat := 84
def b_X6_here_0 : ABlk := (0, ([true], [(.aload_n 0, []), (.getfield 177, [0, 6, 22, 0, 896]), (.aload_n 0, []), (.getfield 174, [0, 6, 21, 0, 895]), (.if_icmp .ge 15, [1]), (.aload_n 0, []), (.getfield 44, [1, 6, 20, 10, 0, 894]), (.aload_n 0, []), (.getfield 177, [0, 6, 22, 0, 896]), (.iaload, []), (.goto 4, [2])]))
def b_X6_here_1 : ABlk := (23, ([false], [(.iconst (-1), []), (.nop, [2])]))
def b_X6_here_2 : ABlk := (24, ([false], [(.ireturn, [])]))
def k_X6_here : List ABlk := [b_X6_here_0, b_X6_here_1, b_X6_here_2]
def md_X6_here : MDat := (yX6_here, (cX6_here, (1, (some .int, (false, (0, (6, ([1046, 1045, 64, 124], k_X6_here))))))))
def n_X6_here : Nat := 85
def b_X6_readDigit_0 : ABlk := (0, ([true], [(.aload_n 0, []), (.aload_n 0, []), (.getfield 180, [0, 6, 23, 0, 897]), (.ifCond .ne 20, [1]), (.aload_n 0, []), (.invokevirtual 183, [85, 1, 0, 1043]), (.i2l, []), (.ldc2_w 186, [48, 0, 1055]), (.ldc2_w 188, [57, 0, 1056]), (.invokestatic 103, [62, 3, 0, 1057]), (.ifCond .ne 7, [2]), (.nop, [1])]))
def b_X6_readDigit_1 : ABlk := (25, ([true], [(.iconst 1, []), (.goto 4, [3])]))
def b_X6_readDigit_2 : ABlk := (29, ([true], [(.iconst 0, []), (.nop, [3])]))
def b_X6_readDigit_3 : ABlk := (30, ([true], [(.putfield 180, [3, 6, 23, 0, 897]), (.aload_n 0, []), (.getfield 180, [0, 6, 23, 0, 897]), (.ifCond .eq 5, [4]), (.iconst 0, []), (.ireturn, [])]))
def b_X6_readDigit_4 : ABlk := (42, ([true], [(.aload_n 0, []), (.dup, []), (.getfield 177, [0, 6, 22, 0, 896]), (.iconst 1, []), (.iadd, []), (.putfield 177, [0, 6, 22, 0, 896]), (.aload_n 0, []), (.getfield 44, [1, 6, 20, 10, 0, 894]), (.aload_n 0, []), (.getfield 177, [0, 6, 22, 0, 896]), (.iconst 1, []), (.isub, []), (.iaload, []), (.bipush 48, []), (.isub, []), (.ireturn, [])]))
def k_X6_readDigit : List ABlk := [b_X6_readDigit_0, b_X6_readDigit_1, b_X6_readDigit_2, b_X6_readDigit_3, b_X6_readDigit_4]
def md_X6_readDigit : MDat := (yX6_readDigit, (cX6_readDigit, (1, (some .int, (false, (0, (6, ([1054, 1053, 66, 124], k_X6_readDigit))))))))
def n_X6_readDigit : Nat := 86
def b_X6_readOneOrTwo_0 : ABlk := (0, ([true, false], [(.aload_n 0, []), (.invokevirtual 190, [86, 1, 0, 1051]), (.istore_n 1, []), (.aload_n 0, []), (.getfield 180, [0, 6, 23, 0, 897]), (.ifCond .ne 32, [1]), (.aload_n 0, []), (.invokevirtual 183, [85, 1, 0, 1043]), (.i2l, []), (.ldc2_w 186, [48, 0, 1055]), (.ldc2_w 188, [57, 0, 1056]), (.invokestatic 103, [62, 3, 0, 1057]), (.ifCond .eq 15, [1]), (.bipush 10, []), (.iload_n 1, []), (.imul, []), (.aload_n 0, []), (.invokevirtual 190, [86, 1, 0, 1051]), (.iadd, []), (.goto 4, [2])]))
def b_X6_readOneOrTwo_1 : ABlk := (41, ([false, true], [(.iload_n 1, []), (.nop, [2])]))
def b_X6_readOneOrTwo_2 : ABlk := (42, ([false, false], [(.ireturn, [])]))
def k_X6_readOneOrTwo : List ABlk := [b_X6_readOneOrTwo_0, b_X6_readOneOrTwo_1, b_X6_readOneOrTwo_2]
def md_X6_readOneOrTwo : MDat := (yX6_readOneOrTwo, (cX6_readOneOrTwo, (2, (some .int, (false, (0, (6, ([1050, 1049, 65, 124], k_X6_readOneOrTwo))))))))
def n_X6_readOneOrTwo : Nat := 87
def b_X6_readTwo_0 : ABlk := (0, ([true, false], [(.aload_n 0, []), (.invokevirtual 190, [86, 1, 0, 1051]), (.istore_n 1, []), (.bipush 10, []), (.iload_n 1, []), (.imul, []), (.aload_n 0, []), (.invokevirtual 190, [86, 1, 0, 1051]), (.iadd, []), (.ireturn, [])]))
def k_X6_readTwo : List ABlk := [b_X6_readTwo_0]
def md_X6_readTwo : MDat := (yX6_readTwo, (cX6_readTwo, (2, (some .int, (false, (0, (6, ([1063, 1062, 67, 124], k_X6_readTwo))))))))
def n_X6_readTwo : Nat := 88
def b_X6_take_0 : ABlk := (0, ([true, true], [(.aload_n 0, []), (.aload_n 0, []), (.getfield 180, [0, 6, 23, 0, 897]), (.ifCond .ne 11, [1]), (.aload_n 0, []), (.invokevirtual 183, [85, 1, 0, 1043]), (.iload_n 1, []), (.if_icmp .eq 7, [2]), (.nop, [1])]))
def b_X6_take_1 : ABlk := (16, ([true, false], [(.iconst 1, []), (.goto 4, [3])]))
def b_X6_take_2 : ABlk := (20, ([true, false], [(.iconst 0, []), (.nop, [3])]))
def b_X6_take_3 : ABlk := (21, ([true, false], [(.putfield 180, [3, 6, 23, 0, 897]), (.aload_n 0, []), (.dup, []), (.getfield 177, [0, 6, 22, 0, 896]), (.aload_n 0, []), (.getfield 180, [0, 6, 23, 0, 897]), (.ifCond .eq 7, [4]), (.iconst 0, []), (.goto 4, [5])]))
def b_X6_take_4 : ABlk := (40, ([false, false], [(.iconst 1, []), (.nop, [5])]))
def b_X6_take_5 : ABlk := (41, ([false, false], [(.iadd, []), (.putfield 177, [0, 6, 22, 0, 896]), (.return_, [])]))
def k_X6_take : List ABlk := [b_X6_take_0, b_X6_take_1, b_X6_take_2, b_X6_take_3, b_X6_take_4, b_X6_take_5]
def md_X6_take : MDat := (yX6_take, (cX6_take, (2, (none, (false, (1, (6, ([1067, 1066, 68, 124], k_X6_take))))))))
def n_X6_take : Nat := 89
def b_X6_readStatement_0 : ABlk := (0, ([true, false, false, false], [(.aload_n 0, []), (.getfield 193, [0, 6, 24, 0, 898]), (.istore_n 1, []), (.aload_n 0, []), (.invokevirtual 183, [85, 1, 0, 1043]), (.istore_n 2, []), (.iconst 4, []), (.iload_n 1, []), (.imul, []), (.istore_n 3, []), (.aload_n 0, []), (.getfield 47, [1, 6, 25, 11, 0, 899]), (.iload_n 1, []), (.aload_n 0, []), (.getfield 177, [0, 6, 22, 0, 896]), (.iastore, []), (.aload_n 0, []), (.getfield 50, [1, 6, 26, 12, 0, 900]), (.iload_n 1, []), (.iload_n 2, []), (.iastore, []), (.aload_n 0, []), (.aload_n 0, []), (.getfield 180, [0, 6, 23, 0, 897]), (.ifCond .ne 33, [1]), (.iload_n 2, []), (.bipush 114, []), (.if_icmp .eq 31, [2]), (.iload_n 2, []), (.bipush 101, []), (.if_icmp .eq 25, [2]), (.iload_n 2, []), (.bipush 98, []), (.if_icmp .eq 19, [2]), (.iload_n 2, []), (.bipush 119, []), (.if_icmp .eq 13, [2]), (.iload_n 2, []), (.bipush 116, []), (.if_icmp .eq 7, [2]), (.nop, [1])]))
def b_X6_readStatement_1 : ABlk := (69, ([true, false, true, true], [(.iconst 1, []), (.goto 4, [3])]))
def b_X6_readStatement_2 : ABlk := (73, ([true, false, true, true], [(.iconst 0, []), (.nop, [3])]))
def b_X6_readStatement_3 : ABlk := (74, ([true, false, true, true], [(.putfield 180, [3, 6, 23, 0, 897]), (.aload_n 0, []), (.dup, []), (.getfield 177, [0, 6, 22, 0, 896]), (.aload_n 0, []), (.getfield 180, [0, 6, 23, 0, 897]), (.ifCond .eq 7, [4]), (.iconst 0, []), (.goto 4, [5])]))
def b_X6_readStatement_4 : ABlk := (93, ([true, false, true, true], [(.iconst 1, []), (.nop, [5])]))
def b_X6_readStatement_5 : ABlk := (94, ([true, false, true, true], [(.iadd, []), (.putfield 177, [0, 6, 22, 0, 896]), (.iload_n 2, []), (.lookupswitch 171 #[(98, 103), (101, 54), (114, 41), (119, 146)], [10, 8, 7, 6, 9])]))
def b_X6_readStatement_6 : ABlk := (140, ([true, false, false, true], [(.aload_n 0, []), (.getfield 53, [1, 6, 27, 13, 0, 901]), (.iload_n 3, []), (.aload_n 0, []), (.invokevirtual 196, [87, 1, 0, 1047]), (.iastore, []), (.goto 120, [10])]))
def b_X6_readStatement_7 : ABlk := (153, ([true, false, false, true], [(.aload_n 0, []), (.getfield 53, [1, 6, 27, 13, 0, 901]), (.iload_n 3, []), (.aload_n 0, []), (.invokevirtual 190, [86, 1, 0, 1051]), (.iastore, []), (.aload_n 0, []), (.getfield 53, [1, 6, 27, 13, 0, 901]), (.iload_n 3, []), (.iconst 1, []), (.iadd, []), (.aload_n 0, []), (.invokevirtual 190, [86, 1, 0, 1051]), (.iastore, []), (.aload_n 0, []), (.getfield 53, [1, 6, 27, 13, 0, 901]), (.iload_n 3, []), (.iconst 2, []), (.iadd, []), (.aload_n 0, []), (.invokevirtual 199, [88, 1, 0, 1060]), (.iastore, []), (.aload_n 0, []), (.getfield 53, [1, 6, 27, 13, 0, 901]), (.iload_n 3, []), (.iconst 3, []), (.iadd, []), (.aload_n 0, []), (.invokevirtual 199, [88, 1, 0, 1060]), (.iastore, []), (.goto 71, [10])]))
def b_X6_readStatement_8 : ABlk := (202, ([true, false, false, true], [(.aload_n 0, []), (.getfield 53, [1, 6, 27, 13, 0, 901]), (.iload_n 3, []), (.aload_n 0, []), (.invokevirtual 196, [87, 1, 0, 1047]), (.iastore, []), (.aload_n 0, []), (.bipush 44, []), (.invokevirtual 202, [89, 2, 0, 1064]), (.aload_n 0, []), (.getfield 53, [1, 6, 27, 13, 0, 901]), (.iload_n 3, []), (.iconst 1, []), (.iadd, []), (.aload_n 0, []), (.invokevirtual 190, [86, 1, 0, 1051]), (.iastore, []), (.aload_n 0, []), (.getfield 53, [1, 6, 27, 13, 0, 901]), (.iload_n 3, []), (.iconst 2, []), (.iadd, []), (.aload_n 0, []), (.invokevirtual 190, [86, 1, 0, 1051]), (.iastore, []), (.goto 28, [10])]))
def b_X6_readStatement_9 : ABlk := (245, ([true, false, false, true], [(.aload_n 0, []), (.getfield 53, [1, 6, 27, 13, 0, 901]), (.iload_n 3, []), (.aload_n 0, []), (.invokevirtual 190, [86, 1, 0, 1051]), (.iastore, []), (.aload_n 0, []), (.getfield 53, [1, 6, 27, 13, 0, 901]), (.iload_n 3, []), (.iconst 1, []), (.iadd, []), (.aload_n 0, []), (.invokevirtual 199, [88, 1, 0, 1060]), (.iastore, []), (.goto 3, [10])]))
def b_X6_readStatement_10 : ABlk := (270, ([true, false, false, false], [(.aload_n 0, []), (.bipush 59, []), (.invokevirtual 202, [89, 2, 0, 1064]), (.aload_n 0, []), (.dup, []), (.getfield 193, [0, 6, 24, 0, 898]), (.iconst 1, []), (.iadd, []), (.putfield 193, [0, 6, 24, 0, 898]), (.return_, [])]))
def k_X6_readStatement : List ABlk := [b_X6_readStatement_0, b_X6_readStatement_1, b_X6_readStatement_2, b_X6_readStatement_3, b_X6_readStatement_4, b_X6_readStatement_5, b_X6_readStatement_6, b_X6_readStatement_7, b_X6_readStatement_8, b_X6_readStatement_9, b_X6_readStatement_10]
def md_X6_readStatement : MDat := (yX6_readStatement, (cX6_readStatement, (4, (none, (false, (0, (6, ([1042, 1041, 63, 124], k_X6_readStatement))))))))
def n_X6_readStatement : Nat := 90
def b_X6_rhymeComes_0 : ABlk := (0, ([true, true, false], [(.iload_n 1, []), (.i2l, []), (.ldc2_w 206, [2, 0, 1080]), (.ldc2_w 208, [12, 0, 1081]), (.invokestatic 103, [62, 3, 0, 1057]), (.ifCond .eq 15, [1]), (.aload_n 0, []), (.getfield 100, [0, 6, 0, 0, 874]), (.iconst 4, []), (.if_icmp .ge 7, [1]), (.iconst 1, []), (.goto 4, [2])]))
def b_X6_rhymeComes_1 : ABlk := (26, ([true, true, false], [(.iconst 0, []), (.nop, [2])]))
def b_X6_rhymeComes_2 : ABlk := (27, ([true, true, false], [(.istore_n 2, []), (.iload_n 2, []), (.ifCond .eq 33, [3]), (.aload_n 0, []), (.getfield 16, [1, 6, 6, 1, 0, 880]), (.aload_n 0, []), (.getfield 100, [0, 6, 0, 0, 874]), (.iload_n 1, []), (.iastore, []), (.aload_n 0, []), (.getfield 20, [1, 6, 7, 2, 0, 881]), (.aload_n 0, []), (.getfield 100, [0, 6, 0, 0, 874]), (.iconst 0, []), (.iastore, []), (.aload_n 0, []), (.dup, []), (.getfield 100, [0, 6, 0, 0, 874]), (.iconst 1, []), (.iadd, []), (.putfield 100, [0, 6, 0, 0, 874]), (.nop, [3])]))
def b_X6_rhymeComes_3 : ABlk := (62, ([false, false, true], [(.iload_n 2, []), (.ireturn, [1])]))
def k_X6_rhymeComes : List ABlk := [b_X6_rhymeComes_0, b_X6_rhymeComes_1, b_X6_rhymeComes_2, b_X6_rhymeComes_3]
def md_X6_rhymeComes : MDat := (yX6_rhymeComes, (cX6_rhymeComes, (3, (some .boolean, (false, (1, (6, ([1079, 1078, 71, 124], k_X6_rhymeComes))))))))
def n_X6_rhymeComes : Nat := 91
def b_X6_eaterComes_0 : ABlk := (0, ([true, true, false], [(.aload_n 0, []), (.getfield 53, [1, 6, 27, 13, 0, 901]), (.iload_n 1, []), (.iaload, []), (.bipush 6, []), (.if_icmp .ge 28, [1]), (.aload_n 0, []), (.getfield 53, [1, 6, 27, 13, 0, 901]), (.iload_n 1, []), (.iconst 2, []), (.iadd, []), (.iaload, []), (.bipush 12, []), (.if_icmp .ge 15, [1]), (.aload_n 0, []), (.getfield 107, [0, 6, 1, 0, 875]), (.iconst 4, []), (.if_icmp .ge 7, [1]), (.iconst 1, []), (.goto 4, [2])]))
def b_X6_eaterComes_1 : ABlk := (36, ([true, true, false], [(.iconst 0, []), (.nop, [2])]))
def b_X6_eaterComes_2 : ABlk := (37, ([true, true, false], [(.istore_n 2, []), (.iload_n 2, []), (.ifCond .eq 79, [3]), (.aload_n 0, []), (.getfield 23, [1, 6, 8, 3, 0, 882]), (.aload_n 0, []), (.getfield 107, [0, 6, 1, 0, 875]), (.aload_n 0, []), (.getfield 53, [1, 6, 27, 13, 0, 901]), (.iload_n 1, []), (.iaload, []), (.iastore, []), (.aload_n 0, []), (.getfield 26, [1, 6, 9, 4, 0, 883]), (.aload_n 0, []), (.getfield 107, [0, 6, 1, 0, 875]), (.aload_n 0, []), (.getfield 53, [1, 6, 27, 13, 0, 901]), (.iload_n 1, []), (.iconst 1, []), (.iadd, []), (.iaload, []), (.iastore, []), (.aload_n 0, []), (.getfield 29, [1, 6, 10, 5, 0, 884]), (.aload_n 0, []), (.getfield 107, [0, 6, 1, 0, 875]), (.aload_n 0, []), (.getfield 53, [1, 6, 27, 13, 0, 901]), (.iload_n 1, []), (.iconst 2, []), (.iadd, []), (.iaload, []), (.iastore, []), (.aload_n 0, []), (.getfield 32, [1, 6, 11, 6, 0, 885]), (.aload_n 0, []), (.getfield 107, [0, 6, 1, 0, 875]), (.aload_n 0, []), (.getfield 53, [1, 6, 27, 13, 0, 901]), (.iload_n 1, []), (.iconst 3, []), (.iadd, []), (.iaload, []), (.iastore, []), (.aload_n 0, []), (.dup, []), (.getfield 107, [0, 6, 1, 0, 875]), (.iconst 1, []), (.iadd, []), (.putfield 107, [0, 6, 1, 0, 875]), (.nop, [3])]))
def b_X6_eaterComes_3 : ABlk := (118, ([false, false, true], [(.iload_n 2, []), (.ireturn, [1])]))
def k_X6_eaterComes : List ABlk := [b_X6_eaterComes_0, b_X6_eaterComes_1, b_X6_eaterComes_2, b_X6_eaterComes_3]
def md_X6_eaterComes : MDat := (yX6_eaterComes, (cX6_eaterComes, (3, (some .boolean, (false, (1, (6, ([1085, 1084, 72, 124], k_X6_eaterComes))))))))
def n_X6_eaterComes : Nat := 92
def b_X6_bowlComes_0 : ABlk := (0, ([true, true, true, true], [(.aload_n 0, []), (.iload_n 1, []), (.putfield 122, [0, 6, 2, 0, 876]), (.aload_n 0, []), (.iload_n 2, []), (.putfield 7, [0, 6, 3, 0, 877]), (.aload_n 0, []), (.iload_n 3, []), (.putfield 13, [0, 6, 4, 0, 878]), (.iload_n 1, []), (.bipush 60, []), (.if_icmp .gt 31, [1]), (.iload_n 2, []), (.i2l, []), (.lconst 1, []), (.ldc2_w 210, [4, 0, 1090]), (.invokestatic 103, [62, 3, 0, 1057]), (.ifCond .eq 19, [1]), (.iload_n 3, []), (.i2l, []), (.lconst 1, []), (.ldc2_w 212, [6, 0, 1091]), (.invokestatic 103, [62, 3, 0, 1057]), (.ifCond .eq 7, [1]), (.iconst 1, []), (.goto 4, [2])]))
def b_X6_bowlComes_1 : ABlk := (49, ([false, false, false, false], [(.iconst 0, []), (.nop, [2])]))
def b_X6_bowlComes_2 : ABlk := (50, ([false, false, false, false], [(.ireturn, [1])]))
def k_X6_bowlComes : List ABlk := [b_X6_bowlComes_0, b_X6_bowlComes_1, b_X6_bowlComes_2]
def md_X6_bowlComes : MDat := (yX6_bowlComes, (cX6_bowlComes, (4, (some .boolean, (false, (3, (6, ([1089, 1088, 73, 124], k_X6_bowlComes))))))))
def n_X6_bowlComes : Nat := 93
def b_X6_wordComes_0 : ABlk := (0, ([true, true, true, false], [(.aload_n 0, []), (.iload_n 1, []), (.invokevirtual 214, [64, 2, 0, 1096]), (.ifCond .eq 17, [1]), (.iload_n 2, []), (.aload_n 0, []), (.getfield 16, [1, 6, 6, 1, 0, 880]), (.iload_n 1, []), (.iaload, []), (.if_icmp .ge 7, [1]), (.iconst 1, []), (.goto 4, [2])]))
def b_X6_wordComes_1 : ABlk := (22, ([true, true, true, false], [(.iconst 0, []), (.nop, [2])]))
def b_X6_wordComes_2 : ABlk := (23, ([true, true, true, false], [(.istore_n 3, []), (.iload_n 3, []), (.ifCond .eq 10, [3]), (.aload_n 0, []), (.getfield 20, [1, 6, 7, 2, 0, 881]), (.iload_n 1, []), (.iload_n 2, []), (.iastore, []), (.nop, [3])]))
def b_X6_wordComes_3 : ABlk := (35, ([false, false, false, true], [(.iload_n 3, []), (.ireturn, [1])]))
def k_X6_wordComes : List ABlk := [b_X6_wordComes_0, b_X6_wordComes_1, b_X6_wordComes_2, b_X6_wordComes_3]
def md_X6_wordComes : MDat := (yX6_wordComes, (cX6_wordComes, (4, (some .boolean, (false, (2, (6, ([1095, 1094, 74, 124], k_X6_wordComes))))))))
def n_X6_wordComes : Nat := 94
def b_X6_comes_0 : ABlk := (0, ([true, true, false], [(.iconst 4, []), (.iload_n 1, []), (.imul, []), (.istore_n 2, []), (.aload_n 0, []), (.getfield 50, [1, 6, 26, 12, 0, 900]), (.iload_n 1, []), (.iaload, []), (.lookupswitch 105 #[(98, 59), (101, 53), (114, 42), (119, 86)], [5, 3, 2, 1, 4])]))
def b_X6_comes_1 : ABlk := (52, ([true, false, true], [(.aload_n 0, []), (.aload_n 0, []), (.getfield 53, [1, 6, 27, 13, 0, 901]), (.iload_n 2, []), (.iaload, []), (.invokevirtual 217, [91, 2, 0, 1076]), (.ireturn, [1])]))
def b_X6_comes_2 : ABlk := (63, ([true, false, true], [(.aload_n 0, []), (.iload_n 2, []), (.invokevirtual 220, [92, 2, 0, 1082]), (.ireturn, [1])]))
def b_X6_comes_3 : ABlk := (69, ([true, false, true], [(.aload_n 0, []), (.aload_n 0, []), (.getfield 53, [1, 6, 27, 13, 0, 901]), (.iload_n 2, []), (.iaload, []), (.aload_n 0, []), (.getfield 53, [1, 6, 27, 13, 0, 901]), (.iload_n 2, []), (.iconst 1, []), (.iadd, []), (.iaload, []), (.aload_n 0, []), (.getfield 53, [1, 6, 27, 13, 0, 901]), (.iload_n 2, []), (.iconst 2, []), (.iadd, []), (.iaload, []), (.invokevirtual 223, [93, 4, 0, 1086]), (.ireturn, [1])]))
def b_X6_comes_4 : ABlk := (96, ([true, false, true], [(.aload_n 0, []), (.aload_n 0, []), (.getfield 53, [1, 6, 27, 13, 0, 901]), (.iload_n 2, []), (.iaload, []), (.aload_n 0, []), (.getfield 53, [1, 6, 27, 13, 0, 901]), (.iload_n 2, []), (.iconst 1, []), (.iadd, []), (.iaload, []), (.invokevirtual 227, [94, 3, 0, 1092]), (.ireturn, [1])]))
def b_X6_comes_5 : ABlk := (115, ([true, false, false], [(.aload_n 0, []), (.getfield 107, [0, 6, 1, 0, 875]), (.ifCond .le 8, [6]), (.aload_n 0, []), (.invokevirtual 138, [75, 1, 0, 1100]), (.pop, []), (.nop, [6])]))
def b_X6_comes_6 : ABlk := (127, ([true, false, false], [(.aload_n 0, []), (.getfield 107, [0, 6, 1, 0, 875]), (.ifCond .le 7, [7]), (.iconst 1, []), (.goto 4, [8])]))
def b_X6_comes_7 : ABlk := (138, ([false, false, false], [(.iconst 0, []), (.nop, [8])]))
def b_X6_comes_8 : ABlk := (139, ([false, false, false], [(.ireturn, [1])]))
def k_X6_comes : List ABlk := [b_X6_comes_0, b_X6_comes_1, b_X6_comes_2, b_X6_comes_3, b_X6_comes_4, b_X6_comes_5, b_X6_comes_6, b_X6_comes_7, b_X6_comes_8]
def md_X6_comes : MDat := (yX6_comes, (cX6_comes, (3, (some .boolean, (false, (1, (6, ([1075, 1074, 70, 124], k_X6_comes))))))))
def n_X6_comes : Nat := 95
def b_X6_table_0 : ABlk := (0, ([true, false], [(.aload_n 0, []), (.iconst 0, []), (.putfield 97, [0, 6, 12, 0, 886]), (.aload_n 0, []), (.iconst 0, []), (.putfield 177, [0, 6, 22, 0, 896]), (.aload_n 0, []), (.iconst 0, []), (.putfield 180, [3, 6, 23, 0, 897]), (.aload_n 0, []), (.iconst 0, []), (.putfield 193, [0, 6, 24, 0, 898]), (.nop, [1])]))
def b_X6_table_1 : ABlk := (20, ([true, false], [(.aload_n 0, []), (.getfield 180, [0, 6, 23, 0, 897]), (.ifCond .ne 28, [3]), (.aload_n 0, []), (.getfield 193, [0, 6, 24, 0, 898]), (.ifCond .eq 14, [2]), (.aload_n 0, []), (.getfield 177, [0, 6, 22, 0, 896]), (.aload_n 0, []), (.getfield 174, [0, 6, 21, 0, 895]), (.if_icmp .ge 10, [3]), (.nop, [2])]))
def b_X6_table_2 : ABlk := (45, ([true, false], [(.aload_n 0, []), (.invokevirtual 230, [90, 1, 0, 1039]), (.goto (-29), [1])]))
def b_X6_table_3 : ABlk := (52, ([true, false], [(.aload_n 0, []), (.iconst 0, []), (.putfield 174, [0, 6, 21, 0, 895]), (.aload_n 0, []), (.getfield 180, [0, 6, 23, 0, 897]), (.ifCond .eq 12, [4]), (.sipush (-1000), []), (.aload_n 0, []), (.getfield 177, [0, 6, 22, 0, 896]), (.isub, []), (.ireturn, [])]))
def b_X6_table_4 : ABlk := (73, ([true, false], [(.aload_n 0, []), (.invokevirtual 233, [80, 1, 0, 1068]), (.iconst 0, []), (.istore_n 1, []), (.nop, [5])]))
def b_X6_table_5 : ABlk := (79, ([true, true], [(.iload_n 1, []), (.aload_n 0, []), (.getfield 193, [0, 6, 24, 0, 898]), (.if_icmp .ge 32, [7]), (.aload_n 0, []), (.iload_n 1, []), (.invokevirtual 236, [95, 2, 0, 1072]), (.ifCond .ne 18, [6]), (.aload_n 0, []), (.invokevirtual 239, [81, 1, 0, 1128]), (.sipush (-2000), []), (.aload_n 0, []), (.getfield 47, [1, 6, 25, 11, 0, 899]), (.iload_n 1, []), (.iaload, []), (.isub, []), (.ireturn, [])]))
def b_X6_table_6 : ABlk := (110, ([true, true], [(.iinc 1 1, []), (.goto (-34), [5])]))
def b_X6_table_7 : ABlk := (116, ([true, false], [(.aload_n 0, []), (.iconst 0, []), (.putfield 171, [0, 6, 31, 0, 905]), (.aload_n 0, []), (.getfield 193, [0, 6, 24, 0, 898]), (.ireturn, [])]))
def k_X6_table : List ABlk := [b_X6_table_0, b_X6_table_1, b_X6_table_2, b_X6_table_3, b_X6_table_4, b_X6_table_5, b_X6_table_6, b_X6_table_7]
def md_X6_table : MDat := (yX6_table, (cX6_table, (2, (some .int, (false, (0, (6, ([1038, 1036, 1037, 124], k_X6_table))))))))
def n_X6_table : Nat := 96
def b_X6_rhyme_0 : ABlk := (0, ([true, true, true], [(.aload_n 0, []), (.iconst 0, []), (.putfield 97, [0, 6, 12, 0, 886]), (.aload_n 0, []), (.iload_n 1, []), (.invokevirtual 214, [64, 2, 0, 1096]), (.ifCond .eq 13, [1]), (.iload_n 2, []), (.i2l, []), (.lconst 0, []), (.lconst 1, []), (.invokestatic 103, [62, 3, 0, 1057]), (.ifCond .ne 22, [4]), (.nop, [1])]))
def b_X6_rhyme_1 : ABlk := (23, ([true, true, false], [(.aload_n 0, []), (.aload_n 0, []), (.iload_n 1, []), (.invokevirtual 214, [64, 2, 0, 1096]), (.ifCond .eq 8, [2]), (.bipush (-2), []), (.goto 4, [3])]))
def b_X6_rhyme_2 : ABlk := (37, ([false, false, false], [(.iconst (-1), []), (.nop, [3])]))
def b_X6_rhyme_3 : ABlk := (38, ([false, false, false], [(.invokevirtual 168, [63, 2, 0, 1027]), (.ireturn, [])]))
def b_X6_rhyme_4 : ABlk := (42, ([true, true, true], [(.iload_n 2, []), (.ifCond .ne 12, [5]), (.aload_n 0, []), (.getfield 16, [1, 6, 6, 1, 0, 880]), (.iload_n 1, []), (.iaload, []), (.goto 9, [6])]))
def b_X6_rhyme_5 : ABlk := (55, ([true, true, false], [(.aload_n 0, []), (.getfield 20, [1, 6, 7, 2, 0, 881]), (.iload_n 1, []), (.iaload, []), (.nop, [6])]))
def b_X6_rhyme_6 : ABlk := (61, ([false, false, false], [(.ireturn, [])]))
def k_X6_rhyme : List ABlk := [b_X6_rhyme_0, b_X6_rhyme_1, b_X6_rhyme_2, b_X6_rhyme_3, b_X6_rhyme_4, b_X6_rhyme_5, b_X6_rhyme_6]
def md_X6_rhyme : MDat := (yX6_rhyme, (cX6_rhyme, (3, (some .int, (false, (2, (6, ([1135, 1133, 1134, 124], k_X6_rhyme))))))))
def n_X6_rhyme : Nat := 97
def b_X6_begins_0 : ABlk := (0, ([true, true, true, false], [(.aload_n 0, []), (.iconst 0, []), (.putfield 97, [0, 6, 12, 0, 886]), (.aload_n 0, []), (.iload_n 1, []), (.invokevirtual 214, [64, 2, 0, 1096]), (.ifCond .eq 21, [1]), (.iload_n 2, []), (.i2l, []), (.lconst 0, []), (.aload_n 0, []), (.getfield 16, [1, 6, 6, 1, 0, 880]), (.iload_n 1, []), (.iaload, []), (.iconst 1, []), (.isub, []), (.i2l, []), (.invokestatic 103, [62, 3, 0, 1057]), (.ifCond .ne 9, [2]), (.nop, [1])]))
def b_X6_begins_1 : ABlk := (31, ([true, false, false, false], [(.aload_n 0, []), (.iconst (-1), []), (.invokevirtual 168, [63, 2, 0, 1027]), (.ireturn, [])]))
def b_X6_begins_2 : ABlk := (37, ([true, true, true, false], [(.aload_n 0, []), (.getfield 20, [1, 6, 7, 2, 0, 881]), (.iload_n 1, []), (.iaload, []), (.istore_n 3, []), (.aload_n 0, []), (.getfield 20, [1, 6, 7, 2, 0, 881]), (.iload_n 1, []), (.iload_n 2, []), (.iastore, []), (.iload_n 3, []), (.ireturn, [])]))
def k_X6_begins : List ABlk := [b_X6_begins_0, b_X6_begins_1, b_X6_begins_2]
def md_X6_begins : MDat := (yX6_begins, (cX6_begins, (4, (some .int, (false, (2, (6, ([1139, 1137, 1138, 124], k_X6_begins))))))))
def n_X6_begins : Nat := 98
def b_X6_says_0 : ABlk := (0, ([true, true, true, false], [(.aload_n 0, []), (.iconst 0, []), (.putfield 97, [0, 6, 12, 0, 886]), (.aload_n 0, []), (.iload_n 1, []), (.invokevirtual 214, [64, 2, 0, 1096]), (.ifCond .eq 14, [1]), (.iload_n 2, []), (.iconst 0, []), (.sipush 30000, []), (.invokestatic 242, [66, 3, 0, 1144]), (.goto 4, [2])]))
def b_X6_says_1 : ABlk := (24, ([true, true, true, false], [(.iconst (-1), []), (.nop, [2])]))
def b_X6_says_2 : ABlk := (25, ([true, true, true, false], [(.istore_n 3, []), (.iload_n 3, []), (.ifCond .ge 11, [3]), (.aload_n 0, []), (.iload_n 3, []), (.invokevirtual 168, [63, 2, 0, 1027]), (.goto 9, [4])]))
def b_X6_says_3 : ABlk := (38, ([true, true, true, false], [(.aload_n 0, []), (.iload_n 1, []), (.iload_n 2, []), (.invokevirtual 110, [68, 3, 0, 1120]), (.nop, [4])]))
def b_X6_says_4 : ABlk := (44, ([false, false, false, false], [(.ireturn, [])]))
def k_X6_says : List ABlk := [b_X6_says_0, b_X6_says_1, b_X6_says_2, b_X6_says_3, b_X6_says_4]
def md_X6_says : MDat := (yX6_says, (cX6_says, (4, (some .int, (false, (2, (6, ([1143, 1141, 1142, 124], k_X6_says))))))))
def n_X6_says : Nat := 99
def b_X6_eater_0 : ABlk := (0, ([true, true, true], [(.aload_n 0, []), (.iconst 0, []), (.putfield 97, [0, 6, 12, 0, 886]), (.aload_n 0, []), (.iload_n 1, []), (.invokevirtual 246, [65, 2, 0, 1151]), (.ifCond .eq 15, [1]), (.iload_n 2, []), (.i2l, []), (.lconst 0, []), (.ldc2_w 249, [5, 0, 1155]), (.invokestatic 103, [62, 3, 0, 1057]), (.ifCond .ne 22, [4]), (.nop, [1])]))
def b_X6_eater_1 : ABlk := (25, ([true, true, false], [(.aload_n 0, []), (.aload_n 0, []), (.iload_n 1, []), (.invokevirtual 246, [65, 2, 0, 1151]), (.ifCond .eq 8, [2]), (.bipush (-2), []), (.goto 4, [3])]))
def b_X6_eater_2 : ABlk := (39, ([false, false, false], [(.iconst (-1), []), (.nop, [3])]))
def b_X6_eater_3 : ABlk := (40, ([false, false, false], [(.invokevirtual 168, [63, 2, 0, 1027]), (.ireturn, [])]))
def b_X6_eater_4 : ABlk := (44, ([true, true, true], [(.iload_n 2, []), (.tableswitch 74 0 4 #[35, 42, 49, 56, 63], [10, 5, 6, 7, 8, 9])]))
def b_X6_eater_5 : ABlk := (80, ([true, true, false], [(.aload_n 0, []), (.getfield 23, [1, 6, 8, 3, 0, 882]), (.iload_n 1, []), (.iaload, []), (.ireturn, [])]))
def b_X6_eater_6 : ABlk := (87, ([true, true, false], [(.aload_n 0, []), (.getfield 26, [1, 6, 9, 4, 0, 883]), (.iload_n 1, []), (.iaload, []), (.ireturn, [])]))
def b_X6_eater_7 : ABlk := (94, ([true, true, false], [(.aload_n 0, []), (.getfield 29, [1, 6, 10, 5, 0, 884]), (.iload_n 1, []), (.iaload, []), (.ireturn, [])]))
def b_X6_eater_8 : ABlk := (101, ([true, true, false], [(.aload_n 0, []), (.getfield 32, [1, 6, 11, 6, 0, 885]), (.iload_n 1, []), (.iaload, []), (.ireturn, [])]))
def b_X6_eater_9 : ABlk := (108, ([true, true, false], [(.aload_n 0, []), (.aload_n 0, []), (.getfield 32, [1, 6, 11, 6, 0, 885]), (.iload_n 1, []), (.iaload, []), (.invokevirtual 114, [69, 2, 0, 1116]), (.ireturn, [])]))
def b_X6_eater_10 : ABlk := (119, ([true, true, false], [(.aload_n 0, []), (.iload_n 1, []), (.invokevirtual 141, [71, 2, 0, 1156]), (.ifCond .eq 7, [11]), (.iconst 1, []), (.goto 4, [12])]))
def b_X6_eater_11 : ABlk := (131, ([false, false, false], [(.iconst 0, []), (.nop, [12])]))
def b_X6_eater_12 : ABlk := (132, ([false, false, false], [(.ireturn, [])]))
def k_X6_eater : List ABlk := [b_X6_eater_0, b_X6_eater_1, b_X6_eater_2, b_X6_eater_3, b_X6_eater_4, b_X6_eater_5, b_X6_eater_6, b_X6_eater_7, b_X6_eater_8, b_X6_eater_9, b_X6_eater_10, b_X6_eater_11, b_X6_eater_12]
def md_X6_eater : MDat := (yX6_eater, (cX6_eater, (3, (some .int, (false, (2, (6, ([1150, 1148, 1149, 124], k_X6_eater))))))))
def n_X6_eater : Nat := 100
def b_X6_lay_0 : ABlk := (0, ([true, true, true, true, false, false], [(.aload_n 0, []), (.iconst 0, []), (.putfield 97, [0, 6, 12, 0, 886]), (.aload_n 0, []), (.iload_n 1, []), (.invokevirtual 246, [65, 2, 0, 1151]), (.ifCond .ne 7, [1]), (.iconst (-1), []), (.goto 34, [5])]))
def b_X6_lay_1 : ABlk := (17, ([true, true, true, true, false, false], [(.iload_n 2, []), (.i2l, []), (.lconst 0, []), (.lconst 1, []), (.invokestatic 103, [62, 3, 0, 1057]), (.ifCond .ne 8, [2]), (.bipush (-2), []), (.goto 19, [5])]))
def b_X6_lay_2 : ABlk := (32, ([true, true, true, true, false, false], [(.iload_n 3, []), (.iconst 0, []), (.iload_n 2, []), (.ifCond .ne 8, [3]), (.bipush 99, []), (.goto 5, [4])]))
def b_X6_lay_3 : ABlk := (43, ([true, true, true, true, false, false], [(.bipush 11, []), (.nop, [4])]))
def b_X6_lay_4 : ABlk := (45, ([true, true, true, true, false, false], [(.invokestatic 242, [66, 3, 0, 1144]), (.nop, [5])]))
def b_X6_lay_5 : ABlk := (48, ([true, true, true, true, false, false], [(.istore 4, []), (.iload 4, []), (.ifCond .ge 10, [6]), (.aload_n 0, []), (.iload 4, []), (.invokevirtual 168, [63, 2, 0, 1027]), (.ireturn, [])]))
def b_X6_lay_6 : ABlk := (62, ([true, true, true, true, false, false], [(.iload_n 2, []), (.ifCond .ne 12, [7]), (.aload_n 0, []), (.getfield 32, [1, 6, 11, 6, 0, 885]), (.iload_n 1, []), (.iaload, []), (.goto 9, [8])]))
def b_X6_lay_7 : ABlk := (75, ([true, true, true, true, false, false], [(.aload_n 0, []), (.getfield 29, [1, 6, 10, 5, 0, 884]), (.iload_n 1, []), (.iaload, []), (.nop, [8])]))
def b_X6_lay_8 : ABlk := (81, ([true, true, true, true, false, false], [(.istore 5, []), (.aload_n 0, []), (.getfield 32, [1, 6, 11, 6, 0, 885]), (.iload_n 1, []), (.iload_n 2, []), (.ifCond .ne 7, [9]), (.iload_n 3, []), (.goto 9, [10])]))
def b_X6_lay_9 : ABlk := (96, ([true, true, true, true, false, true], [(.aload_n 0, []), (.getfield 32, [1, 6, 11, 6, 0, 885]), (.iload_n 1, []), (.iaload, []), (.nop, [10])]))
def b_X6_lay_10 : ABlk := (102, ([true, true, true, true, false, true], [(.iastore, []), (.aload_n 0, []), (.getfield 29, [1, 6, 10, 5, 0, 884]), (.iload_n 1, []), (.iload_n 2, []), (.iconst 1, []), (.if_icmp .ne 7, [11]), (.iload_n 3, []), (.goto 9, [12])]))
def b_X6_lay_11 : ABlk := (117, ([true, true, false, false, false, true], [(.aload_n 0, []), (.getfield 29, [1, 6, 10, 5, 0, 884]), (.iload_n 1, []), (.iaload, []), (.nop, [12])]))
def b_X6_lay_12 : ABlk := (123, ([true, false, false, false, false, true], [(.iastore, []), (.aload_n 0, []), (.iconst 0, []), (.putfield 171, [0, 6, 31, 0, 905]), (.iload 5, []), (.ireturn, [])]))
def k_X6_lay : List ABlk := [b_X6_lay_0, b_X6_lay_1, b_X6_lay_2, b_X6_lay_3, b_X6_lay_4, b_X6_lay_5, b_X6_lay_6, b_X6_lay_7, b_X6_lay_8, b_X6_lay_9, b_X6_lay_10, b_X6_lay_11, b_X6_lay_12]
def md_X6_lay : MDat := (yX6_lay, (cX6_lay, (6, (some .int, (false, (3, (6, ([1163, 1161, 1162, 124], k_X6_lay))))))))
def n_X6_lay : Nat := 101
def b_X6_kind_0 : ABlk := (0, ([true, true, true, true, false, false], [(.aload_n 0, []), (.iconst 0, []), (.putfield 97, [0, 6, 12, 0, 886]), (.aload_n 0, []), (.iload_n 1, []), (.invokevirtual 246, [65, 2, 0, 1151]), (.ifCond .ne 7, [1]), (.iconst (-1), []), (.goto 27, [3])]))
def b_X6_kind_1 : ABlk := (17, ([true, true, true, true, false, false], [(.iload_n 2, []), (.i2l, []), (.lconst 0, []), (.ldc2_w 249, [5, 0, 1155]), (.invokestatic 103, [62, 3, 0, 1057]), (.ifCond .ne 8, [2]), (.bipush (-2), []), (.goto 10, [3])]))
def b_X6_kind_2 : ABlk := (34, ([true, true, true, true, false, false], [(.iload_n 3, []), (.iconst 0, []), (.bipush 9, []), (.invokestatic 242, [66, 3, 0, 1144]), (.nop, [3])]))
def b_X6_kind_3 : ABlk := (41, ([true, true, true, true, false, false], [(.istore 4, []), (.iload 4, []), (.ifCond .ge 10, [4]), (.aload_n 0, []), (.iload 4, []), (.invokevirtual 168, [63, 2, 0, 1027]), (.ireturn, [])]))
def b_X6_kind_4 : ABlk := (55, ([true, true, true, true, false, false], [(.bipush 10, []), (.aload_n 0, []), (.getfield 23, [1, 6, 8, 3, 0, 882]), (.iload_n 1, []), (.iaload, []), (.imul, []), (.aload_n 0, []), (.getfield 26, [1, 6, 9, 4, 0, 883]), (.iload_n 1, []), (.iaload, []), (.iadd, []), (.istore 5, []), (.aload_n 0, []), (.getfield 23, [1, 6, 8, 3, 0, 882]), (.iload_n 1, []), (.iload_n 2, []), (.iastore, []), (.aload_n 0, []), (.getfield 26, [1, 6, 9, 4, 0, 883]), (.iload_n 1, []), (.iload_n 3, []), (.iastore, []), (.aload_n 0, []), (.iconst 0, []), (.putfield 171, [0, 6, 31, 0, 905]), (.iload 5, []), (.ireturn, [])]))
def k_X6_kind : List ABlk := [b_X6_kind_0, b_X6_kind_1, b_X6_kind_2, b_X6_kind_3, b_X6_kind_4]
def md_X6_kind : MDat := (yX6_kind, (cX6_kind, (6, (some .int, (false, (3, (6, ([1167, 1165, 1166, 124], k_X6_kind))))))))
def n_X6_kind : Nat := 102
def b_X6_wrongSetting_0 : ABlk := (0, ([true, true, true], [(.iload_n 1, []), (.tableswitch 68 0 3 #[31, 39, 46, 54], [7, 1, 2, 3, 4])]))
def b_X6_wrongSetting_1 : ABlk := (32, ([false, false, true], [(.iload_n 2, []), (.iconst 0, []), (.bipush 60, []), (.invokestatic 242, [66, 3, 0, 1144]), (.ireturn, [])]))
def b_X6_wrongSetting_2 : ABlk := (40, ([false, false, true], [(.iload_n 2, []), (.iconst 1, []), (.iconst 4, []), (.invokestatic 242, [66, 3, 0, 1144]), (.ireturn, [])]))
def b_X6_wrongSetting_3 : ABlk := (47, ([false, false, true], [(.iload_n 2, []), (.iconst 1, []), (.bipush 6, []), (.invokestatic 242, [66, 3, 0, 1144]), (.ireturn, [])]))
def b_X6_wrongSetting_4 : ABlk := (55, ([true, false, true], [(.aload_n 0, []), (.iload_n 2, []), (.invokevirtual 246, [65, 2, 0, 1151]), (.ifCond .eq 7, [5]), (.iconst 0, []), (.goto 4, [6])]))
def b_X6_wrongSetting_5 : ABlk := (67, ([false, false, false], [(.iconst (-1), []), (.nop, [6])]))
def b_X6_wrongSetting_6 : ABlk := (68, ([false, false, false], [(.ireturn, [])]))
def b_X6_wrongSetting_7 : ABlk := (69, ([false, false, false], [(.bipush (-2), []), (.ireturn, [])]))
def k_X6_wrongSetting : List ABlk := [b_X6_wrongSetting_0, b_X6_wrongSetting_1, b_X6_wrongSetting_2, b_X6_wrongSetting_3, b_X6_wrongSetting_4, b_X6_wrongSetting_5, b_X6_wrongSetting_6, b_X6_wrongSetting_7]
def md_X6_wrongSetting : MDat := (yX6_wrongSetting, (cX6_wrongSetting, (3, (some .int, (false, (2, (6, ([1175, 1174, 86, 124], k_X6_wrongSetting))))))))
def n_X6_wrongSetting : Nat := 103
def b_X6_set_0 : ABlk := (0, ([true, true, true, false], [(.aload_n 0, []), (.iconst 0, []), (.putfield 97, [0, 6, 12, 0, 886]), (.aload_n 0, []), (.iload_n 1, []), (.iload_n 2, []), (.invokevirtual 251, [103, 3, 0, 1172]), (.ifCond .ge 14, [1]), (.aload_n 0, []), (.aload_n 0, []), (.iload_n 1, []), (.iload_n 2, []), (.invokevirtual 251, [103, 3, 0, 1172]), (.invokevirtual 168, [63, 2, 0, 1027]), (.ireturn, [])]))
def b_X6_set_1 : ABlk := (25, ([true, true, true, false], [(.iload_n 1, []), (.ifCond .ne 10, [2]), (.aload_n 0, []), (.getfield 122, [0, 6, 2, 0, 876]), (.goto 31, [5])]))
def b_X6_set_2 : ABlk := (36, ([true, true, true, false], [(.iload_n 1, []), (.iconst 1, []), (.if_icmp .ne 10, [3]), (.aload_n 0, []), (.getfield 7, [0, 6, 3, 0, 877]), (.goto 19, [5])]))
def b_X6_set_3 : ABlk := (48, ([true, true, true, false], [(.iload_n 1, []), (.iconst 2, []), (.if_icmp .ne 10, [4]), (.aload_n 0, []), (.getfield 13, [0, 6, 4, 0, 878]), (.goto 7, [5])]))
def b_X6_set_4 : ABlk := (60, ([true, true, true, false], [(.aload_n 0, []), (.getfield 132, [0, 6, 5, 0, 879]), (.nop, [5])]))
def b_X6_set_5 : ABlk := (64, ([true, true, true, false], [(.istore_n 3, []), (.aload_n 0, []), (.iload_n 1, []), (.ifCond .ne 7, [6]), (.iload_n 2, []), (.goto 7, [7])]))
def b_X6_set_6 : ABlk := (74, ([true, true, true, true], [(.aload_n 0, []), (.getfield 122, [0, 6, 2, 0, 876]), (.nop, [7])]))
def b_X6_set_7 : ABlk := (78, ([true, true, true, true], [(.putfield 122, [0, 6, 2, 0, 876]), (.aload_n 0, []), (.iload_n 1, []), (.iconst 1, []), (.if_icmp .ne 7, [8]), (.iload_n 2, []), (.goto 7, [9])]))
def b_X6_set_8 : ABlk := (91, ([true, true, true, true], [(.aload_n 0, []), (.getfield 7, [0, 6, 3, 0, 877]), (.nop, [9])]))
def b_X6_set_9 : ABlk := (95, ([true, true, true, true], [(.putfield 7, [0, 6, 3, 0, 877]), (.aload_n 0, []), (.iload_n 1, []), (.iconst 2, []), (.if_icmp .ne 7, [10]), (.iload_n 2, []), (.goto 7, [11])]))
def b_X6_set_10 : ABlk := (108, ([true, true, true, true], [(.aload_n 0, []), (.getfield 13, [0, 6, 4, 0, 878]), (.nop, [11])]))
def b_X6_set_11 : ABlk := (112, ([true, true, true, true], [(.putfield 13, [0, 6, 4, 0, 878]), (.aload_n 0, []), (.iload_n 1, []), (.iconst 3, []), (.if_icmp .ne 7, [12]), (.iload_n 2, []), (.goto 7, [13])]))
def b_X6_set_12 : ABlk := (125, ([true, false, false, true], [(.aload_n 0, []), (.getfield 132, [0, 6, 5, 0, 879]), (.nop, [13])]))
def b_X6_set_13 : ABlk := (129, ([true, false, false, true], [(.putfield 132, [0, 6, 5, 0, 879]), (.aload_n 0, []), (.iconst 0, []), (.putfield 171, [0, 6, 31, 0, 905]), (.iload_n 3, []), (.ireturn, [])]))
def k_X6_set : List ABlk := [b_X6_set_0, b_X6_set_1, b_X6_set_2, b_X6_set_3, b_X6_set_4, b_X6_set_5, b_X6_set_6, b_X6_set_7, b_X6_set_8, b_X6_set_9, b_X6_set_10, b_X6_set_11, b_X6_set_12, b_X6_set_13]
def md_X6_set : MDat := (yX6_set, (cX6_set, (4, (some .int, (false, (2, (6, ([1171, 1169, 1170, 124], k_X6_set))))))))
def n_X6_set : Nat := 104
def b_X6_turn_0 : ABlk := (0, ([true], [(.aload_n 0, []), (.iconst 0, []), (.putfield 97, [0, 6, 12, 0, 886]), (.aload_n 0, []), (.getfield 107, [0, 6, 1, 0, 875]), (.ifCond .ne 10, [1]), (.aload_n 0, []), (.bipush (-3), []), (.invokevirtual 168, [63, 2, 0, 1027]), (.ireturn, [])]))
def b_X6_turn_1 : ABlk := (19, ([true], [(.aload_n 0, []), (.invokevirtual 254, [106, 1, 0, 1180]), (.aload_n 0, []), (.invokevirtual 138, [75, 1, 0, 1100]), (.ireturn, [])]))
def k_X6_turn : List ABlk := [b_X6_turn_0, b_X6_turn_1]
def md_X6_turn : MDat := (yX6_turn, (cX6_turn, (1, (some .int, (false, (0, (6, ([1179, 1177, 1178, 124], k_X6_turn))))))))
def n_X6_turn : Nat := 105
def b_X6_keepTurn_0 : ABlk := (0, ([true, false], [(.aload_n 0, []), (.getfield 171, [0, 6, 31, 0, 905]), (.bipush 8, []), (.if_icmp .ne 69, [3]), (.iconst 1, []), (.istore_n 1, []), (.nop, [1])]))
def b_X6_keepTurn_1 : ABlk := (11, ([true, true], [(.iload_n 1, []), (.bipush 8, []), (.if_icmp .ge 51, [2]), (.aload_n 0, []), (.getfield 56, [1, 6, 28, 14, 0, 902]), (.iload_n 1, []), (.iconst 1, []), (.isub, []), (.aload_n 0, []), (.getfield 56, [1, 6, 28, 14, 0, 902]), (.iload_n 1, []), (.iaload, []), (.iastore, []), (.aload_n 0, []), (.getfield 59, [1, 6, 29, 15, 0, 903]), (.iload_n 1, []), (.iconst 1, []), (.isub, []), (.aload_n 0, []), (.getfield 59, [1, 6, 29, 15, 0, 903]), (.iload_n 1, []), (.iaload, []), (.iastore, []), (.aload_n 0, []), (.getfield 62, [1, 6, 30, 16, 0, 904]), (.iload_n 1, []), (.iconst 1, []), (.isub, []), (.aload_n 0, []), (.getfield 62, [1, 6, 30, 16, 0, 904]), (.iload_n 1, []), (.iaload, []), (.iastore, []), (.iinc 1 1, []), (.goto (-51), [1])]))
def b_X6_keepTurn_2 : ABlk := (65, ([true, false], [(.aload_n 0, []), (.dup, []), (.getfield 171, [0, 6, 31, 0, 905]), (.iconst 1, []), (.isub, []), (.putfield 171, [0, 6, 31, 0, 905]), (.nop, [3])]))
def b_X6_keepTurn_3 : ABlk := (75, ([true, false], [(.aload_n 0, []), (.getfield 56, [1, 6, 28, 14, 0, 902]), (.aload_n 0, []), (.getfield 171, [0, 6, 31, 0, 905]), (.aload_n 0, []), (.getfield 132, [0, 6, 5, 0, 879]), (.iastore, []), (.aload_n 0, []), (.getfield 59, [1, 6, 29, 15, 0, 903]), (.aload_n 0, []), (.getfield 171, [0, 6, 31, 0, 905]), (.aload_n 0, []), (.getfield 32, [1, 6, 11, 6, 0, 885]), (.aload_n 0, []), (.getfield 132, [0, 6, 5, 0, 879]), (.iaload, []), (.iastore, []), (.aload_n 0, []), (.getfield 62, [1, 6, 30, 16, 0, 904]), (.aload_n 0, []), (.getfield 171, [0, 6, 31, 0, 905]), (.aload_n 0, []), (.getfield 122, [0, 6, 2, 0, 876]), (.iastore, []), (.aload_n 0, []), (.dup, []), (.getfield 171, [0, 6, 31, 0, 905]), (.iconst 1, []), (.iadd, []), (.putfield 171, [0, 6, 31, 0, 905]), (.return_, [])]))
def k_X6_keepTurn : List ABlk := [b_X6_keepTurn_0, b_X6_keepTurn_1, b_X6_keepTurn_2, b_X6_keepTurn_3]
def md_X6_keepTurn : MDat := (yX6_keepTurn, (cX6_keepTurn, (2, (none, (false, (0, (6, ([1183, 1182, 87, 124], k_X6_keepTurn))))))))
def n_X6_keepTurn : Nat := 106
def b_X6_back_0 : ABlk := (0, ([true], [(.aload_n 0, []), (.iconst 0, []), (.putfield 97, [0, 6, 12, 0, 886]), (.aload_n 0, []), (.getfield 171, [0, 6, 31, 0, 905]), (.ifCond .ne 10, [1]), (.aload_n 0, []), (.bipush (-3), []), (.invokevirtual 168, [63, 2, 0, 1027]), (.ireturn, [])]))
def b_X6_back_1 : ABlk := (19, ([true], [(.aload_n 0, []), (.dup, []), (.getfield 171, [0, 6, 31, 0, 905]), (.iconst 1, []), (.isub, []), (.putfield 171, [0, 6, 31, 0, 905]), (.aload_n 0, []), (.aload_n 0, []), (.getfield 56, [1, 6, 28, 14, 0, 902]), (.aload_n 0, []), (.getfield 171, [0, 6, 31, 0, 905]), (.iaload, []), (.putfield 132, [0, 6, 5, 0, 879]), (.aload_n 0, []), (.getfield 32, [1, 6, 11, 6, 0, 885]), (.aload_n 0, []), (.getfield 132, [0, 6, 5, 0, 879]), (.aload_n 0, []), (.getfield 59, [1, 6, 29, 15, 0, 903]), (.aload_n 0, []), (.getfield 171, [0, 6, 31, 0, 905]), (.iaload, []), (.iastore, []), (.aload_n 0, []), (.aload_n 0, []), (.getfield 62, [1, 6, 30, 16, 0, 904]), (.aload_n 0, []), (.getfield 171, [0, 6, 31, 0, 905]), (.iaload, []), (.putfield 122, [0, 6, 2, 0, 876]), (.aload_n 0, []), (.getfield 132, [0, 6, 5, 0, 879]), (.ireturn, [])]))
def k_X6_back : List ABlk := [b_X6_back_0, b_X6_back_1]
def md_X6_back : MDat := (yX6_back, (cX6_back, (1, (some .int, (false, (0, (6, ([1187, 1185, 1186, 124], k_X6_back))))))))
def n_X6_back : Nat := 107
def b_X6_supper_0 : ABlk := (0, ([true, true, false, false], [(.aload_n 0, []), (.iconst 0, []), (.putfield 97, [0, 6, 12, 0, 886]), (.iload_n 1, []), (.i2l, []), (.lconst 0, []), (.ldc2_w 206, [2, 0, 1080]), (.invokestatic 103, [62, 3, 0, 1057]), (.ifCond .eq 10, [1]), (.aload_n 0, []), (.getfield 107, [0, 6, 1, 0, 875]), (.ifCond .ne 27, [4]), (.nop, [1])]))
def b_X6_supper_1 : ABlk := (24, ([true, true, false, false], [(.aload_n 0, []), (.iload_n 1, []), (.i2l, []), (.lconst 0, []), (.ldc2_w 206, [2, 0, 1080]), (.invokestatic 103, [62, 3, 0, 1057]), (.ifCond .eq 8, [2]), (.bipush (-3), []), (.goto 5, [3])]))
def b_X6_supper_2 : ABlk := (42, ([false, false, false, false], [(.bipush (-2), []), (.nop, [3])]))
def b_X6_supper_3 : ABlk := (44, ([false, false, false, false], [(.invokevirtual 168, [63, 2, 0, 1027]), (.ireturn, [])]))
def b_X6_supper_4 : ABlk := (48, ([true, true, false, false], [(.aload_n 0, []), (.invokevirtual 233, [80, 1, 0, 1068]), (.aload_n 0, []), (.invokevirtual 257, [76, 1, 0, 1192]), (.istore_n 2, []), (.iload_n 1, []), (.ifCond .ne 7, [5]), (.iload_n 2, []), (.goto 19, [7])]))
def b_X6_supper_5 : ABlk := (65, ([true, true, false, false], [(.iload_n 1, []), (.iconst 1, []), (.if_icmp .ne 10, [6]), (.aload_n 0, []), (.getfield 122, [0, 6, 2, 0, 876]), (.goto 7, [7])]))
def b_X6_supper_6 : ABlk := (77, ([true, false, false, false], [(.aload_n 0, []), (.invokevirtual 260, [77, 1, 0, 1196]), (.nop, [7])]))
def b_X6_supper_7 : ABlk := (81, ([true, false, false, false], [(.istore_n 3, []), (.aload_n 0, []), (.invokevirtual 239, [81, 1, 0, 1128]), (.iload_n 3, []), (.ireturn, [])]))
def k_X6_supper : List ABlk := [b_X6_supper_0, b_X6_supper_1, b_X6_supper_2, b_X6_supper_3, b_X6_supper_4, b_X6_supper_5, b_X6_supper_6, b_X6_supper_7]
def md_X6_supper : MDat := (yX6_supper, (cX6_supper, (4, (some .int, (false, (1, (6, ([1191, 1189, 1190, 124], k_X6_supper))))))))
def n_X6_supper : Nat := 108
def b_X6_behind_0 : ABlk := (0, ([true, true, false], [(.aload_n 0, []), (.iconst 0, []), (.putfield 97, [0, 6, 12, 0, 886]), (.aload_n 0, []), (.iload_n 1, []), (.invokevirtual 246, [65, 2, 0, 1151]), (.ifCond .ne 9, [1]), (.aload_n 0, []), (.iconst (-1), []), (.invokevirtual 168, [63, 2, 0, 1027]), (.ireturn, [])]))
def b_X6_behind_1 : ABlk := (19, ([true, true, false], [(.aload_n 0, []), (.invokevirtual 233, [80, 1, 0, 1068]), (.aload_n 0, []), (.invokevirtual 257, [76, 1, 0, 1192]), (.pop, []), (.aload_n 0, []), (.getfield 32, [1, 6, 11, 6, 0, 885]), (.iload_n 1, []), (.iaload, []), (.istore_n 2, []), (.aload_n 0, []), (.invokevirtual 239, [81, 1, 0, 1128]), (.iload_n 2, []), (.ireturn, [])]))
def k_X6_behind : List ABlk := [b_X6_behind_0, b_X6_behind_1]
def md_X6_behind : MDat := (yX6_behind, (cX6_behind, (3, (some .int, (false, (1, (6, ([1203, 1201, 1202, 124], k_X6_behind))))))))
def n_X6_behind : Nat := 109
def b_X6_allSay_0 : ABlk := (0, ([true, true, false, false], [(.iconst 1, []), (.istore_n 2, []), (.iconst 0, []), (.istore_n 3, []), (.nop, [1])]))
def b_X6_allSay_1 : ABlk := (4, ([true, true, true, true], [(.iload_n 3, []), (.aload_n 0, []), (.getfield 100, [0, 6, 0, 0, 874]), (.if_icmp .ge 45, [5]), (.iload_n 2, []), (.ifCond .eq 33, [3]), (.aload_n 0, []), (.getfield 94, [1, 6, 42, 26, 0, 916]), (.iload_n 3, []), (.iaload, []), (.bipush 99, []), (.if_icmp .eq 18, [2]), (.aload_n 0, []), (.iload_n 3, []), (.iload_n 1, []), (.invokevirtual 110, [68, 3, 0, 1120]), (.aload_n 0, []), (.getfield 94, [1, 6, 42, 26, 0, 916]), (.iload_n 3, []), (.iaload, []), (.if_icmp .ne 7, [3]), (.nop, [2])]))
def b_X6_allSay_2 : ABlk := (42, ([true, true, false, true], [(.iconst 1, []), (.goto 4, [4])]))
def b_X6_allSay_3 : ABlk := (46, ([true, true, false, true], [(.iconst 0, []), (.nop, [4])]))
def b_X6_allSay_4 : ABlk := (47, ([true, true, false, true], [(.istore_n 2, []), (.iinc 3 1, []), (.goto (-47), [1])]))
def b_X6_allSay_5 : ABlk := (54, ([false, false, true, false], [(.iload_n 2, []), (.ireturn, [1])]))
def k_X6_allSay : List ABlk := [b_X6_allSay_0, b_X6_allSay_1, b_X6_allSay_2, b_X6_allSay_3, b_X6_allSay_4, b_X6_allSay_5]
def md_X6_allSay : MDat := (yX6_allSay, (cX6_allSay, (4, (some .boolean, (false, (1, (6, ([1211, 1210, 90, 124], k_X6_allSay))))))))
def n_X6_allSay : Nat := 110
def b_X6_both_0 : ABlk := (0, ([true, true, false, false, false, false], [(.aload_n 0, []), (.iconst 0, []), (.putfield 97, [0, 6, 12, 0, 886]), (.iload_n 1, []), (.iconst (-1), []), (.sipush 30000, []), (.invokestatic 242, [66, 3, 0, 1144]), (.istore_n 2, []), (.iload_n 2, []), (.ifCond .ne 26, [2]), (.aload_n 0, []), (.getfield 100, [0, 6, 0, 0, 874]), (.ifCond .eq 14, [1]), (.aload_n 0, []), (.getfield 263, [0, 6, 43, 0, 917]), (.aload_n 0, []), (.getfield 100, [0, 6, 0, 0, 874]), (.if_icmp .eq 8, [2]), (.nop, [1])]))
def b_X6_both_1 : ABlk := (36, ([true, true, false, false, false, false], [(.bipush (-3), []), (.goto 4, [3])]))
def b_X6_both_2 : ABlk := (41, ([true, true, true, false, false, false], [(.iload_n 2, []), (.nop, [3])]))
def b_X6_both_3 : ABlk := (42, ([true, true, false, false, false, false], [(.istore_n 2, []), (.iload_n 2, []), (.ifCond .ge 9, [4]), (.aload_n 0, []), (.iload_n 2, []), (.invokevirtual 168, [63, 2, 0, 1027]), (.ireturn, [])]))
def b_X6_both_4 : ABlk := (53, ([true, true, false, false, false, false], [(.iconst 0, []), (.istore_n 3, []), (.iload_n 1, []), (.ifCond .ge 9, [5]), (.sipush 30000, []), (.goto 4, [6])]))
def b_X6_both_5 : ABlk := (65, ([true, true, false, true, false, false], [(.iload_n 1, []), (.nop, [6])]))
def b_X6_both_6 : ABlk := (66, ([true, true, false, true, false, false], [(.istore 4, []), (.iconst 1, []), (.istore 5, []), (.nop, [7])]))
def b_X6_both_7 : ABlk := (71, ([true, true, false, true, true, true], [(.iload 5, []), (.iload 4, []), (.if_icmp .gt 28, [10]), (.aload_n 0, []), (.iload 5, []), (.invokevirtual 266, [110, 2, 0, 1208]), (.ifCond .eq 13, [9]), (.iload_n 1, []), (.ifCond .ge 6, [8]), (.iload 5, []), (.ireturn, [])]))
def b_X6_both_8 : ABlk := (94, ([true, true, false, true, true, true], [(.iinc 3 1, []), (.nop, [9])]))
def b_X6_both_9 : ABlk := (97, ([true, true, false, true, true, true], [(.iinc 5 1, []), (.goto (-29), [7])]))
def b_X6_both_10 : ABlk := (103, ([false, true, false, true, false, false], [(.iload_n 1, []), (.ifCond .ge 8, [11]), (.bipush (-9), []), (.goto 4, [12])]))
def b_X6_both_11 : ABlk := (112, ([false, false, false, true, false, false], [(.iload_n 3, []), (.nop, [12])]))
def b_X6_both_12 : ABlk := (113, ([false, false, false, false, false, false], [(.ireturn, [])]))
def k_X6_both : List ABlk := [b_X6_both_0, b_X6_both_1, b_X6_both_2, b_X6_both_3, b_X6_both_4, b_X6_both_5, b_X6_both_6, b_X6_both_7, b_X6_both_8, b_X6_both_9, b_X6_both_10, b_X6_both_11, b_X6_both_12]
def md_X6_both : MDat := (yX6_both, (cX6_both, (6, (some .int, (false, (1, (6, ([1207, 1205, 1206, 124], k_X6_both))))))))
def n_X6_both : Nat := 111
def b_X6_beginWays_0 : ABlk := (0, ([true, false], [(.iconst 0, []), (.istore_n 1, []), (.nop, [1])]))
def b_X6_beginWays_1 : ABlk := (2, ([true, true], [(.iload_n 1, []), (.bipush 60, []), (.if_icmp .gt 24, [4]), (.aload_n 0, []), (.getfield 65, [1, 6, 32, 17, 0, 906]), (.iload_n 1, []), (.iload_n 1, []), (.ifCond .ne 7, [2]), (.lconst 1, []), (.goto 4, [3])]))
def b_X6_beginWays_2 : ABlk := (21, ([true, true], [(.lconst 0, []), (.nop, [3])]))
def b_X6_beginWays_3 : ABlk := (22, ([true, true], [(.lastore, []), (.iinc 1 1, []), (.goto (-24), [1])]))
def b_X6_beginWays_4 : ABlk := (29, ([false, false], [(.return_, [])]))
def k_X6_beginWays : List ABlk := [b_X6_beginWays_0, b_X6_beginWays_1, b_X6_beginWays_2, b_X6_beginWays_3, b_X6_beginWays_4]
def md_X6_beginWays : MDat := (yX6_beginWays, (cX6_beginWays, (2, (none, (false, (0, (6, ([1224, 1223, 92, 124], k_X6_beginWays))))))))
def n_X6_beginWays : Nat := 112
def b_X6_eatsToo_0 : ABlk := (0, ([true, true, true, true, false, false, false, false], [(.iconst 0, []), (.istore 4, []), (.nop, [1])]))
def b_X6_eatsToo_1 : ABlk := (3, ([true, true, true, true, true, false, false, false], [(.iload 4, []), (.aload_n 0, []), (.getfield 122, [0, 6, 2, 0, 876]), (.if_icmp .gt 80, [7]), (.lconst 0, []), (.lstore 5, []), (.iconst 0, []), (.istore 7, []), (.nop, [2])]))
def b_X6_eatsToo_2 : ABlk := (18, ([true, true, true, true, true, true, false, true], [(.iload 7, []), (.iload 4, []), (.if_icmp .gt 52, [6]), (.lload 5, []), (.iload_n 2, []), (.ifCond .eq 20, [3]), (.aload_n 0, []), (.iload_n 1, []), (.aload_n 0, []), (.getfield 32, [1, 6, 11, 6, 0, 885]), (.iload_n 1, []), (.iaload, []), (.iload 7, []), (.iadd, []), (.invokevirtual 118, [70, 3, 0, 1112]), (.ifCond .eq 16, [4]), (.nop, [3])]))
def b_X6_eatsToo_3 : ABlk := (48, ([true, true, true, true, true, false, false, true], [(.aload_n 0, []), (.getfield 65, [1, 6, 32, 17, 0, 906]), (.iload 4, []), (.iload 7, []), (.isub, []), (.laload, []), (.goto 4, [5])]))
def b_X6_eatsToo_4 : ABlk := (61, ([true, true, true, true, true, false, false, true], [(.lconst 0, []), (.nop, [5])]))
def b_X6_eatsToo_5 : ABlk := (62, ([true, true, true, true, true, false, false, true], [(.ladd, []), (.lstore 5, []), (.iload 7, []), (.iload_n 3, []), (.iadd, []), (.istore 7, []), (.goto (-53), [2])]))
def b_X6_eatsToo_6 : ABlk := (74, ([true, true, true, true, true, true, false, false], [(.aload_n 0, []), (.getfield 69, [1, 6, 33, 18, 0, 907]), (.iload 4, []), (.lload 5, []), (.lastore, []), (.iinc 4 1, []), (.goto (-83), [1])]))
def b_X6_eatsToo_7 : ABlk := (89, ([true, false, false, false, false, false, false, false], [(.iconst 0, []), (.istore 4, []), (.nop, [8])]))
def b_X6_eatsToo_8 : ABlk := (92, ([true, false, false, false, true, false, false, false], [(.iload 4, []), (.aload_n 0, []), (.getfield 122, [0, 6, 2, 0, 876]), (.if_icmp .gt 23, [9]), (.aload_n 0, []), (.getfield 65, [1, 6, 32, 17, 0, 906]), (.iload 4, []), (.aload_n 0, []), (.getfield 69, [1, 6, 33, 18, 0, 907]), (.iload 4, []), (.laload, []), (.lastore, []), (.iinc 4 1, []), (.goto (-26), [8])]))
def b_X6_eatsToo_9 : ABlk := (121, ([false, false, false, false, false, false, false, false], [(.return_, [])]))
def k_X6_eatsToo : List ABlk := [b_X6_eatsToo_0, b_X6_eatsToo_1, b_X6_eatsToo_2, b_X6_eatsToo_3, b_X6_eatsToo_4, b_X6_eatsToo_5, b_X6_eatsToo_6, b_X6_eatsToo_7, b_X6_eatsToo_8, b_X6_eatsToo_9]
def md_X6_eatsToo : MDat := (yX6_eatsToo, (cX6_eatsToo, (8, (none, (false, (3, (6, ([1228, 1227, 93, 124], k_X6_eatsToo))))))))
def n_X6_eatsToo : Nat := 113
def b_X6_wrongShare_0 : ABlk := (0, ([true, true], [(.iload_n 1, []), (.i2l, []), (.lconst 0, []), (.lconst 1, []), (.invokestatic 103, [62, 3, 0, 1057]), (.ifCond .ne 8, [1]), (.bipush (-2), []), (.goto 23, [4])]))
def b_X6_wrongShare_1 : ABlk := (15, ([true, false], [(.aload_n 0, []), (.getfield 107, [0, 6, 1, 0, 875]), (.ifCond .eq 10, [2]), (.aload_n 0, []), (.getfield 100, [0, 6, 0, 0, 874]), (.ifCond .ne 8, [3]), (.nop, [2])]))
def b_X6_wrongShare_2 : ABlk := (29, ([false, false], [(.bipush (-3), []), (.goto 4, [4])]))
def b_X6_wrongShare_3 : ABlk := (34, ([false, false], [(.iconst 0, []), (.nop, [4])]))
def b_X6_wrongShare_4 : ABlk := (35, ([false, false], [(.ireturn, [])]))
def k_X6_wrongShare : List ABlk := [b_X6_wrongShare_0, b_X6_wrongShare_1, b_X6_wrongShare_2, b_X6_wrongShare_3, b_X6_wrongShare_4]
def md_X6_wrongShare : MDat := (yX6_wrongShare, (cX6_wrongShare, (2, (some .int, (false, (1, (6, ([1219, 1218, 91, 124], k_X6_wrongShare))))))))
def n_X6_wrongShare : Nat := 114
def b_X6_shared_0 : ABlk := (0, ([true, true, false], [(.aload_n 0, []), (.iconst 0, []), (.putfield 97, [0, 6, 12, 0, 886]), (.aload_n 0, []), (.iload_n 1, []), (.invokevirtual 269, [114, 2, 0, 1216]), (.ifCond .ge 18, [1]), (.ldc2_w 272, [4000000000000000000, 0, 1220]), (.aload_n 0, []), (.aload_n 0, []), (.iload_n 1, []), (.invokevirtual 269, [114, 2, 0, 1216]), (.invokevirtual 168, [63, 2, 0, 1027]), (.i2l, []), (.lsub, []), (.lreturn, [])]))
def b_X6_shared_1 : ABlk := (28, ([true, true, false], [(.aload_n 0, []), (.invokevirtual 274, [112, 1, 0, 1221]), (.iconst 0, []), (.istore_n 2, []), (.nop, [2])]))
def b_X6_shared_2 : ABlk := (34, ([true, true, true], [(.iload_n 2, []), (.aload_n 0, []), (.getfield 107, [0, 6, 1, 0, 875]), (.if_icmp .ge 27, [5]), (.aload_n 0, []), (.iload_n 2, []), (.iconst 1, []), (.iload_n 1, []), (.ifCond .ne 7, [3]), (.iconst 1, []), (.goto 7, [4])]))
def b_X6_shared_3 : ABlk := (53, ([true, true, true], [(.aload_n 0, []), (.getfield 7, [0, 6, 3, 0, 877]), (.nop, [4])]))
def b_X6_shared_4 : ABlk := (57, ([true, true, true], [(.invokevirtual 277, [113, 4, 0, 1225]), (.iinc 2 1, []), (.goto (-29), [2])]))
def b_X6_shared_5 : ABlk := (66, ([true, false, false], [(.aload_n 0, []), (.getfield 65, [1, 6, 32, 17, 0, 906]), (.aload_n 0, []), (.getfield 122, [0, 6, 2, 0, 876]), (.laload, []), (.lreturn, [])]))
def k_X6_shared : List ABlk := [b_X6_shared_0, b_X6_shared_1, b_X6_shared_2, b_X6_shared_3, b_X6_shared_4, b_X6_shared_5]
def md_X6_shared : MDat := (yX6_shared, (cX6_shared, (3, (some .long, (false, (1, (6, ([1215, 1213, 1214, 124], k_X6_shared))))))))
def n_X6_shared : Nat := 115
def b_X6_canAll_0 : ABlk := (0, ([true, true, false], [(.aload_n 0, []), (.invokevirtual 274, [112, 1, 0, 1221]), (.iconst 0, []), (.istore_n 2, []), (.nop, [1])]))
def b_X6_canAll_1 : ABlk := (6, ([true, true, true], [(.iload_n 2, []), (.aload_n 0, []), (.getfield 107, [0, 6, 1, 0, 875]), (.if_icmp .ge 29, [4]), (.aload_n 0, []), (.iload_n 2, []), (.iload_n 1, []), (.iload_n 2, []), (.ishr, []), (.iconst 1, []), (.iand, []), (.iconst 1, []), (.if_icmp .ne 7, [2]), (.iconst 1, []), (.goto 4, [3])]))
def b_X6_canAll_2 : ABlk := (29, ([true, true, true], [(.iconst 0, []), (.nop, [3])]))
def b_X6_canAll_3 : ABlk := (30, ([true, true, true], [(.iconst 1, []), (.invokevirtual 277, [113, 4, 0, 1225]), (.iinc 2 1, []), (.goto (-31), [1])]))
def b_X6_canAll_4 : ABlk := (40, ([true, false, false], [(.aload_n 0, []), (.getfield 65, [1, 6, 32, 17, 0, 906]), (.aload_n 0, []), (.getfield 122, [0, 6, 2, 0, 876]), (.laload, []), (.lconst 0, []), (.lcmp, []), (.ifCond .le 7, [5]), (.iconst 1, []), (.goto 4, [6])]))
def b_X6_canAll_5 : ABlk := (58, ([false, false, false], [(.iconst 0, []), (.nop, [6])]))
def b_X6_canAll_6 : ABlk := (59, ([false, false, false], [(.ireturn, [1])]))
def k_X6_canAll : List ABlk := [b_X6_canAll_0, b_X6_canAll_1, b_X6_canAll_2, b_X6_canAll_3, b_X6_canAll_4, b_X6_canAll_5, b_X6_canAll_6]
def md_X6_canAll : MDat := (yX6_canAll, (cX6_canAll, (3, (some .boolean, (false, (1, (6, ([1239, 1238, 94, 124], k_X6_canAll))))))))
def n_X6_canAll : Nat := 116
def b_X6_can_0 : ABlk := (0, ([true, true, false, false], [(.aload_n 0, []), (.iconst 0, []), (.putfield 97, [0, 6, 12, 0, 886]), (.aload_n 0, []), (.iload_n 1, []), (.invokevirtual 269, [114, 2, 0, 1216]), (.ifCond .ge 13, [1]), (.aload_n 0, []), (.aload_n 0, []), (.iload_n 1, []), (.invokevirtual 269, [114, 2, 0, 1216]), (.invokevirtual 168, [63, 2, 0, 1027]), (.ireturn, [])]))
def b_X6_can_1 : ABlk := (23, ([true, true, false, false], [(.iconst 0, []), (.istore_n 2, []), (.iconst 1, []), (.istore_n 3, []), (.nop, [2])]))
def b_X6_can_2 : ABlk := (27, ([true, true, true, true], [(.iload_n 3, []), (.iconst 1, []), (.aload_n 0, []), (.getfield 107, [0, 6, 1, 0, 875]), (.ishl, []), (.if_icmp .ge 34, [5]), (.iload_n 3, []), (.invokestatic 281, [67, 1, 0, 1233]), (.iload_n 2, []), (.invokestatic 281, [67, 1, 0, 1233]), (.if_icmp .le 15, [3]), (.aload_n 0, []), (.iload_n 3, []), (.invokevirtual 284, [116, 2, 0, 1236]), (.ifCond .eq 7, [3]), (.iload_n 3, []), (.goto 4, [4])]))
def b_X6_can_3 : ABlk := (60, ([true, true, true, true], [(.iload_n 2, []), (.nop, [4])]))
def b_X6_can_4 : ABlk := (61, ([true, true, false, true], [(.istore_n 2, []), (.iinc 3 1, []), (.goto (-38), [2])]))
def b_X6_can_5 : ABlk := (68, ([false, true, true, false], [(.iload_n 1, []), (.ifCond .ne 10, [6]), (.iload_n 2, []), (.invokestatic 281, [67, 1, 0, 1233]), (.goto 4, [7])]))
def b_X6_can_6 : ABlk := (79, ([false, false, true, false], [(.iload_n 2, []), (.nop, [7])]))
def b_X6_can_7 : ABlk := (80, ([false, false, false, false], [(.ireturn, [])]))
def k_X6_can : List ABlk := [b_X6_can_0, b_X6_can_1, b_X6_can_2, b_X6_can_3, b_X6_can_4, b_X6_can_5, b_X6_can_6, b_X6_can_7]
def md_X6_can : MDat := (yX6_can, (cX6_can, (4, (some .int, (false, (1, (6, ([1232, 1230, 1231, 124], k_X6_can))))))))
def n_X6_can : Nat := 117
def b_X6_stateOf_0 : ABlk := (0, ([true, true, true], [(.iconst 4, []), (.iload_n 0, []), (.imul, []), (.iload_n 1, []), (.iadd, []), (.bipush 61, []), (.imul, []), (.iload_n 2, []), (.iadd, []), (.ireturn, [])]))
def k_X6_stateOf : List ABlk := [b_X6_stateOf_0]
def md_X6_stateOf : MDat := (yX6_stateOf, (cX6_stateOf, (3, (some .int, (true, (3, (6, ([1250, 1249, 0, 124], k_X6_stateOf))))))))
def n_X6_stateOf : Nat := 118
def b_X6_isSure_0 : ABlk := (0, ([true, true, true, true, true, false, false, false, false, false], [(.iload_n 2, []), (.ifCond .ne 18, [1]), (.aload_n 0, []), (.iload_n 1, []), (.aload_n 0, []), (.getfield 32, [1, 6, 11, 6, 0, 885]), (.iload_n 1, []), (.iaload, []), (.iload 4, []), (.iadd, []), (.invokevirtual 118, [70, 3, 0, 1112]), (.ireturn, [1])]))
def b_X6_isSure_1 : ABlk := (19, ([true, true, true, true, true, false, false, false, false, false], [(.iconst 0, []), (.istore 5, []), (.iconst 1, []), (.istore 6, []), (.iconst 1, []), (.istore 7, []), (.nop, [2])]))
def b_X6_isSure_2 : ABlk := (28, ([true, true, true, true, true, true, true, true, false, false], [(.iload 7, []), (.aload_n 0, []), (.getfield 13, [0, 6, 4, 0, 878]), (.if_icmp .gt 90, [10]), (.iload 7, []), (.iload_n 2, []), (.if_icmp .gt 84, [10]), (.iload_n 3, []), (.iload_n 1, []), (.if_icmp .ne 11, [3]), (.iload 4, []), (.iload 7, []), (.iadd, []), (.goto 5, [4])]))
def b_X6_isSure_3 : ABlk := (56, ([true, true, true, true, true, true, true, true, false, false], [(.iload 4, []), (.nop, [4])]))
def b_X6_isSure_4 : ABlk := (58, ([true, true, true, true, true, true, true, true, false, false], [(.istore 8, []), (.aload_n 0, []), (.getfield 72, [1, 6, 34, 19, 0, 908]), (.iload_n 2, []), (.iload 7, []), (.isub, []), (.iload_n 3, []), (.iconst 1, []), (.iadd, []), (.aload_n 0, []), (.getfield 107, [0, 6, 1, 0, 875]), (.irem, []), (.iload 8, []), (.invokestatic 287, [118, 3, 0, 1248]), (.baload, []), (.istore 9, []), (.iload 5, []), (.ifCond .ne 8, [5]), (.iload 9, []), (.ifCond .eq 7, [6]), (.nop, [5])]))
def b_X6_isSure_5 : ABlk := (94, ([true, true, true, true, true, false, true, true, false, true], [(.iconst 1, []), (.goto 4, [7])]))
def b_X6_isSure_6 : ABlk := (98, ([true, true, true, true, true, false, true, true, false, true], [(.iconst 0, []), (.nop, [7])]))
def b_X6_isSure_7 : ABlk := (99, ([true, true, true, true, true, false, true, true, false, true], [(.istore 5, []), (.iload 6, []), (.ifCond .eq 12, [8]), (.iload 9, []), (.ifCond .eq 7, [8]), (.iconst 1, []), (.goto 4, [9])]))
def b_X6_isSure_8 : ABlk := (115, ([true, true, true, true, true, true, false, true, false, false], [(.iconst 0, []), (.nop, [9])]))
def b_X6_isSure_9 : ABlk := (116, ([true, true, true, true, true, true, false, true, false, false], [(.istore 6, []), (.iinc 7 1, []), (.goto (-93), [2])]))
def b_X6_isSure_10 : ABlk := (124, ([false, true, false, true, false, true, true, false, false, false], [(.iload_n 3, []), (.iload_n 1, []), (.if_icmp .ne 8, [11]), (.iload 5, []), (.goto 5, [12])]))
def b_X6_isSure_11 : ABlk := (134, ([false, false, false, false, false, false, true, false, false, false], [(.iload 6, []), (.nop, [12])]))
def b_X6_isSure_12 : ABlk := (136, ([false, false, false, false, false, false, false, false, false, false], [(.ireturn, [1])]))
def k_X6_isSure : List ABlk := [b_X6_isSure_0, b_X6_isSure_1, b_X6_isSure_2, b_X6_isSure_3, b_X6_isSure_4, b_X6_isSure_5, b_X6_isSure_6, b_X6_isSure_7, b_X6_isSure_8, b_X6_isSure_9, b_X6_isSure_10, b_X6_isSure_11, b_X6_isSure_12]
def md_X6_isSure : MDat := (yX6_isSure, (cX6_isSure, (10, (some .boolean, (false, (4, (6, ([1254, 1253, 96, 124], k_X6_isSure))))))))
def n_X6_isSure : Nat := 119
def b_X6_laySure_0 : ABlk := (0, ([true, true, false, false, false], [(.iconst 0, []), (.istore_n 2, []), (.nop, [1])]))
def b_X6_laySure_1 : ABlk := (2, ([true, true, true, false, false], [(.iload_n 2, []), (.aload_n 0, []), (.getfield 122, [0, 6, 2, 0, 876]), (.if_icmp .gt 66, [6]), (.iconst 0, []), (.istore_n 3, []), (.nop, [2])]))
def b_X6_laySure_2 : ABlk := (12, ([true, true, true, true, false], [(.iload_n 3, []), (.aload_n 0, []), (.getfield 107, [0, 6, 1, 0, 875]), (.if_icmp .ge 50, [5]), (.iconst 0, []), (.istore 4, []), (.nop, [3])]))
def b_X6_laySure_3 : ABlk := (23, ([true, true, true, true, true], [(.iload 4, []), (.aload_n 0, []), (.getfield 122, [0, 6, 2, 0, 876]), (.iload_n 2, []), (.isub, []), (.if_icmp .gt 30, [4]), (.aload_n 0, []), (.getfield 72, [1, 6, 34, 19, 0, 908]), (.iload_n 2, []), (.iload_n 3, []), (.iload 4, []), (.invokestatic 287, [118, 3, 0, 1248]), (.aload_n 0, []), (.iload_n 1, []), (.iload_n 2, []), (.iload_n 3, []), (.iload 4, []), (.invokevirtual 290, [119, 5, 0, 1251]), (.bastore, []), (.iinc 4 1, []), (.goto (-35), [3])]))
def b_X6_laySure_4 : ABlk := (61, ([true, true, true, true, false], [(.iinc 3 1, []), (.goto (-52), [2])]))
def b_X6_laySure_5 : ABlk := (67, ([true, true, true, false, false], [(.iinc 2 1, []), (.goto (-68), [1])]))
def b_X6_laySure_6 : ABlk := (73, ([false, false, false, false, false], [(.return_, [])]))
def k_X6_laySure : List ABlk := [b_X6_laySure_0, b_X6_laySure_1, b_X6_laySure_2, b_X6_laySure_3, b_X6_laySure_4, b_X6_laySure_5, b_X6_laySure_6]
def md_X6_laySure : MDat := (yX6_laySure, (cX6_laySure, (5, (none, (false, (1, (6, ([1247, 1246, 95, 124], k_X6_laySure))))))))
def n_X6_laySure : Nat := 120
def b_X6_sureFirst_0 : ABlk := (0, ([true, true, false], [(.aload_n 0, []), (.getfield 132, [0, 6, 5, 0, 879]), (.iload_n 1, []), (.if_icmp .ne 10, [1]), (.aload_n 0, []), (.getfield 122, [0, 6, 2, 0, 876]), (.ifCond .ne 6, [2]), (.nop, [1])]))
def b_X6_sureFirst_1 : ABlk := (15, ([false, false, false], [(.bipush (-9), []), (.ireturn, [])]))
def b_X6_sureFirst_2 : ABlk := (18, ([true, false, false], [(.iconst 1, []), (.istore_n 2, []), (.nop, [3])]))
def b_X6_sureFirst_3 : ABlk := (20, ([true, false, true], [(.iload_n 2, []), (.aload_n 0, []), (.getfield 13, [0, 6, 4, 0, 878]), (.if_icmp .gt 48, [5]), (.iload_n 2, []), (.aload_n 0, []), (.getfield 122, [0, 6, 2, 0, 876]), (.if_icmp .gt 40, [5]), (.aload_n 0, []), (.getfield 72, [1, 6, 34, 19, 0, 908]), (.aload_n 0, []), (.getfield 122, [0, 6, 2, 0, 876]), (.iload_n 2, []), (.isub, []), (.aload_n 0, []), (.getfield 132, [0, 6, 5, 0, 879]), (.iconst 1, []), (.iadd, []), (.aload_n 0, []), (.getfield 107, [0, 6, 1, 0, 875]), (.irem, []), (.iload_n 2, []), (.invokestatic 287, [118, 3, 0, 1248]), (.baload, []), (.ifCond .eq 5, [4]), (.iload_n 2, []), (.ireturn, [])]))
def b_X6_sureFirst_4 : ABlk := (67, ([true, false, true], [(.iinc 2 1, []), (.goto (-50), [3])]))
def b_X6_sureFirst_5 : ABlk := (73, ([false, false, false], [(.bipush (-9), []), (.ireturn, [])]))
def k_X6_sureFirst : List ABlk := [b_X6_sureFirst_0, b_X6_sureFirst_1, b_X6_sureFirst_2, b_X6_sureFirst_3, b_X6_sureFirst_4, b_X6_sureFirst_5]
def md_X6_sureFirst : MDat := (yX6_sureFirst, (cX6_sureFirst, (3, (some .int, (false, (1, (6, ([1258, 1257, 97, 124], k_X6_sureFirst))))))))
def n_X6_sureFirst : Nat := 121
def b_X6_sure_0 : ABlk := (0, ([true, true, true, false], [(.aload_n 0, []), (.iconst 0, []), (.putfield 97, [0, 6, 12, 0, 886]), (.aload_n 0, []), (.iload_n 1, []), (.invokevirtual 246, [65, 2, 0, 1151]), (.ifCond .ne 7, [1]), (.iconst (-1), []), (.goto 31, [4])]))
def b_X6_sure_1 : ABlk := (17, ([true, true, true, false], [(.iload_n 2, []), (.i2l, []), (.lconst 0, []), (.lconst 1, []), (.invokestatic 103, [62, 3, 0, 1057]), (.ifCond .ne 8, [2]), (.bipush (-2), []), (.goto 16, [4])]))
def b_X6_sure_2 : ABlk := (32, ([true, true, true, false], [(.aload_n 0, []), (.getfield 100, [0, 6, 0, 0, 874]), (.ifCond .ne 8, [3]), (.bipush (-3), []), (.goto 4, [4])]))
def b_X6_sure_3 : ABlk := (44, ([true, true, true, false], [(.iconst 0, []), (.nop, [4])]))
def b_X6_sure_4 : ABlk := (45, ([true, true, true, false], [(.istore_n 3, []), (.iload_n 3, []), (.ifCond .ge 9, [5]), (.aload_n 0, []), (.iload_n 3, []), (.invokevirtual 168, [63, 2, 0, 1027]), (.ireturn, [])]))
def b_X6_sure_5 : ABlk := (56, ([true, true, true, false], [(.aload_n 0, []), (.iload_n 1, []), (.invokevirtual 294, [120, 2, 0, 1244]), (.iload_n 2, []), (.iconst 1, []), (.if_icmp .ne 11, [6]), (.aload_n 0, []), (.iload_n 1, []), (.invokevirtual 297, [121, 2, 0, 1255]), (.goto 28, [8])]))
def b_X6_sure_6 : ABlk := (74, ([true, false, false, false], [(.aload_n 0, []), (.getfield 72, [1, 6, 34, 19, 0, 908]), (.aload_n 0, []), (.getfield 122, [0, 6, 2, 0, 876]), (.aload_n 0, []), (.getfield 132, [0, 6, 5, 0, 879]), (.iconst 0, []), (.invokestatic 287, [118, 3, 0, 1248]), (.baload, []), (.ifCond .eq 7, [7]), (.iconst 1, []), (.goto 4, [8])]))
def b_X6_sure_7 : ABlk := (98, ([false, false, false, false], [(.iconst 0, []), (.nop, [8])]))
def b_X6_sure_8 : ABlk := (99, ([false, false, false, false], [(.ireturn, [])]))
def k_X6_sure : List ABlk := [b_X6_sure_0, b_X6_sure_1, b_X6_sure_2, b_X6_sure_3, b_X6_sure_4, b_X6_sure_5, b_X6_sure_6, b_X6_sure_7, b_X6_sure_8]
def md_X6_sure : MDat := (yX6_sure, (cX6_sure, (4, (some .int, (false, (2, (6, ([1243, 1241, 1242, 124], k_X6_sure))))))))
def n_X6_sure : Nat := 122
def b_X6_last_0 : ABlk := (0, ([true, true, false, false], [(.aload_n 0, []), (.iconst 0, []), (.putfield 97, [0, 6, 12, 0, 886]), (.iload_n 1, []), (.i2l, []), (.lconst 0, []), (.lconst 1, []), (.invokestatic 103, [62, 3, 0, 1057]), (.ifCond .ne 8, [1]), (.bipush (-2), []), (.goto 24, [4])]))
def b_X6_last_1 : ABlk := (20, ([true, true, false, false], [(.aload_n 0, []), (.getfield 107, [0, 6, 1, 0, 875]), (.iconst 2, []), (.if_icmp .ne 10, [2]), (.aload_n 0, []), (.getfield 122, [0, 6, 2, 0, 876]), (.ifCond .ne 8, [3]), (.nop, [2])]))
def b_X6_last_2 : ABlk := (35, ([true, true, false, false], [(.bipush (-3), []), (.goto 4, [4])]))
def b_X6_last_3 : ABlk := (40, ([true, true, false, false], [(.iconst 0, []), (.nop, [4])]))
def b_X6_last_4 : ABlk := (41, ([true, true, false, false], [(.istore_n 2, []), (.iload_n 2, []), (.ifCond .ge 9, [5]), (.aload_n 0, []), (.iload_n 2, []), (.invokevirtual 168, [63, 2, 0, 1027]), (.ireturn, [])]))
def b_X6_last_5 : ABlk := (52, ([true, true, false, false], [(.aload_n 0, []), (.getfield 122, [0, 6, 2, 0, 876]), (.aload_n 0, []), (.getfield 13, [0, 6, 4, 0, 878]), (.iconst 1, []), (.iadd, []), (.irem, []), (.istore_n 3, []), (.iload_n 1, []), (.iconst 1, []), (.if_icmp .ne 15, [7]), (.iload_n 3, []), (.ifCond .ne 7, [6]), (.iconst 1, []), (.goto 24, [9])]))
def b_X6_last_6 : ABlk := (77, ([false, false, false, true], [(.iload_n 3, []), (.goto 20, [9])]))
def b_X6_last_7 : ABlk := (81, ([true, false, false, true], [(.iload_n 3, []), (.ifCond .ne 12, [8]), (.iconst 1, []), (.aload_n 0, []), (.getfield 132, [0, 6, 5, 0, 879]), (.isub, []), (.goto 7, [9])]))
def b_X6_last_8 : ABlk := (94, ([true, false, false, false], [(.aload_n 0, []), (.getfield 132, [0, 6, 5, 0, 879]), (.nop, [9])]))
def b_X6_last_9 : ABlk := (98, ([false, false, false, false], [(.ireturn, [])]))
def k_X6_last : List ABlk := [b_X6_last_0, b_X6_last_1, b_X6_last_2, b_X6_last_3, b_X6_last_4, b_X6_last_5, b_X6_last_6, b_X6_last_7, b_X6_last_8, b_X6_last_9]
def md_X6_last : MDat := (yX6_last, (cX6_last, (4, (some .int, (false, (1, (6, ([1262, 1260, 1261, 124], k_X6_last))))))))
def n_X6_last : Nat := 123
def b_X6_divisor_0 : ABlk := (0, ([true, true, false, false, false], [(.iload_n 0, []), (.istore_n 2, []), (.iload_n 1, []), (.istore_n 3, []), (.nop, [1])]))
def b_X6_divisor_1 : ABlk := (4, ([false, false, true, true, false], [(.iload_n 3, []), (.ifCond .eq 16, [2]), (.iload_n 2, []), (.iload_n 3, []), (.irem, []), (.istore 4, []), (.iload_n 3, []), (.istore_n 2, []), (.iload 4, []), (.istore_n 3, []), (.goto (-14), [1])]))
def b_X6_divisor_2 : ABlk := (21, ([false, false, true, false, false], [(.iload_n 2, []), (.ireturn, [])]))
def k_X6_divisor : List ABlk := [b_X6_divisor_0, b_X6_divisor_1, b_X6_divisor_2]
def md_X6_divisor : MDat := (yX6_divisor, (cX6_divisor, (5, (some .int, (true, (2, (6, ([1276, 1275, 0, 124], k_X6_divisor))))))))
def n_X6_divisor : Nat := 124
def b_X6_partOf_0 : ABlk := (0, ([true, true, true, false], [(.iload_n 0, []), (.ifCond .ne 6, [1]), (.iload_n 2, []), (.i2l, []), (.lreturn, [])]))
def b_X6_partOf_1 : ABlk := (7, ([true, true, true, false], [(.iload_n 0, []), (.iload_n 1, []), (.invokestatic 300, [124, 2, 0, 1274]), (.istore_n 3, []), (.iload_n 2, []), (.ifCond .ne 10, [2]), (.iload_n 0, []), (.iload_n 3, []), (.idiv, []), (.i2l, []), (.goto 7, [3])]))
def b_X6_partOf_2 : ABlk := (24, ([false, true, false, true], [(.iload_n 1, []), (.iload_n 3, []), (.idiv, []), (.i2l, []), (.nop, [3])]))
def b_X6_partOf_3 : ABlk := (28, ([false, false, false, false], [(.lreturn, [])]))
def k_X6_partOf : List ABlk := [b_X6_partOf_0, b_X6_partOf_1, b_X6_partOf_2, b_X6_partOf_3]
def md_X6_partOf : MDat := (yX6_partOf, (cX6_partOf, (4, (some .long, (true, (3, (6, ([1273, 1272, 0, 124], k_X6_partOf))))))))
def n_X6_partOf : Nat := 125
def b_X6_wrongSpoons_0 : ABlk := (0, ([true, true, true, true, true, true, true], [(.aload_n 0, []), (.iload_n 1, []), (.invokevirtual 246, [65, 2, 0, 1151]), (.ifCond .eq 16, [1]), (.iload 5, []), (.i2l, []), (.lconst 0, []), (.ldc2_w 208, [12, 0, 1081]), (.invokestatic 103, [62, 3, 0, 1057]), (.ifCond .ne 5, [2]), (.nop, [1])]))
def b_X6_wrongSpoons_1 : ABlk := (21, ([false, false, false, false, false, false, false], [(.iconst (-1), []), (.ireturn, [])]))
def b_X6_wrongSpoons_2 : ABlk := (23, ([true, false, true, true, true, false, true], [(.iload_n 2, []), (.ifCond .lt 12, [3]), (.iload_n 3, []), (.ifCond .lt 8, [3]), (.iload 4, []), (.ifCond .ge 6, [4]), (.nop, [3])]))
def b_X6_wrongSpoons_3 : ABlk := (36, ([false, false, false, false, false, false, false], [(.bipush (-4), []), (.ireturn, [])]))
def b_X6_wrongSpoons_4 : ABlk := (39, ([true, false, true, true, true, false, true], [(.iload_n 2, []), (.bipush 20, []), (.if_icmp .gt 16, [5]), (.iload_n 3, []), (.bipush 9, []), (.if_icmp .gt 10, [5]), (.iload 4, []), (.bipush 9, []), (.if_icmp .le 6, [6]), (.nop, [5])]))
def b_X6_wrongSpoons_5 : ABlk := (58, ([false, false, false, false, false, false, false], [(.bipush (-6), []), (.ireturn, [])]))
def b_X6_wrongSpoons_6 : ABlk := (61, ([true, false, false, false, false, false, true], [(.iload 6, []), (.i2l, []), (.lconst 0, []), (.lconst 1, []), (.invokestatic 103, [62, 3, 0, 1057]), (.ifCond .ne 8, [7]), (.bipush (-2), []), (.goto 16, [9])]))
def b_X6_wrongSpoons_7 : ABlk := (77, ([true, false, false, false, false, false, false], [(.aload_n 0, []), (.getfield 100, [0, 6, 0, 0, 874]), (.ifCond .ne 8, [8]), (.bipush (-3), []), (.goto 4, [9])]))
def b_X6_wrongSpoons_8 : ABlk := (89, ([false, false, false, false, false, false, false], [(.iconst 0, []), (.nop, [9])]))
def b_X6_wrongSpoons_9 : ABlk := (90, ([false, false, false, false, false, false, false], [(.ireturn, [])]))
def k_X6_wrongSpoons : List ABlk := [b_X6_wrongSpoons_0, b_X6_wrongSpoons_1, b_X6_wrongSpoons_2, b_X6_wrongSpoons_3, b_X6_wrongSpoons_4, b_X6_wrongSpoons_5, b_X6_wrongSpoons_6, b_X6_wrongSpoons_7, b_X6_wrongSpoons_8, b_X6_wrongSpoons_9]
def md_X6_wrongSpoons : MDat := (yX6_wrongSpoons, (cX6_wrongSpoons, (7, (some .int, (false, (6, (6, ([1270, 1269, 98, 124], k_X6_wrongSpoons))))))))
def n_X6_wrongSpoons : Nat := 126
def b_X6_spoons_0 : ABlk := (0, ([true, true, true, true, true, true, true, false, false, false, false, false], [(.aload_n 0, []), (.iconst 0, []), (.putfield 97, [0, 6, 12, 0, 886]), (.aload_n 0, []), (.iload_n 1, []), (.iload_n 2, []), (.iload_n 3, []), (.iload 4, []), (.iload 5, []), (.iload 6, []), (.invokevirtual 303, [126, 7, 0, 1267]), (.istore 7, []), (.iload 7, []), (.ifCond .ge 15, [1]), (.ldc2_w 272, [4000000000000000000, 0, 1220]), (.aload_n 0, []), (.iload 7, []), (.invokevirtual 168, [63, 2, 0, 1027]), (.i2l, []), (.lsub, []), (.lreturn, [])]))
def b_X6_spoons_1 : ABlk := (37, ([true, true, true, true, true, true, true, false, false, false, false, false], [(.iconst 0, []), (.istore 8, []), (.nop, [2])]))
def b_X6_spoons_2 : ABlk := (40, ([true, true, true, true, true, true, true, false, true, false, false, false], [(.iload 8, []), (.bipush 20, []), (.if_icmp .gt 26, [5]), (.aload_n 0, []), (.getfield 76, [1, 6, 35, 20, 0, 909]), (.iload 8, []), (.iload 8, []), (.ifCond .ne 7, [3]), (.iconst 1, []), (.goto 4, [4])]))
def b_X6_spoons_3 : ABlk := (62, ([true, true, true, true, true, true, true, false, true, false, false, false], [(.iconst 0, []), (.nop, [4])]))
def b_X6_spoons_4 : ABlk := (63, ([true, true, true, true, true, true, true, false, true, false, false, false], [(.iastore, []), (.iinc 8 1, []), (.goto (-27), [2])]))
def b_X6_spoons_5 : ABlk := (70, ([true, true, true, true, true, true, true, false, false, false, false, false], [(.iconst 0, []), (.istore 8, []), (.nop, [6])]))
def b_X6_spoons_6 : ABlk := (73, ([true, true, true, true, true, true, true, false, true, false, false, false], [(.iload 8, []), (.iload_n 2, []), (.if_icmp .ge 43, [9]), (.bipush 20, []), (.istore 9, []), (.nop, [7])]))
def b_X6_spoons_7 : ABlk := (83, ([true, true, true, true, true, true, true, false, true, true, false, false], [(.iload 9, []), (.ifCond .le 28, [8]), (.aload_n 0, []), (.getfield 76, [1, 6, 35, 20, 0, 909]), (.iload 9, []), (.dup2, []), (.iaload, []), (.aload_n 0, []), (.getfield 76, [1, 6, 35, 20, 0, 909]), (.iload 9, []), (.iconst 1, []), (.isub, []), (.iaload, []), (.iadd, []), (.iastore, []), (.iinc 9 (-1), []), (.goto (-27), [7])]))
def b_X6_spoons_8 : ABlk := (113, ([true, true, true, true, true, true, true, false, true, false, false, false], [(.iinc 8 1, []), (.goto (-43), [6])]))
def b_X6_spoons_9 : ABlk := (119, ([true, true, true, true, true, true, true, false, false, false, false, false], [(.iconst 0, []), (.istore 8, []), (.iconst 0, []), (.istore 9, []), (.nop, [10])]))
def b_X6_spoons_10 : ABlk := (125, ([true, true, true, true, true, true, true, false, true, true, false, false], [(.iload 9, []), (.iload_n 2, []), (.if_icmp .gt 89, [17]), (.aload_n 0, []), (.getfield 32, [1, 6, 11, 6, 0, 885]), (.iload_n 1, []), (.iaload, []), (.iload 9, []), (.iload_n 3, []), (.imul, []), (.iadd, []), (.iload_n 2, []), (.iload 9, []), (.isub, []), (.iload 4, []), (.imul, []), (.iadd, []), (.istore 10, []), (.iload 10, []), (.ifCond .ne 18, [12]), (.iload 5, []), (.bipush 12, []), (.if_icmp .ne 7, [11]), (.iconst 1, []), (.goto 23, [14])]))
def b_X6_spoons_11 : ABlk := (168, ([true, true, true, true, true, true, true, false, true, true, false, false], [(.iconst 0, []), (.goto 19, [14])]))
def b_X6_spoons_12 : ABlk := (172, ([true, true, true, true, true, true, true, false, true, true, true, false], [(.aload_n 0, []), (.iload 10, []), (.invokevirtual 114, [69, 2, 0, 1116]), (.iload 5, []), (.if_icmp .ne 7, [13]), (.iconst 1, []), (.goto 4, [14])]))
def b_X6_spoons_13 : ABlk := (187, ([true, true, true, true, true, true, true, false, true, true, false, false], [(.iconst 0, []), (.nop, [14])]))
def b_X6_spoons_14 : ABlk := (188, ([true, true, true, true, true, true, true, false, true, true, false, false], [(.istore 11, []), (.iload 8, []), (.iload 11, []), (.ifCond .eq 13, [15]), (.aload_n 0, []), (.getfield 76, [1, 6, 35, 20, 0, 909]), (.iload 9, []), (.iaload, []), (.goto 4, [16])]))
def b_X6_spoons_15 : ABlk := (207, ([true, true, true, true, true, true, true, false, false, true, false, false], [(.iconst 0, []), (.nop, [16])]))
def b_X6_spoons_16 : ABlk := (208, ([true, true, true, true, true, true, true, false, false, true, false, false], [(.iadd, []), (.istore 8, []), (.iinc 9 1, []), (.goto (-89), [10])]))
def b_X6_spoons_17 : ABlk := (217, ([false, false, true, false, false, false, true, false, true, false, false, false], [(.iload 8, []), (.iconst 1, []), (.iload_n 2, []), (.ishl, []), (.iload 6, []), (.invokestatic 307, [125, 3, 0, 1271]), (.lreturn, [])]))
def k_X6_spoons : List ABlk := [b_X6_spoons_0, b_X6_spoons_1, b_X6_spoons_2, b_X6_spoons_3, b_X6_spoons_4, b_X6_spoons_5, b_X6_spoons_6, b_X6_spoons_7, b_X6_spoons_8, b_X6_spoons_9, b_X6_spoons_10, b_X6_spoons_11, b_X6_spoons_12, b_X6_spoons_13, b_X6_spoons_14, b_X6_spoons_15, b_X6_spoons_16, b_X6_spoons_17]
def md_X6_spoons : MDat := (yX6_spoons, (cX6_spoons, (12, (some .long, (false, (6, (6, ([1266, 1264, 1265, 124], k_X6_spoons))))))))
def n_X6_spoons : Nat := 127
def b_X6_haveBy_0 : ABlk := (0, ([true, true, false, false], [(.iconst 0, []), (.istore_n 2, []), (.iconst 0, []), (.istore_n 3, []), (.nop, [1])]))
def b_X6_haveBy_1 : ABlk := (4, ([true, true, true, true], [(.iload_n 3, []), (.aload_n 0, []), (.getfield 107, [0, 6, 1, 0, 875]), (.if_icmp .ge 54, [4]), (.iload_n 2, []), (.aload_n 0, []), (.getfield 32, [1, 6, 11, 6, 0, 885]), (.iload_n 3, []), (.iaload, []), (.ifCond .le 35, [2]), (.aload_n 0, []), (.getfield 20, [1, 6, 7, 2, 0, 881]), (.iconst 0, []), (.iaload, []), (.iload_n 1, []), (.irem, []), (.aload_n 0, []), (.getfield 32, [1, 6, 11, 6, 0, 885]), (.iload_n 3, []), (.iaload, []), (.iadd, []), (.iconst 1, []), (.isub, []), (.iload_n 1, []), (.irem, []), (.aload_n 0, []), (.getfield 29, [1, 6, 10, 5, 0, 884]), (.iload_n 3, []), (.iaload, []), (.if_icmp .ne 7, [2]), (.iconst 1, []), (.goto 4, [3])]))
def b_X6_haveBy_2 : ABlk := (54, ([true, true, false, true], [(.iconst 0, []), (.nop, [3])]))
def b_X6_haveBy_3 : ABlk := (55, ([true, true, false, true], [(.iadd, []), (.istore_n 2, []), (.iinc 3 1, []), (.goto (-56), [1])]))
def b_X6_haveBy_4 : ABlk := (63, ([false, false, true, false], [(.iload_n 2, []), (.ireturn, [])]))
def k_X6_haveBy : List ABlk := [b_X6_haveBy_0, b_X6_haveBy_1, b_X6_haveBy_2, b_X6_haveBy_3, b_X6_haveBy_4]
def md_X6_haveBy : MDat := (yX6_haveBy, (cX6_haveBy, (4, (some .int, (false, (1, (6, ([1284, 1283, 99, 124], k_X6_haveBy))))))))
def n_X6_haveBy : Nat := 128
def b_X6_fair_0 : ABlk := (0, ([true, true, false, false, false], [(.aload_n 0, []), (.iconst 0, []), (.putfield 97, [0, 6, 12, 0, 886]), (.iload_n 1, []), (.i2l, []), (.lconst 0, []), (.lconst 1, []), (.invokestatic 103, [62, 3, 0, 1057]), (.ifCond .ne 8, [1]), (.bipush (-2), []), (.goto 16, [3])]))
def b_X6_fair_1 : ABlk := (20, ([true, true, false, false, false], [(.aload_n 0, []), (.getfield 100, [0, 6, 0, 0, 874]), (.ifCond .ne 8, [2]), (.bipush (-3), []), (.goto 4, [3])]))
def b_X6_fair_2 : ABlk := (32, ([true, true, false, false, false], [(.iconst 0, []), (.nop, [3])]))
def b_X6_fair_3 : ABlk := (33, ([true, true, false, false, false], [(.istore_n 2, []), (.iload_n 2, []), (.ifCond .ge 9, [4]), (.aload_n 0, []), (.iload_n 2, []), (.invokevirtual 168, [63, 2, 0, 1027]), (.ireturn, [])]))
def b_X6_fair_4 : ABlk := (44, ([true, true, false, false, false], [(.iconst 2, []), (.istore_n 3, []), (.iconst 3, []), (.istore 4, []), (.nop, [5])]))
def b_X6_fair_5 : ABlk := (49, ([true, true, false, true, true], [(.iload 4, []), (.bipush 12, []), (.if_icmp .gt 30, [8]), (.aload_n 0, []), (.iload 4, []), (.invokevirtual 311, [128, 2, 0, 1281]), (.aload_n 0, []), (.iload_n 3, []), (.invokevirtual 311, [128, 2, 0, 1281]), (.if_icmp .le 8, [6]), (.iload 4, []), (.goto 4, [7])]))
def b_X6_fair_6 : ABlk := (75, ([true, true, false, true, true], [(.iload_n 3, []), (.nop, [7])]))
def b_X6_fair_7 : ABlk := (76, ([true, true, false, false, true], [(.istore_n 3, []), (.iinc 4 1, []), (.goto (-31), [5])]))
def b_X6_fair_8 : ABlk := (83, ([true, true, false, true, false], [(.iload_n 1, []), (.ifCond .ne 7, [9]), (.iload_n 3, []), (.goto 8, [10])]))
def b_X6_fair_9 : ABlk := (91, ([true, false, false, true, false], [(.aload_n 0, []), (.iload_n 3, []), (.invokevirtual 311, [128, 2, 0, 1281]), (.nop, [10])]))
def b_X6_fair_10 : ABlk := (96, ([false, false, false, false, false], [(.ireturn, [])]))
def k_X6_fair : List ABlk := [b_X6_fair_0, b_X6_fair_1, b_X6_fair_2, b_X6_fair_3, b_X6_fair_4, b_X6_fair_5, b_X6_fair_6, b_X6_fair_7, b_X6_fair_8, b_X6_fair_9, b_X6_fair_10]
def md_X6_fair : MDat := (yX6_fair, (cX6_fair, (5, (some .int, (false, (1, (6, ([1280, 1278, 1279, 124], k_X6_fair))))))))
def n_X6_fair : Nat := 129
def b_X6_haveAfter_0 : ABlk := (0, ([true, true, true, true, false], [(.aload_n 0, []), (.getfield 32, [1, 6, 11, 6, 0, 885]), (.iload_n 1, []), (.dup2, []), (.iaload, []), (.iload_n 3, []), (.isub, []), (.iastore, []), (.aload_n 0, []), (.getfield 32, [1, 6, 11, 6, 0, 885]), (.iload_n 2, []), (.dup2, []), (.iaload, []), (.iload_n 3, []), (.iadd, []), (.iastore, []), (.aload_n 0, []), (.invokevirtual 260, [77, 1, 0, 1196]), (.invokestatic 281, [67, 1, 0, 1233]), (.istore 4, []), (.aload_n 0, []), (.getfield 32, [1, 6, 11, 6, 0, 885]), (.iload_n 1, []), (.dup2, []), (.iaload, []), (.iload_n 3, []), (.iadd, []), (.iastore, []), (.aload_n 0, []), (.getfield 32, [1, 6, 11, 6, 0, 885]), (.iload_n 2, []), (.dup2, []), (.iaload, []), (.iload_n 3, []), (.isub, []), (.iastore, []), (.iload 4, []), (.ireturn, [])]))
def k_X6_haveAfter : List ABlk := [b_X6_haveAfter_0]
def md_X6_haveAfter : MDat := (yX6_haveAfter, (cX6_haveAfter, (5, (some .int, (false, (3, (6, ([1292, 1291, 100, 124], k_X6_haveAfter))))))))
def n_X6_haveAfter : Nat := 130
def b_X6_gift_0 : ABlk := (0, ([true, false, false, false, false, false, false, false], [(.aload_n 0, []), (.iconst 0, []), (.putfield 97, [0, 6, 12, 0, 886]), (.aload_n 0, []), (.getfield 100, [0, 6, 0, 0, 874]), (.ifCond .ne 10, [1]), (.aload_n 0, []), (.bipush (-3), []), (.invokevirtual 168, [63, 2, 0, 1027]), (.ireturn, [])]))
def b_X6_gift_1 : ABlk := (19, ([true, false, false, false, false, false, false, false], [(.bipush (-9), []), (.istore_n 1, []), (.aload_n 0, []), (.invokevirtual 260, [77, 1, 0, 1196]), (.invokestatic 281, [67, 1, 0, 1233]), (.istore_n 2, []), (.iconst 0, []), (.istore_n 3, []), (.nop, [2])]))
def b_X6_gift_2 : ABlk := (32, ([true, true, true, true, false, false, false, false], [(.iload_n 3, []), (.aload_n 0, []), (.getfield 107, [0, 6, 1, 0, 875]), (.if_icmp .ge 138, [15]), (.iconst 0, []), (.istore 4, []), (.nop, [3])]))
def b_X6_gift_3 : ABlk := (43, ([true, true, true, true, true, false, false, false], [(.iload 4, []), (.aload_n 0, []), (.getfield 107, [0, 6, 1, 0, 875]), (.if_icmp .ge 120, [14]), (.iconst 1, []), (.istore 5, []), (.nop, [4])]))
def b_X6_gift_4 : ABlk := (55, ([true, true, true, true, true, true, false, false], [(.iload 5, []), (.iconst 4, []), (.if_icmp .ge 105, [13]), (.iload_n 3, []), (.iload 4, []), (.if_icmp .eq 33, [5]), (.aload_n 0, []), (.getfield 32, [1, 6, 11, 6, 0, 885]), (.iload_n 3, []), (.iaload, []), (.iload 5, []), (.if_icmp .lt 22, [5]), (.aload_n 0, []), (.getfield 32, [1, 6, 11, 6, 0, 885]), (.iload 4, []), (.iaload, []), (.iload 5, []), (.iadd, []), (.bipush 100, []), (.if_icmp .ge 7, [5]), (.iconst 1, []), (.goto 4, [6])]))
def b_X6_gift_5 : ABlk := (97, ([true, true, true, true, true, true, false, false], [(.iconst 0, []), (.nop, [6])]))
def b_X6_gift_6 : ABlk := (98, ([true, true, true, true, true, true, false, false], [(.istore 6, []), (.iload 6, []), (.ifCond .eq 15, [7]), (.aload_n 0, []), (.iload_n 3, []), (.iload 4, []), (.iload 5, []), (.invokevirtual 314, [130, 4, 0, 1289]), (.goto 4, [8])]))
def b_X6_gift_7 : ABlk := (117, ([true, true, true, true, true, true, false, false], [(.iconst 0, []), (.nop, [8])]))
def b_X6_gift_8 : ABlk := (118, ([true, true, true, true, true, true, false, false], [(.istore 7, []), (.iload 7, []), (.iload_n 2, []), (.if_icmp .le 19, [9]), (.bipush 100, []), (.iload_n 3, []), (.imul, []), (.bipush 10, []), (.iload 4, []), (.imul, []), (.iadd, []), (.iload 5, []), (.iadd, []), (.goto 4, [10])]))
def b_X6_gift_9 : ABlk := (142, ([true, true, true, true, true, true, false, true], [(.iload_n 1, []), (.nop, [10])]))
def b_X6_gift_10 : ABlk := (143, ([true, false, true, true, true, true, false, true], [(.istore_n 1, []), (.iload 7, []), (.iload_n 2, []), (.if_icmp .le 8, [11]), (.iload 7, []), (.goto 4, [12])]))
def b_X6_gift_11 : ABlk := (155, ([true, true, true, true, true, true, false, false], [(.iload_n 2, []), (.nop, [12])]))
def b_X6_gift_12 : ABlk := (156, ([true, true, false, true, true, true, false, false], [(.istore_n 2, []), (.iinc 5 1, []), (.goto (-105), [4])]))
def b_X6_gift_13 : ABlk := (163, ([true, true, true, true, true, false, false, false], [(.iinc 4 1, []), (.goto (-123), [3])]))
def b_X6_gift_14 : ABlk := (169, ([true, true, true, true, false, false, false, false], [(.iinc 3 1, []), (.goto (-140), [2])]))
def b_X6_gift_15 : ABlk := (175, ([false, true, false, false, false, false, false, false], [(.iload_n 1, []), (.ireturn, [])]))
def k_X6_gift : List ABlk := [b_X6_gift_0, b_X6_gift_1, b_X6_gift_2, b_X6_gift_3, b_X6_gift_4, b_X6_gift_5, b_X6_gift_6, b_X6_gift_7, b_X6_gift_8, b_X6_gift_9, b_X6_gift_10, b_X6_gift_11, b_X6_gift_12, b_X6_gift_13, b_X6_gift_14, b_X6_gift_15]
def md_X6_gift : MDat := (yX6_gift, (cX6_gift, (8, (some .int, (false, (0, (6, ([1288, 1286, 1287, 124], k_X6_gift))))))))
def n_X6_gift : Nat := 131
def b_X6_wrongPetals_0 : ABlk := (0, ([true, true], [(.aload_n 0, []), (.iload_n 1, []), (.invokevirtual 246, [65, 2, 0, 1151]), (.ifCond .ne 7, [1]), (.iconst (-1), []), (.goto 25, [4])]))
def b_X6_wrongPetals_1 : ABlk := (12, ([true, false], [(.aload_n 0, []), (.getfield 263, [0, 6, 43, 0, 917]), (.bipush 12, []), (.if_icmp .lt 10, [2]), (.aload_n 0, []), (.getfield 100, [0, 6, 0, 0, 874]), (.ifCond .ne 8, [3]), (.nop, [2])]))
def b_X6_wrongPetals_2 : ABlk := (28, ([false, false], [(.bipush (-3), []), (.goto 4, [4])]))
def b_X6_wrongPetals_3 : ABlk := (33, ([false, false], [(.iconst 0, []), (.nop, [4])]))
def b_X6_wrongPetals_4 : ABlk := (34, ([false, false], [(.ireturn, [])]))
def k_X6_wrongPetals : List ABlk := [b_X6_wrongPetals_0, b_X6_wrongPetals_1, b_X6_wrongPetals_2, b_X6_wrongPetals_3, b_X6_wrongPetals_4]
def md_X6_wrongPetals : MDat := (yX6_wrongPetals, (cX6_wrongPetals, (2, (some .int, (false, (1, (6, ([1300, 1299, 101, 124], k_X6_wrongPetals))))))))
def n_X6_wrongPetals : Nat := 132
def b_X6_weightBy_0 : ABlk := (0, ([true, true, true, false, false], [(.iconst 0, []), (.istore_n 3, []), (.iconst 1, []), (.istore 4, []), (.nop, [1])]))
def b_X6_weightBy_1 : ABlk := (5, ([true, true, true, true, true], [(.iload 4, []), (.bipush 12, []), (.if_icmp .gt 47, [4]), (.iload_n 3, []), (.iload_n 2, []), (.iload 4, []), (.iadd, []), (.iconst 1, []), (.isub, []), (.aload_n 0, []), (.getfield 16, [1, 6, 6, 1, 0, 880]), (.iconst 0, []), (.iaload, []), (.irem, []), (.aload_n 0, []), (.getfield 29, [1, 6, 10, 5, 0, 884]), (.iload_n 1, []), (.iaload, []), (.if_icmp .ne 15, [2]), (.aload_n 0, []), (.getfield 94, [1, 6, 42, 26, 0, 916]), (.iload 4, []), (.iconst 1, []), (.isub, []), (.iaload, []), (.goto 4, [3])]))
def b_X6_weightBy_2 : ABlk := (47, ([true, true, true, false, true], [(.iconst 0, []), (.nop, [3])]))
def b_X6_weightBy_3 : ABlk := (48, ([true, true, true, false, true], [(.iadd, []), (.istore_n 3, []), (.iinc 4 1, []), (.goto (-48), [1])]))
def b_X6_weightBy_4 : ABlk := (56, ([false, false, false, true, false], [(.iload_n 3, []), (.ireturn, [])]))
def k_X6_weightBy : List ABlk := [b_X6_weightBy_0, b_X6_weightBy_1, b_X6_weightBy_2, b_X6_weightBy_3, b_X6_weightBy_4]
def md_X6_weightBy : MDat := (yX6_weightBy, (cX6_weightBy, (5, (some .int, (false, (2, (6, ([1308, 1307, 103, 124], k_X6_weightBy))))))))
def n_X6_weightBy : Nat := 133
def b_X6_bestWord_0 : ABlk := (0, ([true, true, false, false], [(.iconst 0, []), (.istore_n 2, []), (.iconst 1, []), (.istore_n 3, []), (.nop, [1])]))
def b_X6_bestWord_1 : ABlk := (4, ([true, true, true, true], [(.iload_n 3, []), (.aload_n 0, []), (.getfield 16, [1, 6, 6, 1, 0, 880]), (.iconst 0, []), (.iaload, []), (.if_icmp .ge 30, [4]), (.aload_n 0, []), (.iload_n 1, []), (.iload_n 3, []), (.invokevirtual 317, [133, 3, 0, 1305]), (.aload_n 0, []), (.iload_n 1, []), (.iload_n 2, []), (.invokevirtual 317, [133, 3, 0, 1305]), (.if_icmp .le 7, [2]), (.iload_n 3, []), (.goto 4, [3])]))
def b_X6_bestWord_2 : ABlk := (33, ([true, true, true, true], [(.iload_n 2, []), (.nop, [3])]))
def b_X6_bestWord_3 : ABlk := (34, ([true, true, false, true], [(.istore_n 2, []), (.iinc 3 1, []), (.goto (-34), [1])]))
def b_X6_bestWord_4 : ABlk := (41, ([false, false, true, false], [(.iload_n 2, []), (.ireturn, [])]))
def k_X6_bestWord : List ABlk := [b_X6_bestWord_0, b_X6_bestWord_1, b_X6_bestWord_2, b_X6_bestWord_3, b_X6_bestWord_4]
def md_X6_bestWord : MDat := (yX6_bestWord, (cX6_bestWord, (4, (some .int, (false, (1, (6, ([1304, 1303, 102, 124], k_X6_bestWord))))))))
def n_X6_bestWord : Nat := 134
def b_X6_petals_0 : ABlk := (0, ([true, true], [(.aload_n 0, []), (.iconst 0, []), (.putfield 97, [0, 6, 12, 0, 886]), (.aload_n 0, []), (.iload_n 1, []), (.invokevirtual 320, [132, 2, 0, 1297]), (.ifCond .ge 15, [1]), (.aload_n 0, []), (.aload_n 0, []), (.iload_n 1, []), (.invokevirtual 320, [132, 2, 0, 1297]), (.invokevirtual 168, [63, 2, 0, 1027]), (.goto 8, [2])]))
def b_X6_petals_1 : ABlk := (25, ([true, true], [(.aload_n 0, []), (.iload_n 1, []), (.invokevirtual 323, [134, 2, 0, 1301]), (.nop, [2])]))
def b_X6_petals_2 : ABlk := (30, ([false, false], [(.ireturn, [])]))
def k_X6_petals : List ABlk := [b_X6_petals_0, b_X6_petals_1, b_X6_petals_2]
def md_X6_petals : MDat := (yX6_petals, (cX6_petals, (2, (some .int, (false, (1, (6, ([1296, 1294, 1295, 124], k_X6_petals))))))))
def n_X6_petals : Nat := 135
def b_X6_petal_0 : ABlk := (0, ([true, true, true, false, false, false], [(.aload_n 0, []), (.iconst 0, []), (.putfield 97, [0, 6, 12, 0, 886]), (.aload_n 0, []), (.iload_n 1, []), (.invokevirtual 320, [132, 2, 0, 1297]), (.istore_n 3, []), (.iload_n 3, []), (.ifCond .ne 18, [1]), (.iload_n 2, []), (.i2l, []), (.lconst 0, []), (.lconst 1, []), (.invokestatic 103, [62, 3, 0, 1057]), (.ifCond .ne 8, [1]), (.bipush (-2), []), (.goto 4, [2])]))
def b_X6_petal_1 : ABlk := (30, ([true, true, true, true, false, false], [(.iload_n 3, []), (.nop, [2])]))
def b_X6_petal_2 : ABlk := (31, ([true, true, true, false, false, false], [(.istore_n 3, []), (.iload_n 3, []), (.ifCond .ge 14, [3]), (.ldc2_w 272, [4000000000000000000, 0, 1220]), (.aload_n 0, []), (.iload_n 3, []), (.invokevirtual 168, [63, 2, 0, 1027]), (.i2l, []), (.lsub, []), (.lreturn, [])]))
def b_X6_petal_3 : ABlk := (47, ([true, true, true, false, false, false], [(.iconst 0, []), (.istore 4, []), (.iconst 0, []), (.istore 5, []), (.nop, [4])]))
def b_X6_petal_4 : ABlk := (53, ([true, true, true, false, true, true], [(.iload 5, []), (.bipush 12, []), (.if_icmp .ge 21, [5]), (.iload 4, []), (.aload_n 0, []), (.getfield 94, [1, 6, 42, 26, 0, 916]), (.iload 5, []), (.iaload, []), (.iadd, []), (.istore 4, []), (.iinc 5 1, []), (.goto (-22), [4])]))
def b_X6_petal_5 : ABlk := (78, ([true, true, true, false, true, false], [(.aload_n 0, []), (.iload_n 1, []), (.aload_n 0, []), (.iload_n 1, []), (.invokevirtual 323, [134, 2, 0, 1301]), (.invokevirtual 317, [133, 3, 0, 1305]), (.iload 4, []), (.iload_n 2, []), (.invokestatic 307, [125, 3, 0, 1271]), (.lreturn, [])]))
def k_X6_petal : List ABlk := [b_X6_petal_0, b_X6_petal_1, b_X6_petal_2, b_X6_petal_3, b_X6_petal_4, b_X6_petal_5]
def md_X6_petal : MDat := (yX6_petal, (cX6_petal, (6, (some .long, (false, (2, (6, ([1312, 1310, 1311, 124], k_X6_petal))))))))
def n_X6_petal : Nat := 136
def b_X6_best_0 : ABlk := (0, ([true, true, false, false], [(.aload_n 0, []), (.iconst 0, []), (.putfield 97, [0, 6, 12, 0, 886]), (.aload_n 0, []), (.iload_n 1, []), (.invokevirtual 246, [65, 2, 0, 1151]), (.ifCond .ne 9, [1]), (.aload_n 0, []), (.iconst (-1), []), (.invokevirtual 168, [63, 2, 0, 1027]), (.ireturn, [])]))
def b_X6_best_1 : ABlk := (19, ([true, true, false, false], [(.bipush (-9), []), (.istore_n 2, []), (.aload_n 0, []), (.invokevirtual 233, [80, 1, 0, 1068]), (.iconst 0, []), (.istore_n 3, []), (.nop, [2])]))
def b_X6_best_2 : ABlk := (28, ([true, true, true, true], [(.iload_n 3, []), (.bipush 6, []), (.if_icmp .ge 44, [5]), (.iload_n 2, []), (.ifCond .ge 40, [5]), (.aload_n 0, []), (.invokevirtual 239, [81, 1, 0, 1128]), (.aload_n 0, []), (.getfield 23, [1, 6, 8, 3, 0, 882]), (.iload_n 1, []), (.iload_n 3, []), (.iastore, []), (.aload_n 0, []), (.invokevirtual 257, [76, 1, 0, 1192]), (.pop, []), (.aload_n 0, []), (.iload_n 1, []), (.invokevirtual 141, [71, 2, 0, 1156]), (.ifCond .eq 7, [3]), (.iload_n 3, []), (.goto 5, [4])]))
def b_X6_best_3 : ABlk := (66, ([true, true, false, true], [(.bipush (-9), []), (.nop, [4])]))
def b_X6_best_4 : ABlk := (68, ([true, true, false, true], [(.istore_n 2, []), (.iinc 3 1, []), (.goto (-44), [2])]))
def b_X6_best_5 : ABlk := (75, ([true, false, true, false], [(.aload_n 0, []), (.invokevirtual 239, [81, 1, 0, 1128]), (.iload_n 2, []), (.ireturn, [])]))
def k_X6_best : List ABlk := [b_X6_best_0, b_X6_best_1, b_X6_best_2, b_X6_best_3, b_X6_best_4, b_X6_best_5]
def md_X6_best : MDat := (yX6_best, (cX6_best, (4, (some .int, (false, (1, (6, ([1316, 1314, 1315, 124], k_X6_best))))))))
def n_X6_best : Nat := 137
def b_X6_areRims_0 : ABlk := (0, ([true, false, false], [(.iconst 1, []), (.istore_n 1, []), (.iconst 0, []), (.istore_n 2, []), (.nop, [1])]))
def b_X6_areRims_1 : ABlk := (4, ([true, true, true], [(.iload_n 2, []), (.aload_n 0, []), (.getfield 107, [0, 6, 1, 0, 875]), (.if_icmp .ge 34, [4]), (.iload_n 1, []), (.ifCond .eq 22, [2]), (.aload_n 0, []), (.getfield 32, [1, 6, 11, 6, 0, 885]), (.iload_n 2, []), (.iaload, []), (.aload_n 0, []), (.getfield 94, [1, 6, 42, 26, 0, 916]), (.iload_n 2, []), (.iaload, []), (.if_icmp .ne 7, [2]), (.iconst 1, []), (.goto 4, [3])]))
def b_X6_areRims_2 : ABlk := (35, ([true, false, true], [(.iconst 0, []), (.nop, [3])]))
def b_X6_areRims_3 : ABlk := (36, ([true, false, true], [(.istore_n 1, []), (.iinc 2 1, []), (.goto (-36), [1])]))
def b_X6_areRims_4 : ABlk := (43, ([false, true, false], [(.iload_n 1, []), (.ireturn, [1])]))
def k_X6_areRims : List ABlk := [b_X6_areRims_0, b_X6_areRims_1, b_X6_areRims_2, b_X6_areRims_3, b_X6_areRims_4]
def md_X6_areRims : MDat := (yX6_areRims, (cX6_areRims, (3, (some .boolean, (false, (0, (6, ([1324, 1323, 104, 124], k_X6_areRims))))))))
def n_X6_areRims : Nat := 138
def b_X6_rims_0 : ABlk := (0, ([true, false, false], [(.aload_n 0, []), (.iconst 0, []), (.putfield 97, [0, 6, 12, 0, 886]), (.aload_n 0, []), (.getfield 107, [0, 6, 1, 0, 875]), (.ifCond .eq 14, [1]), (.aload_n 0, []), (.getfield 263, [0, 6, 43, 0, 917]), (.aload_n 0, []), (.getfield 107, [0, 6, 1, 0, 875]), (.if_icmp .eq 10, [2]), (.nop, [1])]))
def b_X6_rims_1 : ABlk := (23, ([true, false, false], [(.aload_n 0, []), (.bipush (-3), []), (.invokevirtual 168, [63, 2, 0, 1027]), (.ireturn, [])]))
def b_X6_rims_2 : ABlk := (30, ([true, false, false], [(.iconst 0, []), (.istore_n 1, []), (.aload_n 0, []), (.invokevirtual 233, [80, 1, 0, 1068]), (.iconst 0, []), (.istore_n 2, []), (.nop, [3])]))
def b_X6_rims_3 : ABlk := (38, ([true, true, true], [(.iload_n 2, []), (.aload_n 0, []), (.getfield 107, [0, 6, 1, 0, 875]), (.if_icmp .ge 40, [6]), (.aload_n 0, []), (.invokevirtual 239, [81, 1, 0, 1128]), (.aload_n 0, []), (.iload_n 2, []), (.putfield 132, [0, 6, 5, 0, 879]), (.aload_n 0, []), (.invokevirtual 257, [76, 1, 0, 1192]), (.pop, []), (.iload_n 1, []), (.aload_n 0, []), (.invokevirtual 326, [138, 1, 0, 1321]), (.ifCond .eq 9, [4]), (.iconst 1, []), (.iload_n 2, []), (.ishl, []), (.goto 4, [5])]))
def b_X6_rims_4 : ABlk := (74, ([true, false, true], [(.iconst 0, []), (.nop, [5])]))
def b_X6_rims_5 : ABlk := (75, ([true, false, true], [(.ior, []), (.istore_n 1, []), (.iinc 2 1, []), (.goto (-42), [3])]))
def b_X6_rims_6 : ABlk := (83, ([true, true, false], [(.aload_n 0, []), (.invokevirtual 239, [81, 1, 0, 1128]), (.iload_n 1, []), (.ireturn, [])]))
def k_X6_rims : List ABlk := [b_X6_rims_0, b_X6_rims_1, b_X6_rims_2, b_X6_rims_3, b_X6_rims_4, b_X6_rims_5, b_X6_rims_6]
def md_X6_rims : MDat := (yX6_rims, (cX6_rims, (3, (some .int, (false, (0, (6, ([1320, 1318, 1319, 124], k_X6_rims))))))))
def n_X6_rims : Nat := 139
def b_X6_wished_0 : ABlk := (0, ([true, true, false, false, false], [(.aload_n 0, []), (.iconst 0, []), (.putfield 97, [0, 6, 12, 0, 886]), (.aload_n 0, []), (.iload_n 1, []), (.invokevirtual 246, [65, 2, 0, 1151]), (.ifCond .ne 7, [1]), (.iconst (-1), []), (.goto 20, [3])]))
def b_X6_wished_1 : ABlk := (17, ([true, true, false, false, false], [(.aload_n 0, []), (.getfield 263, [0, 6, 43, 0, 917]), (.aload_n 0, []), (.getfield 107, [0, 6, 1, 0, 875]), (.if_icmp .eq 8, [2]), (.bipush (-3), []), (.goto 4, [3])]))
def b_X6_wished_2 : ABlk := (33, ([true, true, false, false, false], [(.iconst 0, []), (.nop, [3])]))
def b_X6_wished_3 : ABlk := (34, ([true, true, false, false, false], [(.istore_n 2, []), (.iload_n 2, []), (.ifCond .ge 9, [4]), (.aload_n 0, []), (.iload_n 2, []), (.invokevirtual 168, [63, 2, 0, 1027]), (.ireturn, [])]))
def b_X6_wished_4 : ABlk := (45, ([true, true, false, false, false], [(.iconst 0, []), (.istore_n 3, []), (.aload_n 0, []), (.invokevirtual 233, [80, 1, 0, 1068]), (.iconst 0, []), (.istore 4, []), (.nop, [5])]))
def b_X6_wished_5 : ABlk := (54, ([true, true, false, true, true], [(.iload 4, []), (.bipush 12, []), (.if_icmp .ge 52, [8]), (.aload_n 0, []), (.invokevirtual 239, [81, 1, 0, 1128]), (.aload_n 0, []), (.getfield 29, [1, 6, 10, 5, 0, 884]), (.iload_n 1, []), (.iload 4, []), (.iastore, []), (.aload_n 0, []), (.invokevirtual 257, [76, 1, 0, 1192]), (.pop, []), (.iload_n 3, []), (.aload_n 0, []), (.getfield 32, [1, 6, 11, 6, 0, 885]), (.iload_n 1, []), (.iaload, []), (.aload_n 0, []), (.getfield 94, [1, 6, 42, 26, 0, 916]), (.iload_n 1, []), (.iaload, []), (.if_icmp .ne 10, [6]), (.iconst 1, []), (.iload 4, []), (.ishl, []), (.goto 4, [7])]))
def b_X6_wished_6 : ABlk := (101, ([true, true, false, false, true], [(.iconst 0, []), (.nop, [7])]))
def b_X6_wished_7 : ABlk := (102, ([true, true, false, false, true], [(.ior, []), (.istore_n 3, []), (.iinc 4 1, []), (.goto (-53), [5])]))
def b_X6_wished_8 : ABlk := (110, ([true, false, false, true, false], [(.aload_n 0, []), (.invokevirtual 239, [81, 1, 0, 1128]), (.iload_n 3, []), (.ireturn, [])]))
def k_X6_wished : List ABlk := [b_X6_wished_0, b_X6_wished_1, b_X6_wished_2, b_X6_wished_3, b_X6_wished_4, b_X6_wished_5, b_X6_wished_6, b_X6_wished_7, b_X6_wished_8]
def md_X6_wished : MDat := (yX6_wished, (cX6_wished, (5, (some .int, (false, (1, (6, ([1328, 1326, 1327, 124], k_X6_wished))))))))
def n_X6_wished : Nat := 140
def b_X6_cycle_0 : ABlk := (0, ([true, false, false], [(.aload_n 0, []), (.iconst 0, []), (.putfield 97, [0, 6, 12, 0, 886]), (.iconst 1, []), (.istore_n 1, []), (.iconst 0, []), (.istore_n 2, []), (.nop, [1])]))
def b_X6_cycle_1 : ABlk := (9, ([true, true, true], [(.iload_n 2, []), (.aload_n 0, []), (.getfield 100, [0, 6, 0, 0, 874]), (.if_icmp .ge 29, [2]), (.iload_n 1, []), (.iload_n 1, []), (.aload_n 0, []), (.getfield 16, [1, 6, 6, 1, 0, 880]), (.iload_n 2, []), (.iaload, []), (.invokestatic 300, [124, 2, 0, 1274]), (.idiv, []), (.aload_n 0, []), (.getfield 16, [1, 6, 6, 1, 0, 880]), (.iload_n 2, []), (.iaload, []), (.imul, []), (.istore_n 1, []), (.iinc 2 1, []), (.goto (-31), [1])]))
def b_X6_cycle_2 : ABlk := (43, ([false, true, false], [(.iload_n 1, []), (.ireturn, [])]))
def k_X6_cycle : List ABlk := [b_X6_cycle_0, b_X6_cycle_1, b_X6_cycle_2]
def md_X6_cycle : MDat := (yX6_cycle, (cX6_cycle, (3, (some .int, (false, (0, (6, ([1332, 1330, 1331, 124], k_X6_cycle))))))))
def n_X6_cycle : Nat := 141
def b_X6_same_0 : ABlk := (0, ([true, true, true, false], [(.aload_n 0, []), (.iconst 0, []), (.putfield 97, [0, 6, 12, 0, 886]), (.aload_n 0, []), (.iload_n 1, []), (.invokevirtual 214, [64, 2, 0, 1096]), (.ifCond .eq 16, [1]), (.aload_n 0, []), (.iload_n 2, []), (.invokevirtual 214, [64, 2, 0, 1096]), (.ifCond .eq 8, [1]), (.iload_n 1, []), (.iload_n 2, []), (.if_icmp .ne 9, [2]), (.nop, [1])]))
def b_X6_same_1 : ABlk := (26, ([true, false, false, false], [(.aload_n 0, []), (.iconst (-1), []), (.invokevirtual 168, [63, 2, 0, 1027]), (.ireturn, [])]))
def b_X6_same_2 : ABlk := (32, ([true, true, true, false], [(.iconst 1, []), (.istore_n 3, []), (.nop, [3])]))
def b_X6_same_3 : ABlk := (34, ([true, true, true, true], [(.iload_n 3, []), (.aload_n 0, []), (.getfield 16, [1, 6, 6, 1, 0, 880]), (.iload_n 1, []), (.iaload, []), (.aload_n 0, []), (.getfield 16, [1, 6, 6, 1, 0, 880]), (.iload_n 2, []), (.iaload, []), (.imul, []), (.if_icmp .gt 26, [5]), (.aload_n 0, []), (.iload_n 1, []), (.iload_n 3, []), (.invokevirtual 110, [68, 3, 0, 1120]), (.aload_n 0, []), (.iload_n 2, []), (.iload_n 3, []), (.invokevirtual 110, [68, 3, 0, 1120]), (.if_icmp .ne 5, [4]), (.iload_n 3, []), (.ireturn, [])]))
def b_X6_same_4 : ABlk := (68, ([true, true, true, true], [(.iinc 3 1, []), (.goto (-37), [3])]))
def b_X6_same_5 : ABlk := (74, ([false, false, false, false], [(.bipush (-9), []), (.ireturn, [])]))
def k_X6_same : List ABlk := [b_X6_same_0, b_X6_same_1, b_X6_same_2, b_X6_same_3, b_X6_same_4, b_X6_same_5]
def md_X6_same : MDat := (yX6_same, (cX6_same, (4, (some .int, (false, (2, (6, ([1336, 1334, 1335, 124], k_X6_same))))))))
def n_X6_same : Nat := 142
def b_X6_haveWith_0 : ABlk := (0, ([true, true, true, false, false], [(.iconst 0, []), (.istore_n 3, []), (.iconst 0, []), (.istore 4, []), (.nop, [1])]))
def b_X6_haveWith_1 : ABlk := (5, ([true, true, true, true, true], [(.iload 4, []), (.aload_n 0, []), (.getfield 107, [0, 6, 1, 0, 875]), (.if_icmp .ge 50, [4]), (.iload_n 3, []), (.aload_n 0, []), (.getfield 32, [1, 6, 11, 6, 0, 885]), (.iload 4, []), (.iaload, []), (.ifCond .le 30, [2]), (.iload_n 2, []), (.aload_n 0, []), (.getfield 32, [1, 6, 11, 6, 0, 885]), (.iload 4, []), (.iaload, []), (.iadd, []), (.iconst 1, []), (.isub, []), (.iload_n 1, []), (.irem, []), (.aload_n 0, []), (.getfield 29, [1, 6, 10, 5, 0, 884]), (.iload 4, []), (.iaload, []), (.if_icmp .ne 7, [2]), (.iconst 1, []), (.goto 4, [3])]))
def b_X6_haveWith_2 : ABlk := (52, ([true, true, true, false, true], [(.iconst 0, []), (.nop, [3])]))
def b_X6_haveWith_3 : ABlk := (53, ([true, true, true, false, true], [(.iadd, []), (.istore_n 3, []), (.iinc 4 1, []), (.goto (-53), [1])]))
def b_X6_haveWith_4 : ABlk := (61, ([false, false, false, true, false], [(.iload_n 3, []), (.ireturn, [])]))
def k_X6_haveWith : List ABlk := [b_X6_haveWith_0, b_X6_haveWith_1, b_X6_haveWith_2, b_X6_haveWith_3, b_X6_haveWith_4]
def md_X6_haveWith : MDat := (yX6_haveWith, (cX6_haveWith, (5, (some .int, (false, (2, (6, ([1344, 1343, 105, 124], k_X6_haveWith))))))))
def n_X6_haveWith : Nat := 143
def b_X6_rhymed_0 : ABlk := (0, ([true, true, false, false, false, false, false], [(.aload_n 0, []), (.iconst 0, []), (.putfield 97, [0, 6, 12, 0, 886]), (.iload_n 1, []), (.i2l, []), (.lconst 0, []), (.lconst 1, []), (.invokestatic 103, [62, 3, 0, 1057]), (.ifCond .ne 10, [1]), (.aload_n 0, []), (.bipush (-2), []), (.invokevirtual 168, [63, 2, 0, 1027]), (.ireturn, [])]))
def b_X6_rhymed_1 : ABlk := (22, ([true, true, false, false, false, false, false], [(.sipush 200, []), (.istore_n 2, []), (.aload_n 0, []), (.iconst 2, []), (.iconst 0, []), (.invokevirtual 330, [143, 3, 0, 1341]), (.istore_n 3, []), (.iconst 2, []), (.istore 4, []), (.nop, [2])]))
def b_X6_rhymed_2 : ABlk := (36, ([true, true, true, true, true, false, false], [(.iload 4, []), (.bipush 12, []), (.if_icmp .gt 67, [9]), (.iconst 0, []), (.istore 5, []), (.nop, [3])]))
def b_X6_rhymed_3 : ABlk := (46, ([true, true, true, true, true, true, false], [(.iload 5, []), (.iload 4, []), (.if_icmp .ge 51, [8]), (.aload_n 0, []), (.iload 4, []), (.iload 5, []), (.invokevirtual 330, [143, 3, 0, 1341]), (.istore 6, []), (.iload 6, []), (.iload_n 3, []), (.if_icmp .le 14, [4]), (.bipush 100, []), (.iload 4, []), (.imul, []), (.iload 5, []), (.iadd, []), (.goto 4, [5])]))
def b_X6_rhymed_4 : ABlk := (80, ([true, true, true, true, true, true, true], [(.iload_n 2, []), (.nop, [5])]))
def b_X6_rhymed_5 : ABlk := (81, ([true, true, false, true, true, true, true], [(.istore_n 2, []), (.iload 6, []), (.iload_n 3, []), (.if_icmp .le 8, [6]), (.iload 6, []), (.goto 4, [7])]))
def b_X6_rhymed_6 : ABlk := (93, ([true, true, true, true, true, true, false], [(.iload_n 3, []), (.nop, [7])]))
def b_X6_rhymed_7 : ABlk := (94, ([true, true, true, false, true, true, false], [(.istore_n 3, []), (.iinc 5 1, []), (.goto (-52), [3])]))
def b_X6_rhymed_8 : ABlk := (101, ([true, true, true, true, true, false, false], [(.iinc 4 1, []), (.goto (-68), [2])]))
def b_X6_rhymed_9 : ABlk := (107, ([false, true, true, true, false, false, false], [(.iload_n 1, []), (.ifCond .ne 7, [10]), (.iload_n 2, []), (.goto 4, [11])]))
def b_X6_rhymed_10 : ABlk := (115, ([false, false, false, true, false, false, false], [(.iload_n 3, []), (.nop, [11])]))
def b_X6_rhymed_11 : ABlk := (116, ([false, false, false, false, false, false, false], [(.ireturn, [])]))
def k_X6_rhymed : List ABlk := [b_X6_rhymed_0, b_X6_rhymed_1, b_X6_rhymed_2, b_X6_rhymed_3, b_X6_rhymed_4, b_X6_rhymed_5, b_X6_rhymed_6, b_X6_rhymed_7, b_X6_rhymed_8, b_X6_rhymed_9, b_X6_rhymed_10, b_X6_rhymed_11]
def md_X6_rhymed : MDat := (yX6_rhymed, (cX6_rhymed, (7, (some .int, (false, (1, (6, ([1340, 1338, 1339, 124], k_X6_rhymed))))))))
def n_X6_rhymed : Nat := 144
def b_X6_givesToo_0 : ABlk := (0, ([true, true, false, false, false, false, false], [(.iconst 0, []), (.istore_n 2, []), (.nop, [1])]))
def b_X6_givesToo_1 : ABlk := (2, ([true, true, true, false, false, false, false], [(.iload_n 2, []), (.sipush 397, []), (.if_icmp .ge 138, [10]), (.ldc_w 333, [0, 99999, 0, 1349]), (.istore_n 3, []), (.iconst 0, []), (.istore 4, []), (.nop, [2])]))
def b_X6_givesToo_2 : ABlk := (16, ([true, true, true, true, true, false, false], [(.iload 4, []), (.bipush 100, []), (.if_icmp .ge 111, [9]), (.iload 4, []), (.iload_n 2, []), (.if_icmp .gt 105, [9]), (.aload_n 0, []), (.getfield 32, [1, 6, 11, 6, 0, 885]), (.iload_n 1, []), (.iaload, []), (.iload 4, []), (.if_icmp .le 15, [3]), (.aload_n 0, []), (.getfield 32, [1, 6, 11, 6, 0, 885]), (.iload_n 1, []), (.iaload, []), (.iload 4, []), (.isub, []), (.goto 4, [4])]))
def b_X6_givesToo_3 : ABlk := (52, ([true, true, true, true, true, false, false], [(.iconst 0, []), (.nop, [4])]))
def b_X6_givesToo_4 : ABlk := (53, ([true, true, true, true, true, false, false], [(.istore 5, []), (.aload_n 0, []), (.iload_n 1, []), (.iload 4, []), (.invokevirtual 118, [70, 3, 0, 1112]), (.ifCond .eq 22, [5]), (.aload_n 0, []), (.getfield 79, [1, 6, 36, 21, 0, 910]), (.iload_n 2, []), (.iload 4, []), (.isub, []), (.iaload, []), (.ldc_w 333, [0, 99999, 0, 1349]), (.if_icmp .ge 7, [5]), (.iconst 1, []), (.goto 4, [6])]))
def b_X6_givesToo_5 : ABlk := (84, ([true, true, true, true, true, true, false], [(.iconst 0, []), (.nop, [6])]))
def b_X6_givesToo_6 : ABlk := (85, ([true, true, true, true, true, true, false], [(.istore 6, []), (.iload 6, []), (.ifCond .eq 34, [7]), (.aload_n 0, []), (.getfield 79, [1, 6, 36, 21, 0, 910]), (.iload_n 2, []), (.iload 4, []), (.isub, []), (.iaload, []), (.iload 5, []), (.iadd, []), (.iload_n 3, []), (.if_icmp .ge 18, [7]), (.aload_n 0, []), (.getfield 79, [1, 6, 36, 21, 0, 910]), (.iload_n 2, []), (.iload 4, []), (.isub, []), (.iaload, []), (.iload 5, []), (.iadd, []), (.goto 4, [8])]))
def b_X6_givesToo_7 : ABlk := (123, ([true, true, true, true, true, false, false], [(.iload_n 3, []), (.nop, [8])]))
def b_X6_givesToo_8 : ABlk := (124, ([true, true, true, false, true, false, false], [(.istore_n 3, []), (.iinc 4 1, []), (.goto (-112), [2])]))
def b_X6_givesToo_9 : ABlk := (131, ([true, true, true, true, false, false, false], [(.aload_n 0, []), (.getfield 82, [1, 6, 37, 22, 0, 911]), (.iload_n 2, []), (.iload_n 3, []), (.iastore, []), (.iinc 2 1, []), (.goto (-139), [1])]))
def b_X6_givesToo_10 : ABlk := (144, ([true, false, false, false, false, false, false], [(.iconst 0, []), (.istore_n 2, []), (.nop, [11])]))
def b_X6_givesToo_11 : ABlk := (146, ([true, false, true, false, false, false, false], [(.iload_n 2, []), (.sipush 397, []), (.if_icmp .ge 21, [12]), (.aload_n 0, []), (.getfield 79, [1, 6, 36, 21, 0, 910]), (.iload_n 2, []), (.aload_n 0, []), (.getfield 82, [1, 6, 37, 22, 0, 911]), (.iload_n 2, []), (.iaload, []), (.iastore, []), (.iinc 2 1, []), (.goto (-22), [11])]))
def b_X6_givesToo_12 : ABlk := (171, ([false, false, false, false, false, false, false], [(.return_, [])]))
def k_X6_givesToo : List ABlk := [b_X6_givesToo_0, b_X6_givesToo_1, b_X6_givesToo_2, b_X6_givesToo_3, b_X6_givesToo_4, b_X6_givesToo_5, b_X6_givesToo_6, b_X6_givesToo_7, b_X6_givesToo_8, b_X6_givesToo_9, b_X6_givesToo_10, b_X6_givesToo_11, b_X6_givesToo_12]
def md_X6_givesToo : MDat := (yX6_givesToo, (cX6_givesToo, (7, (none, (false, (1, (6, ([1353, 1352, 106, 124], k_X6_givesToo))))))))
def n_X6_givesToo : Nat := 145
def b_X6_pushes_0 : ABlk := (0, ([true, false, false], [(.aload_n 0, []), (.iconst 0, []), (.putfield 97, [0, 6, 12, 0, 886]), (.aload_n 0, []), (.getfield 100, [0, 6, 0, 0, 874]), (.ifCond .ne 10, [1]), (.aload_n 0, []), (.bipush (-3), []), (.invokevirtual 168, [63, 2, 0, 1027]), (.ireturn, [])]))
def b_X6_pushes_1 : ABlk := (19, ([true, false, false], [(.iconst 0, []), (.istore_n 1, []), (.nop, [2])]))
def b_X6_pushes_2 : ABlk := (21, ([true, true, false], [(.iload_n 1, []), (.sipush 397, []), (.if_icmp .ge 26, [5]), (.aload_n 0, []), (.getfield 79, [1, 6, 36, 21, 0, 910]), (.iload_n 1, []), (.iload_n 1, []), (.ifCond .ne 7, [3]), (.iconst 0, []), (.goto 6, [4])]))
def b_X6_pushes_3 : ABlk := (41, ([true, true, false], [(.ldc_w 333, [0, 99999, 0, 1349]), (.nop, [4])]))
def b_X6_pushes_4 : ABlk := (44, ([true, true, false], [(.iastore, []), (.iinc 1 1, []), (.goto (-27), [2])]))
def b_X6_pushes_5 : ABlk := (51, ([true, false, false], [(.iconst 0, []), (.istore_n 1, []), (.iconst 0, []), (.istore_n 2, []), (.nop, [6])]))
def b_X6_pushes_6 : ABlk := (55, ([true, true, true], [(.iload_n 2, []), (.aload_n 0, []), (.getfield 107, [0, 6, 1, 0, 875]), (.if_icmp .ge 23, [7]), (.aload_n 0, []), (.iload_n 2, []), (.invokevirtual 334, [145, 2, 0, 1350]), (.iload_n 1, []), (.aload_n 0, []), (.getfield 32, [1, 6, 11, 6, 0, 885]), (.iload_n 2, []), (.iaload, []), (.iadd, []), (.istore_n 1, []), (.iinc 2 1, []), (.goto (-25), [6])]))
def b_X6_pushes_7 : ABlk := (83, ([true, true, false], [(.aload_n 0, []), (.getfield 79, [1, 6, 36, 21, 0, 910]), (.iload_n 1, []), (.iaload, []), (.ldc_w 333, [0, 99999, 0, 1349]), (.if_icmp .ge 12, [8]), (.aload_n 0, []), (.getfield 79, [1, 6, 36, 21, 0, 910]), (.iload_n 1, []), (.iaload, []), (.goto 5, [9])]))
def b_X6_pushes_8 : ABlk := (104, ([false, false, false], [(.bipush (-9), []), (.nop, [9])]))
def b_X6_pushes_9 : ABlk := (106, ([false, false, false], [(.ireturn, [])]))
def k_X6_pushes : List ABlk := [b_X6_pushes_0, b_X6_pushes_1, b_X6_pushes_2, b_X6_pushes_3, b_X6_pushes_4, b_X6_pushes_5, b_X6_pushes_6, b_X6_pushes_7, b_X6_pushes_8, b_X6_pushes_9]
def md_X6_pushes : MDat := (yX6_pushes, (cX6_pushes, (3, (some .int, (false, (0, (6, ([1348, 1346, 1347, 124], k_X6_pushes))))))))
def n_X6_pushes : Nat := 146
def b_X6_unknown_0 : ABlk := (0, ([true, true, true, true, true, false, false, false], [(.aload_n 0, []), (.iconst 0, []), (.putfield 97, [0, 6, 12, 0, 886]), (.aload_n 0, []), (.iload_n 1, []), (.invokevirtual 214, [64, 2, 0, 1096]), (.ifCond .eq 21, [1]), (.iload_n 3, []), (.i2l, []), (.lconst 0, []), (.aload_n 0, []), (.getfield 16, [1, 6, 6, 1, 0, 880]), (.iload_n 1, []), (.iaload, []), (.iconst 1, []), (.isub, []), (.i2l, []), (.invokestatic 103, [62, 3, 0, 1057]), (.ifCond .ne 7, [2]), (.nop, [1])]))
def b_X6_unknown_1 : ABlk := (31, ([true, true, true, true, true, false, false, false], [(.iconst (-1), []), (.goto 11, [3])]))
def b_X6_unknown_2 : ABlk := (35, ([true, true, true, true, true, false, false, false], [(.iload_n 2, []), (.iconst 1, []), (.sipush 999, []), (.invokestatic 242, [66, 3, 0, 1144]), (.nop, [3])]))
def b_X6_unknown_3 : ABlk := (43, ([true, true, true, true, true, false, false, false], [(.istore 5, []), (.iload 5, []), (.ifCond .ne 19, [4]), (.iload 4, []), (.i2l, []), (.lconst 0, []), (.lconst 1, []), (.invokestatic 103, [62, 3, 0, 1057]), (.ifCond .ne 8, [4]), (.bipush (-2), []), (.goto 5, [5])]))
def b_X6_unknown_4 : ABlk := (66, ([true, true, true, true, true, true, false, false], [(.iload 5, []), (.nop, [5])]))
def b_X6_unknown_5 : ABlk := (68, ([true, true, true, true, true, false, false, false], [(.istore 5, []), (.iload 5, []), (.ifCond .ge 15, [6]), (.ldc2_w 272, [4000000000000000000, 0, 1220]), (.aload_n 0, []), (.iload 5, []), (.invokevirtual 168, [63, 2, 0, 1027]), (.i2l, []), (.lsub, []), (.lreturn, [])]))
def b_X6_unknown_6 : ABlk := (87, ([true, true, true, true, true, false, false, false], [(.iconst 0, []), (.istore 6, []), (.iconst 1, []), (.istore 7, []), (.nop, [7])]))
def b_X6_unknown_7 : ABlk := (93, ([true, true, true, true, true, false, true, true], [(.iload 7, []), (.iload_n 2, []), (.if_icmp .gt 30, [10]), (.iload 6, []), (.aload_n 0, []), (.iload_n 1, []), (.iload 7, []), (.invokevirtual 110, [68, 3, 0, 1120]), (.iload_n 3, []), (.if_icmp .ne 7, [8]), (.iconst 1, []), (.goto 4, [9])]))
def b_X6_unknown_8 : ABlk := (116, ([true, true, true, true, true, false, false, true], [(.iconst 0, []), (.nop, [9])]))
def b_X6_unknown_9 : ABlk := (117, ([true, true, true, true, true, false, false, true], [(.iadd, []), (.istore 6, []), (.iinc 7 1, []), (.goto (-30), [7])]))
def b_X6_unknown_10 : ABlk := (126, ([false, false, true, false, true, false, true, false], [(.iload 6, []), (.iload_n 2, []), (.iload 4, []), (.invokestatic 307, [125, 3, 0, 1271]), (.lreturn, [])]))
def k_X6_unknown : List ABlk := [b_X6_unknown_0, b_X6_unknown_1, b_X6_unknown_2, b_X6_unknown_3, b_X6_unknown_4, b_X6_unknown_5, b_X6_unknown_6, b_X6_unknown_7, b_X6_unknown_8, b_X6_unknown_9, b_X6_unknown_10]
def md_X6_unknown : MDat := (yX6_unknown, (cX6_unknown, (8, (some .long, (false, (4, (6, ([1357, 1355, 1356, 124], k_X6_unknown))))))))
def n_X6_unknown : Nat := 147
def b_X6_takeSo_0 : ABlk := (0, ([true, true, false], [(.iload_n 1, []), (.aload_n 0, []), (.getfield 122, [0, 6, 2, 0, 876]), (.if_icmp .le 10, [1]), (.aload_n 0, []), (.getfield 122, [0, 6, 2, 0, 876]), (.goto 4, [2])]))
def b_X6_takeSo_1 : ABlk := (15, ([true, true, false], [(.iload_n 1, []), (.nop, [2])]))
def b_X6_takeSo_2 : ABlk := (16, ([true, false, false], [(.istore_n 2, []), (.aload_n 0, []), (.dup, []), (.getfield 122, [0, 6, 2, 0, 876]), (.iload_n 2, []), (.isub, []), (.putfield 122, [0, 6, 2, 0, 876]), (.aload_n 0, []), (.getfield 32, [1, 6, 11, 6, 0, 885]), (.aload_n 0, []), (.getfield 132, [0, 6, 5, 0, 879]), (.aload_n 0, []), (.getfield 32, [1, 6, 11, 6, 0, 885]), (.aload_n 0, []), (.getfield 132, [0, 6, 5, 0, 879]), (.iaload, []), (.iload_n 2, []), (.iadd, []), (.bipush 99, []), (.if_icmp .le 8, [3]), (.bipush 99, []), (.goto 14, [4])]))
def b_X6_takeSo_3 : ABlk := (56, ([true, false, true], [(.aload_n 0, []), (.getfield 32, [1, 6, 11, 6, 0, 885]), (.aload_n 0, []), (.getfield 132, [0, 6, 5, 0, 879]), (.iaload, []), (.iload_n 2, []), (.iadd, []), (.nop, [4])]))
def b_X6_takeSo_4 : ABlk := (67, ([true, false, false], [(.iastore, []), (.aload_n 0, []), (.aload_n 0, []), (.getfield 132, [0, 6, 5, 0, 879]), (.iconst 1, []), (.iadd, []), (.aload_n 0, []), (.getfield 107, [0, 6, 1, 0, 875]), (.irem, []), (.putfield 132, [0, 6, 5, 0, 879]), (.return_, [])]))
def k_X6_takeSo : List ABlk := [b_X6_takeSo_0, b_X6_takeSo_1, b_X6_takeSo_2, b_X6_takeSo_3, b_X6_takeSo_4]
def md_X6_takeSo : MDat := (yX6_takeSo, (cX6_takeSo, (3, (none, (false, (1, (6, ([1365, 1364, 107, 124], k_X6_takeSo))))))))
def n_X6_takeSo : Nat := 148
def b_X6_planned_0 : ABlk := (0, ([true, true, false], [(.aload_n 0, []), (.iconst 0, []), (.putfield 97, [0, 6, 12, 0, 886]), (.iload_n 1, []), (.i2l, []), (.lconst 0, []), (.lconst 1, []), (.invokestatic 103, [62, 3, 0, 1057]), (.ifCond .eq 10, [1]), (.aload_n 0, []), (.getfield 107, [0, 6, 1, 0, 875]), (.ifCond .ne 25, [4]), (.nop, [1])]))
def b_X6_planned_1 : ABlk := (22, ([true, true, false], [(.aload_n 0, []), (.iload_n 1, []), (.i2l, []), (.lconst 0, []), (.lconst 1, []), (.invokestatic 103, [62, 3, 0, 1057]), (.ifCond .eq 8, [2]), (.bipush (-3), []), (.goto 5, [3])]))
def b_X6_planned_2 : ABlk := (38, ([false, false, false], [(.bipush (-2), []), (.nop, [3])]))
def b_X6_planned_3 : ABlk := (40, ([false, false, false], [(.invokevirtual 168, [63, 2, 0, 1027]), (.ireturn, [])]))
def b_X6_planned_4 : ABlk := (44, ([true, true, false], [(.aload_n 0, []), (.invokevirtual 233, [80, 1, 0, 1068]), (.iconst 0, []), (.istore_n 2, []), (.nop, [5])]))
def b_X6_planned_5 : ABlk := (50, ([true, true, true], [(.iload_n 2, []), (.aload_n 0, []), (.getfield 263, [0, 6, 43, 0, 917]), (.if_icmp .ge 19, [6]), (.aload_n 0, []), (.aload_n 0, []), (.getfield 94, [1, 6, 42, 26, 0, 916]), (.iload_n 2, []), (.iaload, []), (.invokevirtual 337, [148, 2, 0, 1362]), (.iinc 2 1, []), (.goto (-21), [5])]))
def b_X6_planned_6 : ABlk := (74, ([true, true, false], [(.iload_n 1, []), (.ifCond .ne 10, [7]), (.aload_n 0, []), (.invokevirtual 260, [77, 1, 0, 1196]), (.goto 7, [8])]))
def b_X6_planned_7 : ABlk := (85, ([true, false, false], [(.aload_n 0, []), (.getfield 122, [0, 6, 2, 0, 876]), (.nop, [8])]))
def b_X6_planned_8 : ABlk := (89, ([true, false, false], [(.istore_n 2, []), (.aload_n 0, []), (.invokevirtual 239, [81, 1, 0, 1128]), (.iload_n 2, []), (.ireturn, [])]))
def k_X6_planned : List ABlk := [b_X6_planned_0, b_X6_planned_1, b_X6_planned_2, b_X6_planned_3, b_X6_planned_4, b_X6_planned_5, b_X6_planned_6, b_X6_planned_7, b_X6_planned_8]
def md_X6_planned : MDat := (yX6_planned, (cX6_planned, (3, (some .int, (false, (1, (6, ([1361, 1359, 1360, 124], k_X6_planned))))))))
def n_X6_planned : Nat := 149
def b_X6_bringsWish_0 : ABlk := (0, ([true, true, true, true, false, false, false, false], [(.iload_n 3, []), (.istore 4, []), (.iconst 1, []), (.istore 5, []), (.iconst 0, []), (.istore 6, []), (.nop, [1])]))
def b_X6_bringsWish_1 : ABlk := (9, ([true, true, true, false, true, true, true, false], [(.iload 6, []), (.bipush 6, []), (.if_icmp .ge 99, [9]), (.aload_n 0, []), (.getfield 122, [0, 6, 2, 0, 876]), (.ifCond .le 92, [9]), (.iload 5, []), (.ifCond .eq 87, [9]), (.aload_n 0, []), (.getfield 132, [0, 6, 5, 0, 879]), (.iload_n 1, []), (.if_icmp .ne 68, [7]), (.iload_n 2, []), (.iload 4, []), (.idiv, []), (.bipush 7, []), (.irem, []), (.istore 7, []), (.iload 4, []), (.iconst 1, []), (.if_icmp .le 11, [2]), (.iload 4, []), (.bipush 7, []), (.idiv, []), (.goto 4, [3])]))
def b_X6_bringsWish_2 : ABlk := (59, ([true, true, true, false, false, false, true, true], [(.iconst 1, []), (.nop, [3])]))
def b_X6_bringsWish_3 : ABlk := (60, ([true, true, true, false, false, false, true, true], [(.istore 4, []), (.iload 7, []), (.aload_n 0, []), (.getfield 13, [0, 6, 4, 0, 878]), (.if_icmp .gt 16, [4]), (.iload 7, []), (.aload_n 0, []), (.getfield 122, [0, 6, 2, 0, 876]), (.if_icmp .gt 7, [4]), (.iconst 1, []), (.goto 4, [5])]))
def b_X6_bringsWish_4 : ABlk := (84, ([true, true, true, false, true, false, true, true], [(.iconst 0, []), (.nop, [5])]))
def b_X6_bringsWish_5 : ABlk := (85, ([true, true, true, false, true, false, true, true], [(.istore 5, []), (.iload 5, []), (.ifCond .eq 9, [6]), (.aload_n 0, []), (.iload 7, []), (.invokevirtual 337, [148, 2, 0, 1362]), (.nop, [6])]))
def b_X6_bringsWish_6 : ABlk := (98, ([true, true, true, false, true, true, true, false], [(.goto 8, [8])]))
def b_X6_bringsWish_7 : ABlk := (101, ([true, true, true, false, true, true, true, false], [(.aload_n 0, []), (.invokevirtual 138, [75, 1, 0, 1100]), (.pop, []), (.nop, [8])]))
def b_X6_bringsWish_8 : ABlk := (106, ([true, true, true, false, true, true, true, false], [(.iinc 6 1, []), (.goto (-100), [1])]))
def b_X6_bringsWish_9 : ABlk := (112, ([true, true, false, false, false, true, false, false], [(.iload 5, []), (.ifCond .eq 15, [10]), (.aload_n 0, []), (.iload_n 1, []), (.invokevirtual 141, [71, 2, 0, 1156]), (.ifCond .eq 7, [10]), (.iconst 1, []), (.goto 4, [11])]))
def b_X6_bringsWish_10 : ABlk := (129, ([false, false, false, false, false, false, false, false], [(.iconst 0, []), (.nop, [11])]))
def b_X6_bringsWish_11 : ABlk := (130, ([false, false, false, false, false, false, false, false], [(.ireturn, [1])]))
def k_X6_bringsWish : List ABlk := [b_X6_bringsWish_0, b_X6_bringsWish_1, b_X6_bringsWish_2, b_X6_bringsWish_3, b_X6_bringsWish_4, b_X6_bringsWish_5, b_X6_bringsWish_6, b_X6_bringsWish_7, b_X6_bringsWish_8, b_X6_bringsWish_9, b_X6_bringsWish_10, b_X6_bringsWish_11]
def md_X6_bringsWish : MDat := (yX6_bringsWish, (cX6_bringsWish, (8, (some .boolean, (false, (3, (6, ([1377, 1376, 109, 124], k_X6_bringsWish))))))))
def n_X6_bringsWish : Nat := 150
def b_X6_ownTurns_0 : ABlk := (0, ([true, true, false, false], [(.iconst 0, []), (.istore_n 2, []), (.iconst 0, []), (.istore_n 3, []), (.nop, [1])]))
def b_X6_ownTurns_1 : ABlk := (4, ([true, true, true, true], [(.iload_n 3, []), (.bipush 6, []), (.if_icmp .ge 32, [4]), (.iload_n 2, []), (.aload_n 0, []), (.getfield 132, [0, 6, 5, 0, 879]), (.iload_n 3, []), (.iadd, []), (.aload_n 0, []), (.getfield 107, [0, 6, 1, 0, 875]), (.irem, []), (.iload_n 1, []), (.if_icmp .ne 7, [2]), (.iconst 1, []), (.goto 4, [3])]))
def b_X6_ownTurns_2 : ABlk := (30, ([true, true, false, true], [(.iconst 0, []), (.nop, [3])]))
def b_X6_ownTurns_3 : ABlk := (31, ([true, true, false, true], [(.iadd, []), (.istore_n 2, []), (.iinc 3 1, []), (.goto (-32), [1])]))
def b_X6_ownTurns_4 : ABlk := (39, ([false, false, true, false], [(.iload_n 2, []), (.ireturn, [])]))
def k_X6_ownTurns : List ABlk := [b_X6_ownTurns_0, b_X6_ownTurns_1, b_X6_ownTurns_2, b_X6_ownTurns_3, b_X6_ownTurns_4]
def md_X6_ownTurns : MDat := (yX6_ownTurns, (cX6_ownTurns, (4, (some .int, (false, (1, (6, ([1373, 1372, 108, 124], k_X6_ownTurns))))))))
def n_X6_ownTurns : Nat := 151
def b_X6_scheme_0 : ABlk := (0, ([true, true, false, false, false, false, false], [(.aload_n 0, []), (.iconst 0, []), (.putfield 97, [0, 6, 12, 0, 886]), (.aload_n 0, []), (.iload_n 1, []), (.invokevirtual 246, [65, 2, 0, 1151]), (.ifCond .ne 7, [1]), (.iconst (-1), []), (.goto 16, [3])]))
def b_X6_scheme_1 : ABlk := (17, ([true, true, false, false, false, false, false], [(.aload_n 0, []), (.getfield 100, [0, 6, 0, 0, 874]), (.ifCond .ne 8, [2]), (.bipush (-3), []), (.goto 4, [3])]))
def b_X6_scheme_2 : ABlk := (29, ([true, true, false, false, false, false, false], [(.iconst 0, []), (.nop, [3])]))
def b_X6_scheme_3 : ABlk := (30, ([true, true, false, false, false, false, false], [(.istore_n 2, []), (.iload_n 2, []), (.ifCond .ge 9, [4]), (.aload_n 0, []), (.iload_n 2, []), (.invokevirtual 168, [63, 2, 0, 1027]), (.ireturn, [])]))
def b_X6_scheme_4 : ABlk := (41, ([true, true, false, false, false, false, false], [(.iconst 1, []), (.istore_n 3, []), (.aload_n 0, []), (.iload_n 1, []), (.invokevirtual 340, [151, 2, 0, 1370]), (.istore 4, []), (.nop, [5])]))
def b_X6_scheme_5 : ABlk := (50, ([true, true, false, true, true, false, false], [(.iload 4, []), (.ifCond .le 14, [6]), (.iload_n 3, []), (.bipush 7, []), (.imul, []), (.istore_n 3, []), (.iinc 4 (-1), []), (.goto (-13), [5])]))
def b_X6_scheme_6 : ABlk := (66, ([true, true, false, true, false, false, false], [(.bipush (-9), []), (.istore 4, []), (.iload_n 3, []), (.iconst 1, []), (.if_icmp .le 10, [7]), (.iload_n 3, []), (.bipush 7, []), (.idiv, []), (.goto 4, [8])]))
def b_X6_scheme_7 : ABlk := (82, ([true, true, false, true, true, false, false], [(.iconst 1, []), (.nop, [8])]))
def b_X6_scheme_8 : ABlk := (83, ([true, true, false, true, true, false, false], [(.istore 5, []), (.aload_n 0, []), (.invokevirtual 233, [80, 1, 0, 1068]), (.iconst 0, []), (.istore 6, []), (.nop, [9])]))
def b_X6_scheme_9 : ABlk := (92, ([true, true, false, true, true, true, true], [(.iload 6, []), (.iload_n 3, []), (.if_icmp .ge 42, [12]), (.iload 4, []), (.ifCond .ge 37, [12]), (.aload_n 0, []), (.invokevirtual 239, [81, 1, 0, 1128]), (.aload_n 0, []), (.iload_n 1, []), (.iload 6, []), (.iload 5, []), (.invokevirtual 343, [150, 4, 0, 1374]), (.ifCond .eq 11, [10]), (.iload 6, []), (.iload 5, []), (.idiv, []), (.goto 5, [11])]))
def b_X6_scheme_10 : ABlk := (127, ([true, true, false, true, false, true, true], [(.bipush (-9), []), (.nop, [11])]))
def b_X6_scheme_11 : ABlk := (129, ([true, true, false, true, false, true, true], [(.istore 4, []), (.iinc 6 1, []), (.goto (-42), [9])]))
def b_X6_scheme_12 : ABlk := (137, ([true, false, false, false, true, false, false], [(.aload_n 0, []), (.invokevirtual 239, [81, 1, 0, 1128]), (.iload 4, []), (.ireturn, [])]))
def k_X6_scheme : List ABlk := [b_X6_scheme_0, b_X6_scheme_1, b_X6_scheme_2, b_X6_scheme_3, b_X6_scheme_4, b_X6_scheme_5, b_X6_scheme_6, b_X6_scheme_7, b_X6_scheme_8, b_X6_scheme_9, b_X6_scheme_10, b_X6_scheme_11, b_X6_scheme_12]
def md_X6_scheme : MDat := (yX6_scheme, (cX6_scheme, (7, (some .int, (false, (1, (6, ([1369, 1367, 1368, 124], k_X6_scheme))))))))
def n_X6_scheme : Nat := 152
def b_X6_placeOf_0 : ABlk := (0, ([true], [(.iload_n 0, []), (.ifCond .ne 7, [1]), (.iconst 1, []), (.goto 27, [4])]))
def b_X6_placeOf_1 : ABlk := (8, ([true], [(.iload_n 0, []), (.iconst 1, []), (.if_icmp .ne 8, [2]), (.bipush 13, []), (.goto 17, [4])]))
def b_X6_placeOf_2 : ABlk := (18, ([true], [(.iload_n 0, []), (.iconst 2, []), (.if_icmp .ne 9, [3]), (.sipush 169, []), (.goto 6, [4])]))
def b_X6_placeOf_3 : ABlk := (29, ([false], [(.sipush 2197, []), (.nop, [4])]))
def b_X6_placeOf_4 : ABlk := (32, ([false], [(.ireturn, [])]))
def k_X6_placeOf : List ABlk := [b_X6_placeOf_0, b_X6_placeOf_1, b_X6_placeOf_2, b_X6_placeOf_3, b_X6_placeOf_4]
def md_X6_placeOf : MDat := (yX6_placeOf, (cX6_placeOf, (1, (some .int, (true, (1, (6, ([1397, 1396, 0, 124], k_X6_placeOf))))))))
def n_X6_placeOf : Nat := 153
def b_X6_layWins_0 : ABlk := (0, ([true, true, false, false, false, false, false, false], [(.iconst 0, []), (.istore_n 2, []), (.nop, [1])]))
def b_X6_layWins_1 : ABlk := (2, ([true, true, true, false, false, false, false, false], [(.iload_n 2, []), (.sipush 28561, []), (.if_icmp .ge 113, [11]), (.iconst 0, []), (.istore_n 3, []), (.iconst 0, []), (.istore 4, []), (.iconst 0, []), (.istore 5, []), (.nop, [2])]))
def b_X6_layWins_2 : ABlk := (17, ([true, true, true, true, true, true, false, false], [(.iload 5, []), (.iconst 4, []), (.if_icmp .ge 77, [8]), (.iload_n 2, []), (.iload 5, []), (.invokestatic 346, [153, 1, 0, 1395]), (.idiv, []), (.bipush 13, []), (.irem, []), (.istore 6, []), (.iconst 1, []), (.istore 7, []), (.nop, [3])]))
def b_X6_layWins_3 : ABlk := (38, ([true, true, true, true, true, true, true, true], [(.iload 7, []), (.aload_n 0, []), (.getfield 13, [0, 6, 4, 0, 878]), (.if_icmp .gt 47, [7]), (.iload 7, []), (.iload 6, []), (.if_icmp .gt 40, [7]), (.iload_n 3, []), (.ifCond .ne 21, [4]), (.aload_n 0, []), (.getfield 88, [1, 6, 40, 24, 0, 914]), (.iload_n 2, []), (.iload 7, []), (.iload 5, []), (.invokestatic 346, [153, 1, 0, 1395]), (.imul, []), (.isub, []), (.baload, []), (.ifCond .ne 7, [5]), (.nop, [4])]))
def b_X6_layWins_4 : ABlk := (76, ([true, true, true, false, false, true, true, true], [(.iconst 1, []), (.goto 4, [6])]))
def b_X6_layWins_5 : ABlk := (80, ([true, true, true, false, false, true, true, true], [(.iconst 0, []), (.nop, [6])]))
def b_X6_layWins_6 : ABlk := (81, ([true, true, true, false, false, true, true, true], [(.istore_n 3, []), (.iconst 1, []), (.istore 4, []), (.iinc 7 1, []), (.goto (-50), [3])]))
def b_X6_layWins_7 : ABlk := (91, ([true, true, true, true, true, true, false, false], [(.iinc 5 1, []), (.goto (-77), [2])]))
def b_X6_layWins_8 : ABlk := (97, ([true, true, true, true, true, false, false, false], [(.aload_n 0, []), (.getfield 88, [1, 6, 40, 24, 0, 914]), (.iload_n 2, []), (.iload 4, []), (.ifCond .eq 7, [9]), (.iload_n 3, []), (.goto 4, [10])]))
def b_X6_layWins_9 : ABlk := (111, ([true, true, true, false, false, false, false, false], [(.iload_n 1, []), (.nop, [10])]))
def b_X6_layWins_10 : ABlk := (112, ([true, true, true, false, false, false, false, false], [(.bastore, []), (.iinc 2 1, []), (.goto (-114), [1])]))
def b_X6_layWins_11 : ABlk := (119, ([false, false, false, false, false, false, false, false], [(.return_, [])]))
def k_X6_layWins : List ABlk := [b_X6_layWins_0, b_X6_layWins_1, b_X6_layWins_2, b_X6_layWins_3, b_X6_layWins_4, b_X6_layWins_5, b_X6_layWins_6, b_X6_layWins_7, b_X6_layWins_8, b_X6_layWins_9, b_X6_layWins_10, b_X6_layWins_11]
def md_X6_layWins : MDat := (yX6_layWins, (cX6_layWins, (8, (none, (false, (1, (6, ([1394, 1393, 110, 124], k_X6_layWins))))))))
def n_X6_layWins : Nat := 154
def b_X6_pileState_0 : ABlk := (0, ([true, false, false], [(.iconst 0, []), (.istore_n 1, []), (.iconst 0, []), (.istore_n 2, []), (.nop, [1])]))
def b_X6_pileState_1 : ABlk := (4, ([true, true, true], [(.iload_n 2, []), (.aload_n 0, []), (.getfield 158, [0, 6, 39, 0, 913]), (.if_icmp .ge 23, [2]), (.iload_n 1, []), (.aload_n 0, []), (.getfield 85, [1, 6, 38, 23, 0, 912]), (.iload_n 2, []), (.iaload, []), (.iload_n 2, []), (.invokestatic 346, [153, 1, 0, 1395]), (.imul, []), (.iadd, []), (.istore_n 1, []), (.iinc 2 1, []), (.goto (-25), [1])]))
def b_X6_pileState_2 : ABlk := (32, ([false, true, false], [(.iload_n 1, []), (.ireturn, [])]))
def k_X6_pileState : List ABlk := [b_X6_pileState_0, b_X6_pileState_1, b_X6_pileState_2]
def md_X6_pileState : MDat := (yX6_pileState, (cX6_pileState, (3, (some .int, (false, (0, (6, ([1405, 1404, 112, 124], k_X6_pileState))))))))
def n_X6_pileState : Nat := 155
def b_X6_firstMove_0 : ABlk := (0, ([true, false, false], [(.iconst 0, []), (.istore_n 1, []), (.nop, [1])]))
def b_X6_firstMove_1 : ABlk := (2, ([true, true, false], [(.iload_n 1, []), (.aload_n 0, []), (.getfield 158, [0, 6, 39, 0, 913]), (.if_icmp .ge 61, [5]), (.iconst 1, []), (.istore_n 2, []), (.nop, [2])]))
def b_X6_firstMove_2 : ABlk := (12, ([true, true, true], [(.iload_n 2, []), (.aload_n 0, []), (.getfield 13, [0, 6, 4, 0, 878]), (.if_icmp .gt 45, [4]), (.iload_n 2, []), (.aload_n 0, []), (.getfield 85, [1, 6, 38, 23, 0, 912]), (.iload_n 1, []), (.iaload, []), (.if_icmp .gt 35, [4]), (.aload_n 0, []), (.getfield 88, [1, 6, 40, 24, 0, 914]), (.aload_n 0, []), (.invokevirtual 349, [155, 1, 0, 1402]), (.iload_n 2, []), (.iload_n 1, []), (.invokestatic 346, [153, 1, 0, 1395]), (.imul, []), (.isub, []), (.baload, []), (.ifCond .ne 10, [3]), (.bipush 10, []), (.iload_n 1, []), (.imul, []), (.iload_n 2, []), (.iadd, []), (.ireturn, [])]))
def b_X6_firstMove_3 : ABlk := (56, ([true, true, true], [(.iinc 2 1, []), (.goto (-47), [2])]))
def b_X6_firstMove_4 : ABlk := (62, ([true, true, false], [(.iinc 1 1, []), (.goto (-63), [1])]))
def b_X6_firstMove_5 : ABlk := (68, ([false, false, false], [(.bipush (-9), []), (.ireturn, [])]))
def k_X6_firstMove : List ABlk := [b_X6_firstMove_0, b_X6_firstMove_1, b_X6_firstMove_2, b_X6_firstMove_3, b_X6_firstMove_4, b_X6_firstMove_5]
def md_X6_firstMove : MDat := (yX6_firstMove, (cX6_firstMove, (3, (some .int, (false, (0, (6, ([1401, 1400, 111, 124], k_X6_firstMove))))))))
def n_X6_firstMove : Nat := 156
def b_X6_pile_0 : ABlk := (0, ([true, true, false], [(.aload_n 0, []), (.iconst 0, []), (.putfield 97, [0, 6, 12, 0, 886]), (.iload_n 1, []), (.iconst 0, []), (.bipush 12, []), (.invokestatic 242, [66, 3, 0, 1144]), (.istore_n 2, []), (.iload_n 2, []), (.ifCond .ne 16, [1]), (.aload_n 0, []), (.getfield 158, [0, 6, 39, 0, 913]), (.iconst 4, []), (.if_icmp .ne 8, [1]), (.bipush (-6), []), (.goto 4, [2])]))
def b_X6_pile_1 : ABlk := (30, ([true, true, true], [(.iload_n 2, []), (.nop, [2])]))
def b_X6_pile_2 : ABlk := (31, ([true, true, false], [(.istore_n 2, []), (.iload_n 2, []), (.ifCond .ge 9, [3]), (.aload_n 0, []), (.iload_n 2, []), (.invokevirtual 168, [63, 2, 0, 1027]), (.ireturn, [])]))
def b_X6_pile_3 : ABlk := (42, ([true, true, false], [(.aload_n 0, []), (.getfield 85, [1, 6, 38, 23, 0, 912]), (.aload_n 0, []), (.getfield 158, [0, 6, 39, 0, 913]), (.iload_n 1, []), (.iastore, []), (.aload_n 0, []), (.dup, []), (.getfield 158, [0, 6, 39, 0, 913]), (.iconst 1, []), (.iadd, []), (.putfield 158, [0, 6, 39, 0, 913]), (.aload_n 0, []), (.getfield 158, [0, 6, 39, 0, 913]), (.iconst 1, []), (.isub, []), (.ireturn, [])]))
def k_X6_pile : List ABlk := [b_X6_pile_0, b_X6_pile_1, b_X6_pile_2, b_X6_pile_3]
def md_X6_pile : MDat := (yX6_pile, (cX6_pile, (3, (some .int, (false, (1, (6, ([1381, 1379, 1380, 124], k_X6_pile))))))))
def n_X6_pile : Nat := 157
def b_X6_move_0 : ABlk := (0, ([true, true, true, false], [(.aload_n 0, []), (.iconst 0, []), (.putfield 97, [0, 6, 12, 0, 886]), (.iload_n 1, []), (.i2l, []), (.lconst 0, []), (.aload_n 0, []), (.getfield 158, [0, 6, 39, 0, 913]), (.iconst 1, []), (.isub, []), (.i2l, []), (.invokestatic 103, [62, 3, 0, 1057]), (.ifCond .ne 7, [1]), (.iconst (-1), []), (.goto 37, [5])]))
def b_X6_move_1 : ABlk := (25, ([true, true, true, false], [(.iload_n 2, []), (.iconst 1, []), (.if_icmp .ge 8, [2]), (.bipush (-4), []), (.goto 27, [5])]))
def b_X6_move_2 : ABlk := (35, ([true, true, true, false], [(.iload_n 2, []), (.aload_n 0, []), (.getfield 13, [0, 6, 4, 0, 878]), (.if_icmp .gt 13, [3]), (.iload_n 2, []), (.aload_n 0, []), (.getfield 85, [1, 6, 38, 23, 0, 912]), (.iload_n 1, []), (.iaload, []), (.if_icmp .le 8, [4]), (.nop, [3])]))
def b_X6_move_3 : ABlk := (53, ([true, true, true, false], [(.bipush (-6), []), (.goto 4, [5])]))
def b_X6_move_4 : ABlk := (58, ([true, true, true, false], [(.iconst 0, []), (.nop, [5])]))
def b_X6_move_5 : ABlk := (59, ([true, true, true, false], [(.istore_n 3, []), (.iload_n 3, []), (.ifCond .ge 9, [6]), (.aload_n 0, []), (.iload_n 3, []), (.invokevirtual 168, [63, 2, 0, 1027]), (.ireturn, [])]))
def b_X6_move_6 : ABlk := (70, ([true, true, true, false], [(.aload_n 0, []), (.getfield 85, [1, 6, 38, 23, 0, 912]), (.iload_n 1, []), (.dup2, []), (.iaload, []), (.iload_n 2, []), (.isub, []), (.iastore, []), (.aload_n 0, []), (.getfield 85, [1, 6, 38, 23, 0, 912]), (.iload_n 1, []), (.iaload, []), (.ireturn, [])]))
def k_X6_move : List ABlk := [b_X6_move_0, b_X6_move_1, b_X6_move_2, b_X6_move_3, b_X6_move_4, b_X6_move_5, b_X6_move_6]
def md_X6_move : MDat := (yX6_move, (cX6_move, (4, (some .int, (false, (2, (6, ([1385, 1383, 1384, 124], k_X6_move))))))))
def n_X6_move : Nat := 158
def b_X6_wins_0 : ABlk := (0, ([true, true], [(.aload_n 0, []), (.iconst 0, []), (.putfield 97, [0, 6, 12, 0, 886]), (.iload_n 1, []), (.i2l, []), (.lconst 0, []), (.ldc2_w 352, [3, 0, 1390]), (.invokestatic 103, [62, 3, 0, 1057]), (.ifCond .ne 10, [1]), (.aload_n 0, []), (.bipush (-2), []), (.invokevirtual 168, [63, 2, 0, 1027]), (.ireturn, [])]))
def b_X6_wins_1 : ABlk := (24, ([true, true], [(.aload_n 0, []), (.iload_n 1, []), (.iconst 2, []), (.irem, []), (.iconst 1, []), (.if_icmp .ne 7, [2]), (.iconst 1, []), (.goto 4, [3])]))
def b_X6_wins_2 : ABlk := (36, ([true, true], [(.iconst 0, []), (.nop, [3])]))
def b_X6_wins_3 : ABlk := (37, ([true, true], [(.invokevirtual 354, [154, 2, 0, 1391]), (.iload_n 1, []), (.iconst 1, []), (.if_icmp .le 10, [4]), (.aload_n 0, []), (.invokevirtual 358, [156, 1, 0, 1398]), (.goto 20, [6])]))
def b_X6_wins_4 : ABlk := (52, ([true, false], [(.aload_n 0, []), (.getfield 88, [1, 6, 40, 24, 0, 914]), (.aload_n 0, []), (.invokevirtual 349, [155, 1, 0, 1402]), (.baload, []), (.ifCond .eq 7, [5]), (.iconst 1, []), (.goto 4, [6])]))
def b_X6_wins_5 : ABlk := (68, ([false, false], [(.iconst 0, []), (.nop, [6])]))
def b_X6_wins_6 : ABlk := (69, ([false, false], [(.ireturn, [])]))
def k_X6_wins : List ABlk := [b_X6_wins_0, b_X6_wins_1, b_X6_wins_2, b_X6_wins_3, b_X6_wins_4, b_X6_wins_5, b_X6_wins_6]
def md_X6_wins : MDat := (yX6_wins, (cX6_wins, (2, (some .int, (false, (1, (6, ([1389, 1387, 1388, 124], k_X6_wins))))))))
def n_X6_wins : Nat := 159
def b_X6_duelState_0 : ABlk := (0, ([true, true, true], [(.iconst 2, []), (.iload_n 0, []), (.imul, []), (.iload_n 1, []), (.iadd, []), (.bipush 61, []), (.imul, []), (.iload_n 2, []), (.iadd, []), (.ireturn, [])]))
def k_X6_duelState : List ABlk := [b_X6_duelState_0]
def md_X6_duelState : MDat := (yX6_duelState, (cX6_duelState, (3, (some .int, (true, (3, (6, ([1416, 1415, 0, 124], k_X6_duelState))))))))
def n_X6_duelState : Nat := 160
def b_X6_worthTo_0 : ABlk := (0, ([true, true], [(.iconst 2, []), (.iload_n 1, []), (.iload_n 0, []), (.ishr, []), (.iconst 1, []), (.iand, []), (.imul, []), (.iconst 1, []), (.iadd, []), (.iload_n 1, []), (.iconst 1, []), (.iload_n 0, []), (.isub, []), (.ishr, []), (.iconst 1, []), (.iand, []), (.isub, []), (.ireturn, [])]))
def k_X6_worthTo : List ABlk := [b_X6_worthTo_0]
def md_X6_worthTo : MDat := (yX6_worthTo, (cX6_worthTo, (2, (some .int, (true, (2, (6, ([1427, 1426, 0, 124], k_X6_worthTo))))))))
def n_X6_worthTo : Nat := 161
def b_X6_endBy_0 : ABlk := (0, ([true, true, true, true, true], [(.aload_n 0, []), (.getfield 91, [1, 6, 41, 25, 0, 915]), (.iload_n 1, []), (.iload 4, []), (.isub, []), (.iconst 1, []), (.iload_n 2, []), (.isub, []), (.iload_n 2, []), (.ifCond .ne 10, [1]), (.iload_n 3, []), (.iload 4, []), (.iadd, []), (.goto 4, [2])]))
def b_X6_endBy_1 : ABlk := (22, ([false, false, false, true, false], [(.iload_n 3, []), (.nop, [2])]))
def b_X6_endBy_2 : ABlk := (23, ([false, false, false, false, false], [(.invokestatic 361, [160, 3, 0, 1414]), (.iaload, []), (.ireturn, [])]))
def k_X6_endBy : List ABlk := [b_X6_endBy_0, b_X6_endBy_1, b_X6_endBy_2]
def md_X6_endBy : MDat := (yX6_endBy, (cX6_endBy, (5, (some .int, (false, (4, (6, ([1424, 1423, 115, 124], k_X6_endBy))))))))
def n_X6_endBy : Nat := 162
def b_X6_bestTake_0 : ABlk := (0, ([true, true, true, true, false, false, false], [(.iconst 1, []), (.istore 4, []), (.iconst 2, []), (.istore 5, []), (.nop, [1])]))
def b_X6_bestTake_1 : ABlk := (6, ([true, true, true, true, true, true, false], [(.iload 5, []), (.aload_n 0, []), (.getfield 13, [0, 6, 4, 0, 878]), (.if_icmp .gt 65, [6]), (.iload 5, []), (.iload_n 1, []), (.if_icmp .gt 59, [6]), (.iload_n 2, []), (.aload_n 0, []), (.iload_n 1, []), (.iload_n 2, []), (.iload_n 3, []), (.iload 5, []), (.invokevirtual 364, [162, 5, 0, 1421]), (.invokestatic 368, [161, 2, 0, 1425]), (.iload_n 2, []), (.aload_n 0, []), (.iload_n 1, []), (.iload_n 2, []), (.iload_n 3, []), (.iload 4, []), (.invokevirtual 364, [162, 5, 0, 1421]), (.invokestatic 368, [161, 2, 0, 1425]), (.if_icmp .le 7, [2]), (.iconst 1, []), (.goto 4, [3])]))
def b_X6_bestTake_2 : ABlk := (54, ([true, true, true, true, true, true, false], [(.iconst 0, []), (.nop, [3])]))
def b_X6_bestTake_3 : ABlk := (55, ([true, true, true, true, true, true, false], [(.istore 6, []), (.iload 6, []), (.ifCond .eq 8, [4]), (.iload 5, []), (.goto 5, [5])]))
def b_X6_bestTake_4 : ABlk := (67, ([true, true, true, true, true, true, false], [(.iload 4, []), (.nop, [5])]))
def b_X6_bestTake_5 : ABlk := (69, ([true, true, true, true, false, true, false], [(.istore 4, []), (.iinc 5 1, []), (.goto (-68), [1])]))
def b_X6_bestTake_6 : ABlk := (77, ([false, false, false, false, true, false, false], [(.iload 4, []), (.ireturn, [])]))
def k_X6_bestTake : List ABlk := [b_X6_bestTake_0, b_X6_bestTake_1, b_X6_bestTake_2, b_X6_bestTake_3, b_X6_bestTake_4, b_X6_bestTake_5, b_X6_bestTake_6]
def md_X6_bestTake : MDat := (yX6_bestTake, (cX6_bestTake, (7, (some .int, (false, (3, (6, ([1420, 1419, 114, 124], k_X6_bestTake))))))))
def n_X6_bestTake : Nat := 163
def b_X6_layDuel_0 : ABlk := (0, ([true, false, false, false, false, false, false], [(.iconst 0, []), (.istore_n 1, []), (.nop, [1])]))
def b_X6_layDuel_1 : ABlk := (2, ([true, true, false, false, false, false, false], [(.iload_n 1, []), (.aload_n 0, []), (.getfield 122, [0, 6, 2, 0, 876]), (.if_icmp .gt 134, [12]), (.iconst 0, []), (.istore_n 2, []), (.nop, [2])]))
def b_X6_layDuel_2 : ABlk := (12, ([true, true, true, false, false, false, false], [(.iload_n 2, []), (.iconst 2, []), (.if_icmp .ge 121, [11]), (.iconst 0, []), (.istore_n 3, []), (.nop, [3])]))
def b_X6_layDuel_3 : ABlk := (19, ([true, true, true, true, false, false, false], [(.iload_n 3, []), (.aload_n 0, []), (.getfield 122, [0, 6, 2, 0, 876]), (.iload_n 1, []), (.isub, []), (.if_icmp .gt 103, [10]), (.aload_n 0, []), (.iconst 0, []), (.aload_n 0, []), (.getfield 32, [1, 6, 11, 6, 0, 885]), (.iconst 0, []), (.iaload, []), (.iload_n 3, []), (.iadd, []), (.invokevirtual 118, [70, 3, 0, 1112]), (.ifCond .eq 7, [4]), (.iconst 1, []), (.goto 4, [5])]))
def b_X6_layDuel_4 : ABlk := (49, ([true, true, true, true, false, false, false], [(.iconst 0, []), (.nop, [5])]))
def b_X6_layDuel_5 : ABlk := (50, ([true, true, true, true, false, false, false], [(.istore 4, []), (.aload_n 0, []), (.iconst 1, []), (.aload_n 0, []), (.getfield 32, [1, 6, 11, 6, 0, 885]), (.iconst 1, []), (.iaload, []), (.aload_n 0, []), (.getfield 122, [0, 6, 2, 0, 876]), (.iadd, []), (.iload_n 1, []), (.isub, []), (.iload_n 3, []), (.isub, []), (.invokevirtual 118, [70, 3, 0, 1112]), (.ifCond .eq 7, [6]), (.iconst 2, []), (.goto 4, [7])]))
def b_X6_layDuel_6 : ABlk := (79, ([true, true, true, true, true, false, false], [(.iconst 0, []), (.nop, [7])]))
def b_X6_layDuel_7 : ABlk := (80, ([true, true, true, true, true, false, false], [(.istore 5, []), (.iload_n 1, []), (.iload_n 2, []), (.iload_n 3, []), (.invokestatic 361, [160, 3, 0, 1414]), (.istore 6, []), (.aload_n 0, []), (.getfield 91, [1, 6, 41, 25, 0, 915]), (.iload 6, []), (.iload_n 1, []), (.ifCond .ne 11, [8]), (.iload 4, []), (.iload 5, []), (.iadd, []), (.goto 17, [9])]))
def b_X6_layDuel_8 : ABlk := (108, ([true, true, true, true, false, false, false], [(.aload_n 0, []), (.iload_n 1, []), (.iload_n 2, []), (.iload_n 3, []), (.aload_n 0, []), (.iload_n 1, []), (.iload_n 2, []), (.iload_n 3, []), (.invokevirtual 371, [163, 4, 0, 1417]), (.invokevirtual 364, [162, 5, 0, 1421]), (.nop, [9])]))
def b_X6_layDuel_9 : ABlk := (122, ([true, true, true, true, false, false, false], [(.iastore, []), (.iinc 3 1, []), (.goto (-107), [3])]))
def b_X6_layDuel_10 : ABlk := (129, ([true, true, true, false, false, false, false], [(.iinc 2 1, []), (.goto (-120), [2])]))
def b_X6_layDuel_11 : ABlk := (135, ([true, true, false, false, false, false, false], [(.iinc 1 1, []), (.goto (-136), [1])]))
def b_X6_layDuel_12 : ABlk := (141, ([false, false, false, false, false, false, false], [(.return_, [])]))
def k_X6_layDuel : List ABlk := [b_X6_layDuel_0, b_X6_layDuel_1, b_X6_layDuel_2, b_X6_layDuel_3, b_X6_layDuel_4, b_X6_layDuel_5, b_X6_layDuel_6, b_X6_layDuel_7, b_X6_layDuel_8, b_X6_layDuel_9, b_X6_layDuel_10, b_X6_layDuel_11, b_X6_layDuel_12]
def md_X6_layDuel : MDat := (yX6_layDuel, (cX6_layDuel, (7, (none, (false, (0, (6, ([1413, 1412, 113, 124], k_X6_layDuel))))))))
def n_X6_layDuel : Nat := 164
def b_X6_duel_0 : ABlk := (0, ([true, true, false], [(.aload_n 0, []), (.iconst 0, []), (.putfield 97, [0, 6, 12, 0, 886]), (.iload_n 1, []), (.i2l, []), (.lconst 0, []), (.lconst 1, []), (.invokestatic 103, [62, 3, 0, 1057]), (.ifCond .ne 8, [1]), (.bipush (-2), []), (.goto 24, [4])]))
def b_X6_duel_1 : ABlk := (20, ([true, true, false], [(.aload_n 0, []), (.getfield 107, [0, 6, 1, 0, 875]), (.iconst 2, []), (.if_icmp .ne 10, [2]), (.aload_n 0, []), (.getfield 100, [0, 6, 0, 0, 874]), (.ifCond .ne 8, [3]), (.nop, [2])]))
def b_X6_duel_2 : ABlk := (35, ([true, true, false], [(.bipush (-3), []), (.goto 4, [4])]))
def b_X6_duel_3 : ABlk := (40, ([true, true, false], [(.iconst 0, []), (.nop, [4])]))
def b_X6_duel_4 : ABlk := (41, ([true, true, false], [(.istore_n 2, []), (.iload_n 2, []), (.ifCond .ge 9, [5]), (.aload_n 0, []), (.iload_n 2, []), (.invokevirtual 168, [63, 2, 0, 1027]), (.ireturn, [])]))
def b_X6_duel_5 : ABlk := (52, ([true, true, false], [(.aload_n 0, []), (.invokevirtual 374, [164, 1, 0, 1410]), (.iload_n 1, []), (.ifCond .ne 23, [6]), (.aload_n 0, []), (.getfield 91, [1, 6, 41, 25, 0, 915]), (.aload_n 0, []), (.getfield 122, [0, 6, 2, 0, 876]), (.aload_n 0, []), (.getfield 132, [0, 6, 5, 0, 879]), (.iconst 0, []), (.invokestatic 361, [160, 3, 0, 1414]), (.iaload, []), (.goto 27, [8])]))
def b_X6_duel_6 : ABlk := (80, ([true, false, false], [(.aload_n 0, []), (.getfield 122, [0, 6, 2, 0, 876]), (.ifCond .ne 7, [7]), (.iconst 0, []), (.goto 16, [8])]))
def b_X6_duel_7 : ABlk := (91, ([true, false, false], [(.aload_n 0, []), (.aload_n 0, []), (.getfield 122, [0, 6, 2, 0, 876]), (.aload_n 0, []), (.getfield 132, [0, 6, 5, 0, 879]), (.iconst 0, []), (.invokevirtual 371, [163, 4, 0, 1417]), (.nop, [8])]))
def b_X6_duel_8 : ABlk := (104, ([false, false, false], [(.ireturn, [])]))
def k_X6_duel : List ABlk := [b_X6_duel_0, b_X6_duel_1, b_X6_duel_2, b_X6_duel_3, b_X6_duel_4, b_X6_duel_5, b_X6_duel_6, b_X6_duel_7, b_X6_duel_8]
def md_X6_duel : MDat := (yX6_duel, (cX6_duel, (3, (some .int, (false, (1, (6, ([1409, 1407, 1408, 124], k_X6_duel))))))))
def n_X6_duel : Nat := 165
def b_X6_row_0 : ABlk := (0, ([true, true], [(.aload_n 0, []), (.iconst 0, []), (.putfield 97, [0, 6, 12, 0, 886]), (.iload_n 1, []), (.ifCond .ge 10, [1]), (.aload_n 0, []), (.bipush (-4), []), (.invokevirtual 168, [63, 2, 0, 1027]), (.ireturn, [])]))
def b_X6_row_1 : ABlk := (16, ([true, true], [(.iload_n 1, []), (.bipush 99, []), (.if_icmp .gt 12, [2]), (.aload_n 0, []), (.getfield 263, [0, 6, 43, 0, 917]), (.bipush 12, []), (.if_icmp .ne 10, [3]), (.nop, [2])]))
def b_X6_row_2 : ABlk := (31, ([true, false], [(.aload_n 0, []), (.bipush (-6), []), (.invokevirtual 168, [63, 2, 0, 1027]), (.ireturn, [])]))
def b_X6_row_3 : ABlk := (38, ([true, true], [(.aload_n 0, []), (.getfield 94, [1, 6, 42, 26, 0, 916]), (.aload_n 0, []), (.getfield 263, [0, 6, 43, 0, 917]), (.iload_n 1, []), (.iastore, []), (.aload_n 0, []), (.dup, []), (.getfield 263, [0, 6, 43, 0, 917]), (.iconst 1, []), (.iadd, []), (.putfield 263, [0, 6, 43, 0, 917]), (.aload_n 0, []), (.getfield 263, [0, 6, 43, 0, 917]), (.ireturn, [])]))
def k_X6_row : List ABlk := [b_X6_row_0, b_X6_row_1, b_X6_row_2, b_X6_row_3]
def md_X6_row : MDat := (yX6_row, (cX6_row, (2, (some .int, (false, (1, (6, ([1431, 1429, 1430, 124], k_X6_row))))))))
def n_X6_row : Nat := 166
def b_X6_judge_0 : ABlk := (0, ([true, false, false, false], [(.aload_n 0, []), (.iconst 0, []), (.putfield 97, [0, 6, 12, 0, 886]), (.aload_n 0, []), (.getfield 263, [0, 6, 43, 0, 917]), (.istore_n 1, []), (.aload_n 0, []), (.iconst 0, []), (.putfield 263, [0, 6, 43, 0, 917]), (.bipush (-9), []), (.istore_n 2, []), (.aload_n 0, []), (.invokevirtual 233, [80, 1, 0, 1068]), (.iconst 0, []), (.istore_n 3, []), (.nop, [1])]))
def b_X6_judge_1 : ABlk := (24, ([true, true, true, true], [(.iload_n 3, []), (.iload_n 1, []), (.if_icmp .ge 40, [5]), (.iload_n 2, []), (.ifCond .ge 36, [5]), (.aload_n 0, []), (.getfield 107, [0, 6, 1, 0, 875]), (.ifCond .eq 16, [2]), (.aload_n 0, []), (.invokevirtual 138, [75, 1, 0, 1100]), (.aload_n 0, []), (.getfield 94, [1, 6, 42, 26, 0, 916]), (.iload_n 3, []), (.iaload, []), (.if_icmp .eq 7, [3]), (.nop, [2])]))
def b_X6_judge_2 : ABlk := (53, ([true, true, false, true], [(.iload_n 3, []), (.goto 5, [4])]))
def b_X6_judge_3 : ABlk := (57, ([true, true, false, true], [(.bipush (-9), []), (.nop, [4])]))
def b_X6_judge_4 : ABlk := (59, ([true, true, false, true], [(.istore_n 2, []), (.iinc 3 1, []), (.goto (-39), [1])]))
def b_X6_judge_5 : ABlk := (66, ([true, false, true, false], [(.aload_n 0, []), (.invokevirtual 239, [81, 1, 0, 1128]), (.iload_n 2, []), (.ireturn, [])]))
def k_X6_judge : List ABlk := [b_X6_judge_0, b_X6_judge_1, b_X6_judge_2, b_X6_judge_3, b_X6_judge_4, b_X6_judge_5]
def md_X6_judge : MDat := (yX6_judge, (cX6_judge, (4, (some .int, (false, (0, (6, ([1435, 1433, 1434, 124], k_X6_judge))))))))
def n_X6_judge : Nat := 167
def b_X6_clear_0 : ABlk := (0, ([true, false], [(.aload_n 0, []), (.iconst 0, []), (.putfield 97, [0, 6, 12, 0, 886]), (.aload_n 0, []), (.getfield 263, [0, 6, 43, 0, 917]), (.istore_n 1, []), (.aload_n 0, []), (.iconst 0, []), (.putfield 263, [0, 6, 43, 0, 917]), (.iload_n 1, []), (.ireturn, [])]))
def k_X6_clear : List ABlk := [b_X6_clear_0]
def md_X6_clear : MDat := (yX6_clear, (cX6_clear, (2, (some .int, (false, (0, (6, ([1439, 1437, 1438, 124], k_X6_clear))))))))
def n_X6_clear : Nat := 168
def b_X6_draw_0 : ABlk := (0, ([true, true], [(.aload_n 0, []), (.aload_n 0, []), (.getfield 377, [0, 6, 44, 0, 918]), (.ldc_w 380, [0, 1103515245, 0, 1448]), (.imul, [1]), (.sipush 12345, []), (.iadd, [1]), (.putfield 377, [0, 6, 44, 0, 918]), (.aload_n 0, []), (.getfield 377, [0, 6, 44, 0, 918]), (.ldc_w 381, [0, 2147483647, 0, 1449]), (.iand, [1]), (.ldc_w 382, [0, 65536, 0, 1450]), (.idiv, []), (.iload_n 1, []), (.irem, []), (.ireturn, [])]))
def k_X6_draw : List ABlk := [b_X6_draw_0]
def md_X6_draw : MDat := (yX6_draw, (cX6_draw, (2, (some .int, (false, (1, (6, ([1447, 1446, 116, 124], k_X6_draw))))))))
def n_X6_draw : Nat := 169
def b_X6_seeds_0 : ABlk := (0, ([true, true, true, true, true, false, false, false, false], [(.aload_n 0, []), (.iconst 0, []), (.putfield 97, [0, 6, 12, 0, 886]), (.aload_n 0, []), (.iload_n 1, []), (.invokevirtual 246, [65, 2, 0, 1151]), (.ifCond .eq 13, [1]), (.iload_n 2, []), (.iconst 1, []), (.bipush 20, []), (.invokestatic 242, [66, 3, 0, 1144]), (.goto 4, [2])]))
def b_X6_seeds_1 : ABlk := (23, ([true, true, true, true, true, false, false, false, false], [(.iconst (-1), []), (.nop, [2])]))
def b_X6_seeds_2 : ABlk := (24, ([true, true, true, true, true, false, false, false, false], [(.istore 5, []), (.iload 5, []), (.ifCond .ne 19, [3]), (.iload 4, []), (.i2l, []), (.lconst 0, []), (.lconst 1, []), (.invokestatic 103, [62, 3, 0, 1057]), (.ifCond .ne 8, [3]), (.bipush (-2), []), (.goto 5, [4])]))
def b_X6_seeds_3 : ABlk := (47, ([true, true, true, true, true, true, false, false, false], [(.iload 5, []), (.nop, [4])]))
def b_X6_seeds_4 : ABlk := (49, ([true, true, true, true, true, false, false, false, false], [(.istore 5, []), (.iload 5, []), (.ifCond .ge 10, [5]), (.aload_n 0, []), (.iload 5, []), (.invokevirtual 168, [63, 2, 0, 1027]), (.ireturn, [])]))
def b_X6_seeds_5 : ABlk := (63, ([true, true, true, true, true, false, false, false, false], [(.aload_n 0, []), (.invokevirtual 233, [80, 1, 0, 1068]), (.aload_n 0, []), (.iload_n 3, []), (.putfield 377, [0, 6, 44, 0, 918]), (.iconst 0, []), (.istore 6, []), (.iconst 0, []), (.istore 7, []), (.iconst 0, []), (.istore 8, []), (.nop, [6])]))
def b_X6_seeds_6 : ABlk := (81, ([true, true, true, false, true, false, true, true, true], [(.iload 8, []), (.iload_n 2, []), (.if_icmp .ge 67, [9]), (.aload_n 0, []), (.invokevirtual 239, [81, 1, 0, 1128]), (.aload_n 0, []), (.aload_n 0, []), (.bipush 61, []), (.invokevirtual 383, [169, 2, 0, 1444]), (.putfield 122, [0, 6, 2, 0, 876]), (.aload_n 0, []), (.aload_n 0, []), (.aload_n 0, []), (.getfield 107, [0, 6, 1, 0, 875]), (.invokevirtual 383, [169, 2, 0, 1444]), (.putfield 132, [0, 6, 5, 0, 879]), (.aload_n 0, []), (.invokevirtual 257, [76, 1, 0, 1192]), (.pop, []), (.iload 6, []), (.aload_n 0, []), (.iload_n 1, []), (.invokevirtual 141, [71, 2, 0, 1156]), (.ifCond .eq 7, [7]), (.iconst 1, []), (.goto 4, [8])]))
def b_X6_seeds_7 : ABlk := (132, ([true, true, true, false, true, false, false, true, true], [(.iconst 0, []), (.nop, [8])]))
def b_X6_seeds_8 : ABlk := (133, ([true, true, true, false, true, false, false, true, true], [(.iadd, []), (.istore 6, []), (.iload 7, []), (.aload_n 0, []), (.getfield 122, [0, 6, 2, 0, 876]), (.iadd, []), (.istore 7, []), (.iinc 8 1, []), (.goto (-67), [6])]))
def b_X6_seeds_9 : ABlk := (151, ([true, false, false, false, true, false, true, true, false], [(.aload_n 0, []), (.invokevirtual 239, [81, 1, 0, 1128]), (.iload 4, []), (.ifCond .ne 8, [10]), (.iload 6, []), (.goto 5, [11])]))
def b_X6_seeds_10 : ABlk := (165, ([false, false, false, false, false, false, false, true, false], [(.iload 7, []), (.nop, [11])]))
def b_X6_seeds_11 : ABlk := (167, ([false, false, false, false, false, false, false, false, false], [(.ireturn, [])]))
def k_X6_seeds : List ABlk := [b_X6_seeds_0, b_X6_seeds_1, b_X6_seeds_2, b_X6_seeds_3, b_X6_seeds_4, b_X6_seeds_5, b_X6_seeds_6, b_X6_seeds_7, b_X6_seeds_8, b_X6_seeds_9, b_X6_seeds_10, b_X6_seeds_11]
def md_X6_seeds : MDat := (yX6_seeds, (cX6_seeds, (9, (some .int, (false, (4, (6, ([1443, 1441, 1442, 124], k_X6_seeds))))))))
def n_X6_seeds : Nat := 170
def b_X6_count_0 : ABlk := (0, ([true, true, false, false], [(.aload_n 0, []), (.iconst 0, []), (.putfield 97, [0, 6, 12, 0, 886]), (.iconst 0, []), (.istore_n 2, []), (.iconst 0, []), (.istore_n 3, []), (.nop, [1])]))
def b_X6_count_1 : ABlk := (9, ([true, true, true, true], [(.iload_n 3, []), (.aload_n 0, []), (.getfield 107, [0, 6, 1, 0, 875]), (.if_icmp .ge 18, [2]), (.iload_n 2, []), (.aload_n 0, []), (.getfield 32, [1, 6, 11, 6, 0, 885]), (.iload_n 3, []), (.iaload, []), (.iadd, []), (.istore_n 2, []), (.iinc 3 1, []), (.goto (-20), [1])]))
def b_X6_count_2 : ABlk := (32, ([true, true, true, false], [(.iload_n 1, []), (.tableswitch 176 0 18 #[91, 96, 101, 106, 111, 116, 121, 123, 128, 133, 138, 176, 176, 176, 176, 176, 176, 143, 148], [16, 3, 4, 5, 6, 7, 8, 9, 10, 11, 12, 13, 16, 16, 16, 16, 16, 16, 14, 15])]))
def b_X6_count_3 : ABlk := (124, ([true, false, false, false], [(.aload_n 0, []), (.getfield 107, [0, 6, 1, 0, 875]), (.ireturn, [])]))
def b_X6_count_4 : ABlk := (129, ([true, false, false, false], [(.aload_n 0, []), (.getfield 100, [0, 6, 0, 0, 874]), (.ireturn, [])]))
def b_X6_count_5 : ABlk := (134, ([true, false, false, false], [(.aload_n 0, []), (.getfield 122, [0, 6, 2, 0, 876]), (.ireturn, [])]))
def b_X6_count_6 : ABlk := (139, ([true, false, false, false], [(.aload_n 0, []), (.getfield 7, [0, 6, 3, 0, 877]), (.ireturn, [])]))
def b_X6_count_7 : ABlk := (144, ([true, false, false, false], [(.aload_n 0, []), (.getfield 13, [0, 6, 4, 0, 878]), (.ireturn, [])]))
def b_X6_count_8 : ABlk := (149, ([true, false, false, false], [(.aload_n 0, []), (.getfield 132, [0, 6, 5, 0, 879]), (.ireturn, [])]))
def b_X6_count_9 : ABlk := (154, ([false, false, true, false], [(.iload_n 2, []), (.ireturn, [])]))
def b_X6_count_10 : ABlk := (156, ([true, false, false, false], [(.aload_n 0, []), (.getfield 174, [0, 6, 21, 0, 895]), (.ireturn, [])]))
def b_X6_count_11 : ABlk := (161, ([true, false, false, false], [(.aload_n 0, []), (.getfield 263, [0, 6, 43, 0, 917]), (.ireturn, [])]))
def b_X6_count_12 : ABlk := (166, ([true, false, false, false], [(.aload_n 0, []), (.invokevirtual 260, [77, 1, 0, 1196]), (.ireturn, [])]))
def b_X6_count_13 : ABlk := (171, ([true, false, false, false], [(.aload_n 0, []), (.getfield 158, [0, 6, 39, 0, 913]), (.ireturn, [])]))
def b_X6_count_14 : ABlk := (176, ([true, false, false, false], [(.aload_n 0, []), (.getfield 171, [0, 6, 31, 0, 905]), (.ireturn, [])]))
def b_X6_count_15 : ABlk := (181, ([true, false, false, false], [(.aload_n 0, []), (.getfield 85, [1, 6, 38, 23, 0, 912]), (.iconst 0, []), (.iaload, []), (.aload_n 0, []), (.getfield 85, [1, 6, 38, 23, 0, 912]), (.iconst 1, []), (.iaload, []), (.iadd, []), (.aload_n 0, []), (.getfield 85, [1, 6, 38, 23, 0, 912]), (.iconst 2, []), (.iaload, []), (.iadd, []), (.aload_n 0, []), (.getfield 85, [1, 6, 38, 23, 0, 912]), (.iconst 3, []), (.iaload, []), (.iadd, []), (.ireturn, [])]))
def b_X6_count_16 : ABlk := (209, ([true, true, false, false], [(.iload_n 1, []), (.i2l, []), (.ldc2_w 386, [11, 0, 1455]), (.ldc2_w 388, [16, 0, 1456]), (.invokestatic 103, [62, 3, 0, 1057]), (.ifCond .eq 15, [17]), (.aload_n 0, []), (.getfield 35, [1, 6, 13, 7, 0, 887]), (.iload_n 1, []), (.bipush 10, []), (.isub, []), (.iaload, []), (.goto 5, [18])]))
def b_X6_count_17 : ABlk := (235, ([false, false, false, false], [(.bipush (-9), []), (.nop, [18])]))
def b_X6_count_18 : ABlk := (237, ([false, false, false, false], [(.ireturn, [])]))
def k_X6_count : List ABlk := [b_X6_count_0, b_X6_count_1, b_X6_count_2, b_X6_count_3, b_X6_count_4, b_X6_count_5, b_X6_count_6, b_X6_count_7, b_X6_count_8, b_X6_count_9, b_X6_count_10, b_X6_count_11, b_X6_count_12, b_X6_count_13, b_X6_count_14, b_X6_count_15, b_X6_count_16, b_X6_count_17, b_X6_count_18]
def md_X6_count : MDat := (yX6_count, (cX6_count, (4, (some .int, (false, (1, (6, ([1454, 1452, 1453, 124], k_X6_count))))))))
def n_X6_count : Nat := 171
def b_X0_copyFrom_0 : ABlk := (0, ([true, true], [(.aload_n 0, []), (.aload_n 1, []), (.getfield 40, [0, 0, 0, 0, 146]), (.putfield 40, [0, 0, 0, 0, 146]), (.aload_n 0, []), (.aload_n 1, []), (.getfield 43, [0, 0, 3, 0, 153]), (.putfield 43, [0, 0, 3, 0, 153]), (.aload_n 0, []), (.aload_n 1, []), (.getfield 46, [0, 0, 8, 0, 170]), (.putfield 46, [0, 0, 8, 0, 170]), (.aload_n 0, []), (.aload_n 1, []), (.getfield 30, [0, 0, 9, 0, 174]), (.putfield 30, [0, 0, 9, 0, 174]), (.aload_n 0, []), (.aload_n 1, []), (.getfield 34, [0, 0, 10, 0, 176]), (.putfield 34, [0, 0, 10, 0, 176]), (.aload_n 0, []), (.aload_n 1, []), (.getfield 49, [0, 0, 11, 0, 179]), (.putfield 49, [0, 0, 11, 0, 179]), (.aload_n 0, []), (.aload_n 1, []), (.getfield 52, [0, 0, 12, 0, 183]), (.putfield 52, [0, 0, 12, 0, 183]), (.aload_n 1, []), (.getfield 9, [1, 0, 1, 1, 0, 148]), (.iconst 0, []), (.aload_n 0, []), (.getfield 9, [1, 0, 1, 1, 0, 148]), (.iconst 0, []), (.iconst 4, []), (.invokestatic 55, [2, 408]), (.aload_n 1, []), (.getfield 15, [1, 0, 2, 2, 0, 151]), (.iconst 0, []), (.aload_n 0, []), (.getfield 15, [1, 0, 2, 2, 0, 151]), (.iconst 0, []), (.iconst 4, []), (.invokestatic 55, [2, 408]), (.aload_n 1, []), (.getfield 18, [1, 0, 4, 3, 0, 158]), (.iconst 0, []), (.aload_n 0, []), (.getfield 18, [1, 0, 4, 3, 0, 158]), (.iconst 0, []), (.iconst 4, []), (.invokestatic 55, [2, 408]), (.aload_n 1, []), (.getfield 21, [1, 0, 5, 4, 0, 160]), (.iconst 0, []), (.aload_n 0, []), (.getfield 21, [1, 0, 5, 4, 0, 160]), (.iconst 0, []), (.iconst 4, []), (.invokestatic 55, [2, 408]), (.aload_n 1, []), (.getfield 24, [1, 0, 6, 5, 0, 162]), (.iconst 0, []), (.aload_n 0, []), (.getfield 24, [1, 0, 6, 5, 0, 162]), (.iconst 0, []), (.iconst 4, []), (.invokestatic 55, [2, 408]), (.aload_n 1, []), (.getfield 27, [1, 0, 7, 6, 0, 164]), (.iconst 0, []), (.aload_n 0, []), (.getfield 27, [1, 0, 7, 6, 0, 164]), (.iconst 0, []), (.iconst 4, []), (.invokestatic 55, [2, 408]), (.aload_n 1, []), (.getfield 37, [1, 0, 13, 7, 0, 186]), (.iconst 0, []), (.aload_n 0, []), (.getfield 37, [1, 0, 13, 7, 0, 186]), (.iconst 0, []), (.iconst 4, []), (.invokestatic 55, [2, 408]), (.return_, [])]))
def k_X0_copyFrom : List ABlk := [b_X0_copyFrom_0]
def md_X0_copyFrom : MDat := (yX0_copyFrom, (cX0_copyFrom, (2, (none, (false, (1, (0, ([407, 406, 6, 119], k_X0_copyFrom))))))))
def n_X0_copyFrom : Nat := 172
def b_X0_hasRhyme_0 : ABlk := (0, ([true, true], [(.iload_n 1, []), (.ifCond .lt 15, [1]), (.iload_n 1, []), (.aload_n 0, []), (.getfield 40, [0, 0, 0, 0, 146]), (.if_icmp .ge 7, [1]), (.iconst 1, []), (.goto 4, [2])]))
def b_X0_hasRhyme_1 : ABlk := (16, ([false, false], [(.iconst 0, []), (.nop, [2])]))
def b_X0_hasRhyme_2 : ABlk := (17, ([false, false], [(.ireturn, [1])]))
def k_X0_hasRhyme : List ABlk := [b_X0_hasRhyme_0, b_X0_hasRhyme_1, b_X0_hasRhyme_2]
def md_X0_hasRhyme : MDat := (yX0_hasRhyme, (cX0_hasRhyme, (2, (some .boolean, (false, (1, (0, ([446, 445, 15, 119], k_X0_hasRhyme))))))))
def n_X0_hasRhyme : Nat := 173
def b_X0_hasWord_0 : ABlk := (0, ([true, true, true], [(.aload_n 0, []), (.iload_n 1, []), (.invokevirtual 61, [173, 2, 0, 443]), (.ifCond .eq 21, [1]), (.iload_n 2, []), (.ifCond .lt 17, [1]), (.iload_n 2, []), (.aload_n 0, []), (.getfield 9, [1, 0, 1, 1, 0, 148]), (.iload_n 1, []), (.iaload, []), (.if_icmp .ge 7, [1]), (.iconst 1, []), (.goto 4, [2])]))
def b_X0_hasWord_1 : ABlk := (26, ([false, false, false], [(.iconst 0, []), (.nop, [2])]))
def b_X0_hasWord_2 : ABlk := (27, ([false, false, false], [(.ireturn, [1])]))
def k_X0_hasWord : List ABlk := [b_X0_hasWord_0, b_X0_hasWord_1, b_X0_hasWord_2]
def md_X0_hasWord : MDat := (yX0_hasWord, (cX0_hasWord, (3, (some .boolean, (false, (2, (0, ([442, 441, 14, 119], k_X0_hasWord))))))))
def n_X0_hasWord : Nat := 174
def b_X0_hasEater_0 : ABlk := (0, ([true, true], [(.iload_n 1, []), (.ifCond .lt 15, [1]), (.iload_n 1, []), (.aload_n 0, []), (.getfield 43, [0, 0, 3, 0, 153]), (.if_icmp .ge 7, [1]), (.iconst 1, []), (.goto 4, [2])]))
def b_X0_hasEater_1 : ABlk := (16, ([false, false], [(.iconst 0, []), (.nop, [2])]))
def b_X0_hasEater_2 : ABlk := (17, ([false, false], [(.ireturn, [1])]))
def k_X0_hasEater : List ABlk := [b_X0_hasEater_0, b_X0_hasEater_1, b_X0_hasEater_2]
def md_X0_hasEater : MDat := (yX0_hasEater, (cX0_hasEater, (2, (some .boolean, (false, (1, (0, ([458, 457, 18, 119], k_X0_hasEater))))))))
def n_X0_hasEater : Nat := 175
def b_X0_wordTo_0 : ABlk := (0, ([true, true, true], [(.aload_n 0, []), (.iload_n 1, []), (.invokevirtual 61, [173, 2, 0, 443]), (.ifCond .eq 22, [1]), (.aload_n 0, []), (.getfield 9, [1, 0, 1, 1, 0, 148]), (.iload_n 1, []), (.iaload, []), (.aload_n 0, []), (.getfield 15, [1, 0, 2, 2, 0, 151]), (.iload_n 1, []), (.iaload, []), (.iload_n 2, []), (.invokestatic 65, [58, 3, 1, 470]), (.goto 5, [2])]))
def b_X0_wordTo_1 : ABlk := (27, ([false, false, false], [(.bipush (-9), []), (.nop, [2])]))
def b_X0_wordTo_2 : ABlk := (29, ([false, false, false], [(.ireturn, [])]))
def k_X0_wordTo : List ABlk := [b_X0_wordTo_0, b_X0_wordTo_1, b_X0_wordTo_2]
def md_X0_wordTo : MDat := (yX0_wordTo, (cX0_wordTo, (3, (some .int, (false, (2, (0, ([511, 510, 25, 119], k_X0_wordTo))))))))
def n_X0_wordTo : Nat := 176
def b_X0_pleases_0 : ABlk := (0, ([true, true, true], [(.aload_n 0, []), (.iload_n 1, []), (.invokevirtual 69, [175, 2, 0, 455]), (.ifCond .eq 39, [1]), (.aload_n 0, []), (.getfield 40, [0, 0, 0, 0, 146]), (.ifCond .le 32, [1]), (.aload_n 0, []), (.getfield 9, [1, 0, 1, 1, 0, 148]), (.iconst 0, []), (.iaload, []), (.aload_n 0, []), (.getfield 15, [1, 0, 2, 2, 0, 151]), (.iconst 0, []), (.iaload, []), (.iload_n 2, []), (.invokestatic 65, [58, 3, 1, 470]), (.aload_n 0, []), (.getfield 24, [1, 0, 6, 5, 0, 162]), (.iload_n 1, []), (.iaload, []), (.if_icmp .ne 7, [1]), (.iconst 1, []), (.goto 4, [2])]))
def b_X0_pleases_1 : ABlk := (44, ([false, false, false], [(.iconst 0, []), (.nop, [2])]))
def b_X0_pleases_2 : ABlk := (45, ([false, false, false], [(.ireturn, [1])]))
def k_X0_pleases : List ABlk := [b_X0_pleases_0, b_X0_pleases_1, b_X0_pleases_2]
def md_X0_pleases : MDat := (yX0_pleases, (cX0_pleases, (3, (some .boolean, (false, (2, (0, ([469, 468, 20, 119], k_X0_pleases))))))))
def n_X0_pleases : Nat := 177
def b_X0_leastPleasing_0 : ABlk := (0, ([true, true, false], [(.iconst 1, []), (.istore_n 2, []), (.nop, [1])]))
def b_X0_leastPleasing_1 : ABlk := (2, ([true, true, true], [(.iload_n 2, []), (.bipush 12, []), (.if_icmp .gt 20, [3]), (.aload_n 0, []), (.iload_n 1, []), (.iload_n 2, []), (.invokevirtual 72, [177, 3, 0, 466]), (.ifCond .eq 5, [2]), (.iload_n 2, []), (.ireturn, [])]))
def b_X0_leastPleasing_2 : ABlk := (19, ([true, true, true], [(.iinc 2 1, []), (.goto (-20), [1])]))
def b_X0_leastPleasing_3 : ABlk := (25, ([false, false, false], [(.bipush 100, []), (.ireturn, [])]))
def k_X0_leastPleasing : List ABlk := [b_X0_leastPleasing_0, b_X0_leastPleasing_1, b_X0_leastPleasing_2, b_X0_leastPleasing_3]
def md_X0_leastPleasing : MDat := (yX0_leastPleasing, (cX0_leastPleasing, (3, (some .int, (false, (1, (0, ([737, 736, 46, 119], k_X0_leastPleasing))))))))
def n_X0_leastPleasing : Nat := 178
def b_X0_isPleased_0 : ABlk := (0, ([true, true], [(.aload_n 0, []), (.iload_n 1, []), (.invokevirtual 69, [175, 2, 0, 455]), (.ifCond .eq 21, [1]), (.aload_n 0, []), (.iload_n 1, []), (.aload_n 0, []), (.getfield 27, [1, 0, 7, 6, 0, 164]), (.iload_n 1, []), (.iaload, []), (.invokevirtual 72, [177, 3, 0, 466]), (.ifCond .eq 7, [1]), (.iconst 1, []), (.goto 4, [2])]))
def b_X0_isPleased_1 : ABlk := (26, ([false, false], [(.iconst 0, []), (.nop, [2])]))
def b_X0_isPleased_2 : ABlk := (27, ([false, false], [(.ireturn, [1])]))
def k_X0_isPleased : List ABlk := [b_X0_isPleased_0, b_X0_isPleased_1, b_X0_isPleased_2]
def md_X0_isPleased : MDat := (yX0_isPleased, (cX0_isPleased, (2, (some .boolean, (false, (1, (0, ([558, 557, 29, 119], k_X0_isPleased))))))))
def n_X0_isPleased : Nat := 179
def b_X0_pleasedBits_0 : ABlk := (0, ([true, false, false], [(.iconst 0, []), (.istore_n 1, []), (.iconst 0, []), (.istore_n 2, []), (.nop, [1])]))
def b_X0_pleasedBits_1 : ABlk := (4, ([true, true, true], [(.iload_n 2, []), (.aload_n 0, []), (.getfield 43, [0, 0, 3, 0, 153]), (.if_icmp .ge 23, [3]), (.aload_n 0, []), (.iload_n 2, []), (.invokevirtual 76, [179, 2, 0, 611]), (.ifCond .eq 9, [2]), (.iload_n 1, []), (.iconst 1, []), (.iload_n 2, []), (.ishl, []), (.ior, []), (.istore_n 1, []), (.nop, [2])]))
def b_X0_pleasedBits_2 : ABlk := (26, ([true, true, true], [(.iinc 2 1, []), (.goto (-25), [1])]))
def b_X0_pleasedBits_3 : ABlk := (32, ([false, true, false], [(.iload_n 1, []), (.ireturn, [])]))
def k_X0_pleasedBits : List ABlk := [b_X0_pleasedBits_0, b_X0_pleasedBits_1, b_X0_pleasedBits_2, b_X0_pleasedBits_3]
def md_X0_pleasedBits : MDat := (yX0_pleasedBits, (cX0_pleasedBits, (3, (some .int, (false, (0, (0, ([610, 609, 35, 119], k_X0_pleasedBits))))))))
def n_X0_pleasedBits : Nat := 180
def b_X0_pleasedBy_0 : ABlk := (0, ([true, true, true, false, false], [(.iconst 0, []), (.istore_n 3, []), (.iconst 0, []), (.istore 4, []), (.nop, [1])]))
def b_X0_pleasedBy_1 : ABlk := (5, ([true, true, true, true, true], [(.iload 4, []), (.aload_n 0, []), (.getfield 43, [0, 0, 3, 0, 153]), (.if_icmp .ge 34, [3]), (.iload_n 1, []), (.iload_n 2, []), (.aload_n 0, []), (.getfield 27, [1, 0, 7, 6, 0, 164]), (.iload 4, []), (.iaload, []), (.invokestatic 65, [58, 3, 1, 470]), (.aload_n 0, []), (.getfield 24, [1, 0, 6, 5, 0, 162]), (.iload 4, []), (.iaload, []), (.if_icmp .ne 6, [2]), (.iinc 3 1, []), (.nop, [2])]))
def b_X0_pleasedBy_2 : ABlk := (39, ([true, true, true, true, true], [(.iinc 4 1, []), (.goto (-37), [1])]))
def b_X0_pleasedBy_3 : ABlk := (45, ([false, false, false, true, false], [(.iload_n 3, []), (.ireturn, [])]))
def k_X0_pleasedBy : List ABlk := [b_X0_pleasedBy_0, b_X0_pleasedBy_1, b_X0_pleasedBy_2, b_X0_pleasedBy_3]
def md_X0_pleasedBy : MDat := (yX0_pleasedBy, (cX0_pleasedBy, (5, (some .int, (false, (2, (0, ([545, 544, 28, 119], k_X0_pleasedBy))))))))
def n_X0_pleasedBy : Nat := 181
def b_X0_pleasedByPush_0 : ABlk := (0, ([true, true, true, true, false, false, false], [(.iload_n 1, []), (.iload_n 2, []), (.if_icmp .eq 19, [1]), (.aload_n 0, []), (.iload_n 1, []), (.invokevirtual 69, [175, 2, 0, 455]), (.ifCond .eq 11, [1]), (.aload_n 0, []), (.iload_n 2, []), (.invokevirtual 69, [175, 2, 0, 455]), (.ifCond .ne 5, [2]), (.nop, [1])]))
def b_X0_pleasedByPush_1 : ABlk := (21, ([false, false, false, false, false, false, false], [(.iconst 0, []), (.ireturn, [])]))
def b_X0_pleasedByPush_2 : ABlk := (23, ([true, true, true, true, false, false, false], [(.aload_n 0, []), (.getfield 27, [1, 0, 7, 6, 0, 164]), (.iload_n 1, []), (.iaload, []), (.iload_n 3, []), (.if_icmp .lt 16, [3]), (.aload_n 0, []), (.getfield 27, [1, 0, 7, 6, 0, 164]), (.iload_n 2, []), (.iaload, []), (.iload_n 3, []), (.iadd, []), (.bipush 99, []), (.if_icmp .le 5, [4]), (.nop, [3])]))
def b_X0_pleasedByPush_3 : ABlk := (46, ([false, false, false, false, false, false, false], [(.iconst 0, []), (.ireturn, [])]))
def b_X0_pleasedByPush_4 : ABlk := (48, ([true, true, true, true, false, false, false], [(.iconst 0, []), (.istore 4, []), (.iconst 0, []), (.istore 5, []), (.nop, [5])]))
def b_X0_pleasedByPush_5 : ABlk := (54, ([true, true, true, true, true, true, false], [(.iload 5, []), (.aload_n 0, []), (.getfield 43, [0, 0, 3, 0, 153]), (.if_icmp .ge 55, [10]), (.iload 5, []), (.iload_n 1, []), (.if_icmp .ne 8, [6]), (.iload_n 3, []), (.ineg, []), (.goto 14, [8])]))
def b_X0_pleasedByPush_6 : ABlk := (74, ([true, true, true, true, true, true, false], [(.iload 5, []), (.iload_n 2, []), (.if_icmp .ne 7, [7]), (.iload_n 3, []), (.goto 4, [8])]))
def b_X0_pleasedByPush_7 : ABlk := (84, ([true, true, true, true, true, true, false], [(.iconst 0, []), (.nop, [8])]))
def b_X0_pleasedByPush_8 : ABlk := (85, ([true, true, true, true, true, true, false], [(.istore 6, []), (.aload_n 0, []), (.iload 5, []), (.aload_n 0, []), (.getfield 27, [1, 0, 7, 6, 0, 164]), (.iload 5, []), (.iaload, []), (.iload 6, []), (.iadd, []), (.invokevirtual 72, [177, 3, 0, 466]), (.ifCond .eq 6, [9]), (.iinc 4 1, []), (.nop, [9])]))
def b_X0_pleasedByPush_9 : ABlk := (109, ([true, true, true, true, true, true, false], [(.iinc 5 1, []), (.goto (-58), [5])]))
def b_X0_pleasedByPush_10 : ABlk := (115, ([false, false, false, false, true, false, false], [(.iload 4, []), (.ireturn, [])]))
def k_X0_pleasedByPush : List ABlk := [b_X0_pleasedByPush_0, b_X0_pleasedByPush_1, b_X0_pleasedByPush_2, b_X0_pleasedByPush_3, b_X0_pleasedByPush_4, b_X0_pleasedByPush_5, b_X0_pleasedByPush_6, b_X0_pleasedByPush_7, b_X0_pleasedByPush_8, b_X0_pleasedByPush_9, b_X0_pleasedByPush_10]
def md_X0_pleasedByPush : MDat := (yX0_pleasedByPush, (cX0_pleasedByPush, (7, (some .int, (false, (3, (0, ([720, 719, 43, 119], k_X0_pleasedByPush))))))))
def n_X0_pleasedByPush : Nat := 182
def b_X0_allStones_0 : ABlk := (0, ([true, false, false], [(.iconst 0, []), (.istore_n 1, []), (.iconst 0, []), (.istore_n 2, []), (.nop, [1])]))
def b_X0_allStones_1 : ABlk := (4, ([true, true, true], [(.iload_n 2, []), (.aload_n 0, []), (.getfield 43, [0, 0, 3, 0, 153]), (.if_icmp .ge 18, [2]), (.iload_n 1, []), (.aload_n 0, []), (.getfield 27, [1, 0, 7, 6, 0, 164]), (.iload_n 2, []), (.iaload, []), (.iadd, []), (.istore_n 1, []), (.iinc 2 1, []), (.goto (-20), [1])]))
def b_X0_allStones_2 : ABlk := (27, ([false, true, false], [(.iload_n 1, []), (.ireturn, [])]))
def k_X0_allStones : List ABlk := [b_X0_allStones_0, b_X0_allStones_1, b_X0_allStones_2]
def md_X0_allStones : MDat := (yX0_allStones, (cX0_allStones, (3, (some .int, (false, (0, (0, ([732, 731, 45, 119], k_X0_allStones))))))))
def n_X0_allStones : Nat := 183
def b_X0_allOnPiles_0 : ABlk := (0, ([true, false, false], [(.iconst 0, []), (.istore_n 1, []), (.iconst 0, []), (.istore_n 2, []), (.nop, [1])]))
def b_X0_allOnPiles_1 : ABlk := (4, ([true, true, true], [(.iload_n 2, []), (.aload_n 0, []), (.getfield 52, [0, 0, 12, 0, 183]), (.if_icmp .ge 18, [2]), (.iload_n 1, []), (.aload_n 0, []), (.getfield 37, [1, 0, 13, 7, 0, 186]), (.iload_n 2, []), (.iaload, []), (.iadd, []), (.istore_n 1, []), (.iinc 2 1, []), (.goto (-20), [1])]))
def b_X0_allOnPiles_2 : ABlk := (27, ([false, true, false], [(.iload_n 1, []), (.ireturn, [])]))
def k_X0_allOnPiles : List ABlk := [b_X0_allOnPiles_0, b_X0_allOnPiles_1, b_X0_allOnPiles_2]
def md_X0_allOnPiles : MDat := (yX0_allOnPiles, (cX0_allOnPiles, (3, (some .int, (false, (0, (0, ([867, 866, 59, 119], k_X0_allOnPiles))))))))
def n_X0_allOnPiles : Nat := 184
def b_X0_addRhyme_0 : ABlk := (0, ([true, true], [(.aload_n 0, []), (.getfield 40, [0, 0, 0, 0, 146]), (.iconst 4, []), (.if_icmp .ge 14, [1]), (.iload_n 1, []), (.iconst 2, []), (.if_icmp .lt 9, [1]), (.iload_n 1, []), (.bipush 12, []), (.if_icmp .le 5, [2]), (.nop, [1])]))
def b_X0_addRhyme_1 : ABlk := (19, ([false, false], [(.iconst 0, []), (.ireturn, [1])]))
def b_X0_addRhyme_2 : ABlk := (21, ([true, true], [(.aload_n 0, []), (.getfield 9, [1, 0, 1, 1, 0, 148]), (.aload_n 0, []), (.getfield 40, [0, 0, 0, 0, 146]), (.iload_n 1, []), (.iastore, []), (.aload_n 0, []), (.getfield 15, [1, 0, 2, 2, 0, 151]), (.aload_n 0, []), (.getfield 40, [0, 0, 0, 0, 146]), (.iconst 0, []), (.iastore, []), (.aload_n 0, []), (.dup, []), (.getfield 40, [0, 0, 0, 0, 146]), (.iconst 1, []), (.iadd, []), (.putfield 40, [0, 0, 0, 0, 146]), (.iconst 1, []), (.ireturn, [1])]))
def k_X0_addRhyme : List ABlk := [b_X0_addRhyme_0, b_X0_addRhyme_1, b_X0_addRhyme_2]
def md_X0_addRhyme : MDat := (yX0_addRhyme, (cX0_addRhyme, (2, (some .boolean, (false, (1, (0, ([426, 425, 10, 119], k_X0_addRhyme))))))))
def n_X0_addRhyme : Nat := 185
def b_X0_addEater_0 : ABlk := (0, ([true, true, true, true, true], [(.aload_n 0, []), (.getfield 43, [0, 0, 3, 0, 153]), (.iconst 4, []), (.if_icmp .ge 15, [1]), (.iload_n 1, []), (.bipush 6, []), (.if_icmp .ge 9, [1]), (.iload_n 3, []), (.bipush 12, []), (.if_icmp .lt 5, [2]), (.nop, [1])]))
def b_X0_addEater_1 : ABlk := (20, ([false, false, false, false, false], [(.iconst 0, []), (.ireturn, [1])]))
def b_X0_addEater_2 : ABlk := (22, ([true, true, true, true, true], [(.aload_n 0, []), (.getfield 18, [1, 0, 4, 3, 0, 158]), (.aload_n 0, []), (.getfield 43, [0, 0, 3, 0, 153]), (.iload_n 1, []), (.iastore, []), (.aload_n 0, []), (.getfield 21, [1, 0, 5, 4, 0, 160]), (.aload_n 0, []), (.getfield 43, [0, 0, 3, 0, 153]), (.iload_n 2, []), (.iastore, []), (.aload_n 0, []), (.getfield 24, [1, 0, 6, 5, 0, 162]), (.aload_n 0, []), (.getfield 43, [0, 0, 3, 0, 153]), (.iload_n 3, []), (.iastore, []), (.aload_n 0, []), (.getfield 27, [1, 0, 7, 6, 0, 164]), (.aload_n 0, []), (.getfield 43, [0, 0, 3, 0, 153]), (.iload 4, []), (.iastore, []), (.aload_n 0, []), (.dup, []), (.getfield 43, [0, 0, 3, 0, 153]), (.iconst 1, []), (.iadd, []), (.putfield 43, [0, 0, 3, 0, 153]), (.iconst 1, []), (.ireturn, [1])]))
def k_X0_addEater : List ABlk := [b_X0_addEater_0, b_X0_addEater_1, b_X0_addEater_2]
def md_X0_addEater : MDat := (yX0_addEater, (cX0_addEater, (5, (some .boolean, (false, (4, (0, ([430, 429, 11, 119], k_X0_addEater))))))))
def n_X0_addEater : Nat := 186
def b_X0_fillBowl_0 : ABlk := (0, ([true, true, true, true], [(.iload_n 1, []), (.bipush 60, []), (.if_icmp .gt 13, [1]), (.iload_n 2, []), (.iconst 1, []), (.if_icmp .lt 8, [1]), (.iload_n 2, []), (.iconst 4, []), (.if_icmp .le 5, [2]), (.nop, [1])]))
def b_X0_fillBowl_1 : ABlk := (16, ([false, false, false, false], [(.iconst 0, []), (.ireturn, [1])]))
def b_X0_fillBowl_2 : ABlk := (18, ([true, true, true, true], [(.iload_n 3, []), (.iconst 1, []), (.if_icmp .lt 9, [3]), (.iload_n 3, []), (.bipush 6, []), (.if_icmp .le 5, [4]), (.nop, [3])]))
def b_X0_fillBowl_3 : ABlk := (29, ([false, false, false, false], [(.iconst 0, []), (.ireturn, [1])]))
def b_X0_fillBowl_4 : ABlk := (31, ([true, true, true, true], [(.aload_n 0, []), (.iload_n 1, []), (.putfield 46, [0, 0, 8, 0, 170]), (.aload_n 0, []), (.iload_n 2, []), (.putfield 30, [0, 0, 9, 0, 174]), (.aload_n 0, []), (.iload_n 3, []), (.putfield 34, [0, 0, 10, 0, 176]), (.iconst 1, []), (.ireturn, [1])]))
def k_X0_fillBowl : List ABlk := [b_X0_fillBowl_0, b_X0_fillBowl_1, b_X0_fillBowl_2, b_X0_fillBowl_3, b_X0_fillBowl_4]
def md_X0_fillBowl : MDat := (yX0_fillBowl, (cX0_fillBowl, (4, (some .boolean, (false, (3, (0, ([434, 433, 12, 119], k_X0_fillBowl))))))))
def n_X0_fillBowl : Nat := 187
def b_X0_beginWith_0 : ABlk := (0, ([true, true, true], [(.aload_n 0, []), (.iload_n 1, []), (.iload_n 2, []), (.invokevirtual 79, [174, 3, 0, 439]), (.ifCond .ne 5, [1]), (.iconst 0, []), (.ireturn, [1])]))
def b_X0_beginWith_1 : ABlk := (11, ([true, true, true], [(.aload_n 0, []), (.getfield 15, [1, 0, 2, 2, 0, 151]), (.iload_n 1, []), (.iload_n 2, []), (.iastore, []), (.iconst 1, []), (.ireturn, [1])]))
def k_X0_beginWith : List ABlk := [b_X0_beginWith_0, b_X0_beginWith_1]
def md_X0_beginWith : MDat := (yX0_beginWith, (cX0_beginWith, (3, (some .boolean, (false, (2, (0, ([438, 437, 13, 119], k_X0_beginWith))))))))
def n_X0_beginWith : Nat := 188
def b_X0_takeTurn_0 : ABlk := (0, ([true], [(.aload_n 0, []), (.aload_n 0, []), (.invokevirtual 82, [191, 1, 0, 451]), (.invokevirtual 86, [190, 2, 0, 480]), (.ireturn, [])]))
def k_X0_takeTurn : List ABlk := [b_X0_takeTurn_0]
def md_X0_takeTurn : MDat := (yX0_takeTurn, (cX0_takeTurn, (1, (some .int, (false, (0, (0, ([450, 449, 16, 119], k_X0_takeTurn))))))))
def n_X0_takeTurn : Nat := 189
def b_X0_take_0 : ABlk := (0, ([true, true, false], [(.aload_n 0, []), (.aload_n 0, []), (.getfield 49, [0, 0, 11, 0, 179]), (.invokevirtual 69, [175, 2, 0, 455]), (.ifCond .ne 5, [1]), (.iconst 0, []), (.ireturn, [])]))
def b_X0_take_1 : ABlk := (13, ([true, true, false], [(.iload_n 1, []), (.aload_n 0, []), (.getfield 46, [0, 0, 8, 0, 170]), (.invokestatic 90, [1, 463]), (.istore_n 2, []), (.aload_n 0, []), (.dup, []), (.getfield 46, [0, 0, 8, 0, 170]), (.iload_n 2, []), (.isub, []), (.putfield 46, [0, 0, 8, 0, 170]), (.aload_n 0, []), (.getfield 27, [1, 0, 7, 6, 0, 164]), (.aload_n 0, []), (.getfield 49, [0, 0, 11, 0, 179]), (.bipush 99, []), (.aload_n 0, []), (.getfield 27, [1, 0, 7, 6, 0, 164]), (.aload_n 0, []), (.getfield 49, [0, 0, 11, 0, 179]), (.iaload, []), (.iload_n 2, []), (.iadd, []), (.invokestatic 90, [1, 463]), (.iastore, []), (.aload_n 0, []), (.aload_n 0, []), (.getfield 49, [0, 0, 11, 0, 179]), (.iconst 1, []), (.iadd, []), (.aload_n 0, []), (.getfield 43, [0, 0, 3, 0, 153]), (.irem, []), (.putfield 49, [0, 0, 11, 0, 179]), (.iload_n 2, []), (.ireturn, [])]))
def k_X0_take : List ABlk := [b_X0_take_0, b_X0_take_1]
def md_X0_take : MDat := (yX0_take, (cX0_take, (3, (some .int, (false, (1, (0, ([483, 482, 22, 119], k_X0_take))))))))
def n_X0_take : Nat := 190
def b_X0_wanted_0 : ABlk := (0, ([true], [(.aload_n 0, []), (.aload_n 0, []), (.getfield 49, [0, 0, 11, 0, 179]), (.invokevirtual 69, [175, 2, 0, 455]), (.ifCond .ne 5, [1]), (.iconst 0, []), (.ireturn, [])]))
def b_X0_wanted_1 : ABlk := (13, ([true], [(.aload_n 0, []), (.getfield 18, [1, 0, 4, 3, 0, 158]), (.aload_n 0, []), (.getfield 49, [0, 0, 11, 0, 179]), (.iaload, []), (.tableswitch 87 1 5 #[34, 44, 58, 71, 76], [7, 2, 3, 4, 5, 6])]))
def b_X0_wanted_2 : ABlk := (56, ([true], [(.aload_n 0, []), (.aload_n 0, []), (.getfield 49, [0, 0, 11, 0, 179]), (.iconst 1, []), (.invokevirtual 96, [192, 3, 0, 459]), (.ireturn, [])]))
def b_X0_wanted_3 : ABlk := (66, ([true], [(.iconst 1, []), (.aload_n 0, []), (.getfield 21, [1, 0, 5, 4, 0, 160]), (.aload_n 0, []), (.getfield 49, [0, 0, 11, 0, 179]), (.iaload, []), (.invokestatic 99, [0, 473]), (.ireturn, [])]))
def b_X0_wanted_4 : ABlk := (80, ([true], [(.aload_n 0, []), (.aload_n 0, []), (.getfield 49, [0, 0, 11, 0, 179]), (.aload_n 0, []), (.getfield 30, [0, 0, 9, 0, 174]), (.invokevirtual 96, [192, 3, 0, 459]), (.ireturn, [])]))
def b_X0_wanted_5 : ABlk := (93, ([true], [(.aload_n 0, []), (.invokevirtual 102, [193, 1, 0, 476]), (.ireturn, [])]))
def b_X0_wanted_6 : ABlk := (98, ([true], [(.iconst 1, []), (.aload_n 0, []), (.invokevirtual 102, [193, 1, 0, 476]), (.iconst 1, []), (.isub, []), (.invokestatic 99, [0, 473]), (.ireturn, [])]))
def b_X0_wanted_7 : ABlk := (109, ([false], [(.iconst 1, []), (.ireturn, [])]))
def k_X0_wanted : List ABlk := [b_X0_wanted_0, b_X0_wanted_1, b_X0_wanted_2, b_X0_wanted_3, b_X0_wanted_4, b_X0_wanted_5, b_X0_wanted_6, b_X0_wanted_7]
def md_X0_wanted : MDat := (yX0_wanted, (cX0_wanted, (1, (some .int, (false, (0, (0, ([454, 453, 17, 119], k_X0_wanted))))))))
def n_X0_wanted : Nat := 191
def b_X0_leastToPlease_0 : ABlk := (0, ([true, true, true, false, false], [(.aload_n 0, []), (.iload_n 1, []), (.invokevirtual 69, [175, 2, 0, 455]), (.ifCond .eq 8, [1]), (.iload_n 2, []), (.iconst 1, []), (.if_icmp .ge 5, [2]), (.nop, [1])]))
def b_X0_leastToPlease_1 : ABlk := (13, ([false, false, false, false, false], [(.iconst 0, []), (.ireturn, [])]))
def b_X0_leastToPlease_2 : ABlk := (15, ([true, true, true, false, false], [(.bipush 12, []), (.iload_n 2, []), (.imul, []), (.aload_n 0, []), (.getfield 46, [0, 0, 8, 0, 170]), (.bipush 99, []), (.aload_n 0, []), (.getfield 27, [1, 0, 7, 6, 0, 164]), (.iload_n 1, []), (.iaload, []), (.isub, []), (.invokestatic 90, [1, 463]), (.invokestatic 90, [1, 463]), (.istore_n 3, []), (.iconst 0, []), (.istore 4, []), (.nop, [3])]))
def b_X0_leastToPlease_3 : ABlk := (42, ([true, true, true, true, true], [(.iload 4, []), (.iload_n 3, []), (.if_icmp .gt 32, [5]), (.aload_n 0, []), (.iload_n 1, []), (.aload_n 0, []), (.getfield 27, [1, 0, 7, 6, 0, 164]), (.iload_n 1, []), (.iaload, []), (.iload 4, []), (.iadd, []), (.invokevirtual 72, [177, 3, 0, 466]), (.ifCond .eq 6, [4]), (.iload 4, []), (.ireturn, [])]))
def b_X0_leastToPlease_4 : ABlk := (68, ([true, true, true, true, true], [(.iload 4, []), (.iload_n 2, []), (.iadd, []), (.istore 4, []), (.goto (-32), [3])]))
def b_X0_leastToPlease_5 : ABlk := (77, ([false, false, false, false, false], [(.iconst 0, []), (.ireturn, [])]))
def k_X0_leastToPlease : List ABlk := [b_X0_leastToPlease_0, b_X0_leastToPlease_1, b_X0_leastToPlease_2, b_X0_leastToPlease_3, b_X0_leastToPlease_4, b_X0_leastToPlease_5]
def md_X0_leastToPlease : MDat := (yX0_leastToPlease, (cX0_leastToPlease, (5, (some .int, (false, (2, (0, ([462, 461, 19, 119], k_X0_leastToPlease))))))))
def n_X0_leastToPlease : Nat := 192
def b_X0_numberInPlay_0 : ABlk := (0, ([true, false], [(.aload_n 0, []), (.getfield 34, [0, 0, 10, 0, 176]), (.ifCond .ge 7, [1]), (.iconst 0, []), (.goto 14, [2])]))
def b_X0_numberInPlay_1 : ABlk := (11, ([true, false], [(.aload_n 0, []), (.getfield 46, [0, 0, 8, 0, 170]), (.aload_n 0, []), (.getfield 34, [0, 0, 10, 0, 176]), (.iconst 1, []), (.iadd, []), (.irem, []), (.nop, [2])]))
def b_X0_numberInPlay_2 : ABlk := (22, ([false, false], [(.istore_n 1, []), (.iload_n 1, []), (.ifCond .ne 7, [3]), (.iconst 1, []), (.goto 4, [4])]))
def b_X0_numberInPlay_3 : ABlk := (31, ([false, true], [(.iload_n 1, []), (.nop, [4])]))
def b_X0_numberInPlay_4 : ABlk := (32, ([false, false], [(.ireturn, [])]))
def k_X0_numberInPlay : List ABlk := [b_X0_numberInPlay_0, b_X0_numberInPlay_1, b_X0_numberInPlay_2, b_X0_numberInPlay_3, b_X0_numberInPlay_4]
def md_X0_numberInPlay : MDat := (yX0_numberInPlay, (cX0_numberInPlay, (2, (some .int, (false, (0, (0, ([479, 478, 21, 119], k_X0_numberInPlay))))))))
def n_X0_numberInPlay : Nat := 193
def b_X0_eatUp_0 : ABlk := (0, ([true, false, false], [(.iconst 0, []), (.istore_n 1, []), (.iconst 0, []), (.istore_n 2, []), (.nop, [1])]))
def b_X0_eatUp_1 : ABlk := (4, ([true, true, true], [(.iload_n 1, []), (.bipush 100, []), (.if_icmp .ge 39, [4]), (.aload_n 0, []), (.getfield 46, [0, 0, 8, 0, 170]), (.ifCond .le 32, [4]), (.iload_n 2, []), (.aload_n 0, []), (.getfield 43, [0, 0, 3, 0, 153]), (.if_icmp .ge 24, [4]), (.aload_n 0, []), (.invokevirtual 105, [189, 1, 0, 606]), (.ifCond .ne 9, [2]), (.iload_n 2, []), (.iconst 1, []), (.iadd, []), (.goto 4, [3])]))
def b_X0_eatUp_2 : ABlk := (38, ([true, true, false], [(.iconst 0, []), (.nop, [3])]))
def b_X0_eatUp_3 : ABlk := (39, ([true, true, false], [(.istore_n 2, []), (.iinc 1 1, []), (.goto (-39), [1])]))
def b_X0_eatUp_4 : ABlk := (46, ([false, true, false], [(.iload_n 1, []), (.ireturn, [])]))
def k_X0_eatUp : List ABlk := [b_X0_eatUp_0, b_X0_eatUp_1, b_X0_eatUp_2, b_X0_eatUp_3, b_X0_eatUp_4]
def md_X0_eatUp : MDat := (yX0_eatUp, (cX0_eatUp, (3, (some .int, (false, (0, (0, ([605, 604, 34, 119], k_X0_eatUp))))))))
def n_X0_eatUp : Nat := 194
def b_X1_slot_0 : ABlk := (0, ([false, true, true, true], [(.iload_n 1, []), (.ifCond .lt 22, [1]), (.iload_n 2, []), (.ifCond .lt 18, [1]), (.iload_n 2, []), (.iconst 4, []), (.if_icmp .ge 13, [1]), (.iload_n 3, []), (.ifCond .lt 9, [1]), (.iload_n 3, []), (.bipush 61, []), (.if_icmp .lt 5, [2]), (.nop, [1])]))
def b_X1_slot_1 : ABlk := (23, ([false, false, false, false], [(.iconst 0, []), (.ireturn, [])]))
def b_X1_slot_2 : ABlk := (25, ([false, true, true, true], [(.iload_n 1, []), (.bipush 7, []), (.irem, []), (.iconst 4, []), (.imul, []), (.iload_n 2, []), (.iadd, []), (.bipush 61, []), (.imul, []), (.iload_n 3, []), (.iadd, []), (.ireturn, [])]))
def k_X1_slot : List ABlk := [b_X1_slot_0, b_X1_slot_1, b_X1_slot_2]
def md_X1_slot : MDat := (yX1_slot, (cX1_slot, (4, (some .int, (false, (3, (1, ([753, 752, 49, 122], k_X1_slot))))))))
def n_X1_slot : Nat := 195
def b_X1_outcomeNow_0 : ABlk := (0, ([true, true], [(.aload_n 0, []), (.getfield 11, [1, 1, 0, 1, 0, 259]), (.aload_n 0, []), (.aload_n 1, []), (.getfield 15, [0, 0, 8, 1, 171]), (.aload_n 1, []), (.getfield 21, [0, 0, 11, 1, 181]), (.iconst 0, []), (.invokevirtual 24, [195, 4, 0, 750]), (.iaload, []), (.ireturn, [])]))
def k_X1_outcomeNow : List ABlk := [b_X1_outcomeNow_0]
def md_X1_outcomeNow : MDat := (yX1_outcomeNow, (cX1_outcomeNow, (2, (some .int, (false, (1, (1, ([767, 766, 51, 122], k_X1_outcomeNow))))))))
def n_X1_outcomeNow : Nat := 196
def b_X1_behindOne_0 : ABlk := (0, ([true, true], [(.aload_n 0, []), (.getfield 28, [0, 0, 3, 1, 155]), (.iconst 1, []), (.if_icmp .ge 7, [1]), (.iconst 0, []), (.goto 11, [2])]))
def b_X1_behindOne_1 : ABlk := (12, ([true, true], [(.iload_n 1, []), (.iconst 1, []), (.iadd, []), (.aload_n 0, []), (.getfield 28, [0, 0, 3, 1, 155]), (.irem, []), (.nop, [2])]))
def b_X1_behindOne_2 : ABlk := (20, ([false, false], [(.ireturn, [])]))
def k_X1_behindOne : List ABlk := [b_X1_behindOne_0, b_X1_behindOne_1, b_X1_behindOne_2]
def md_X1_behindOne : MDat := (yX1_behindOne, (cX1_behindOne, (2, (some .int, (true, (2, (1, ([762, 761, 0, 122], k_X1_behindOne))))))))
def n_X1_behindOne : Nat := 197
def b_X1_playAgainst_0 : ABlk := (0, ([true, true, true, false, false, false], [(.iconst 0, []), (.istore_n 3, []), (.nop, [1])]))
def b_X1_playAgainst_1 : ABlk := (2, ([true, true, true, true, false, false], [(.iload_n 3, []), (.aload_n 1, []), (.getfield 15, [0, 0, 8, 1, 171]), (.if_icmp .gt 72, [6]), (.iconst 0, []), (.istore 4, []), (.nop, [2])]))
def b_X1_playAgainst_2 : ABlk := (13, ([true, true, true, true, true, false], [(.iload 4, []), (.aload_n 1, []), (.getfield 28, [0, 0, 3, 1, 155]), (.if_icmp .ge 54, [5]), (.iconst 0, []), (.istore 5, []), (.nop, [3])]))
def b_X1_playAgainst_3 : ABlk := (25, ([true, true, true, true, true, true], [(.iload 5, []), (.iload_n 3, []), (.iadd, []), (.aload_n 1, []), (.getfield 15, [0, 0, 8, 1, 171]), (.if_icmp .gt 34, [4]), (.aload_n 0, []), (.getfield 11, [1, 1, 0, 1, 0, 259]), (.aload_n 0, []), (.iload_n 3, []), (.iload 4, []), (.iload 5, []), (.invokevirtual 24, [195, 4, 0, 750]), (.aload_n 0, []), (.aload_n 1, []), (.iload_n 2, []), (.iload_n 3, []), (.iload 4, []), (.iload 5, []), (.invokevirtual 31, [199, 6, 0, 754]), (.iastore, []), (.iinc 5 1, []), (.goto (-39), [3])]))
def b_X1_playAgainst_4 : ABlk := (67, ([true, true, true, true, true, false], [(.iinc 4 1, []), (.goto (-57), [2])]))
def b_X1_playAgainst_5 : ABlk := (73, ([true, true, true, true, false, false], [(.iinc 3 1, []), (.goto (-74), [1])]))
def b_X1_playAgainst_6 : ABlk := (79, ([false, false, false, false, false, false], [(.return_, [])]))
def k_X1_playAgainst : List ABlk := [b_X1_playAgainst_0, b_X1_playAgainst_1, b_X1_playAgainst_2, b_X1_playAgainst_3, b_X1_playAgainst_4, b_X1_playAgainst_5, b_X1_playAgainst_6]
def md_X1_playAgainst : MDat := (yX1_playAgainst, (cX1_playAgainst, (6, (none, (false, (2, (1, ([749, 748, 48, 122], k_X1_playAgainst))))))))
def n_X1_playAgainst : Nat := 198
def b_X1_sureOutcome_0 : ABlk := (0, ([true, true, true, true, true, true, false, false, false, false, false], [(.aload_n 1, []), (.iload_n 2, []), (.invokevirtual 35, [175, 2, 1, 758]), (.ifCond .ne 5, [1]), (.iconst 0, []), (.ireturn, [])]))
def b_X1_sureOutcome_1 : ABlk := (10, ([true, true, true, true, true, true, false, false, false, false, false], [(.iload_n 3, []), (.ifCond .ne 26, [4]), (.aload_n 1, []), (.iload_n 2, []), (.aload_n 1, []), (.getfield 39, [1, 0, 7, 6, 1, 167]), (.iload_n 2, []), (.iaload, []), (.iload 5, []), (.iadd, []), (.invokevirtual 42, [177, 3, 1, 759]), (.ifCond .eq 7, [2]), (.iconst 1, []), (.goto 4, [3])]))
def b_X1_sureOutcome_2 : ABlk := (35, ([false, false, false, false, false, false, false, false, false, false, false], [(.iconst 0, []), (.nop, [3])]))
def b_X1_sureOutcome_3 : ABlk := (36, ([false, false, false, false, false, false, false, false, false, false, false], [(.ireturn, [])]))
def b_X1_sureOutcome_4 : ABlk := (37, ([true, true, true, true, true, true, false, false, false, false, false], [(.iload 4, []), (.iload_n 2, []), (.if_icmp .ne 7, [5]), (.iconst 1, []), (.goto 4, [6])]))
def b_X1_sureOutcome_5 : ABlk := (47, ([true, true, true, true, true, true, false, false, false, false, false], [(.iconst 0, []), (.nop, [6])]))
def b_X1_sureOutcome_6 : ABlk := (48, ([true, true, true, true, true, true, false, false, false, false, false], [(.istore 6, []), (.aload_n 1, []), (.iload 4, []), (.invokestatic 46, [197, 2, 0, 760]), (.istore 7, []), (.aload_n 1, []), (.getfield 50, [0, 0, 10, 1, 177]), (.iload_n 3, []), (.invokestatic 53, [1, 763]), (.istore 8, []), (.iconst 1, []), (.istore 9, []), (.nop, [7])]))
def b_X1_sureOutcome_7 : ABlk := (71, ([true, false, true, true, true, true, true, true, true, true, false], [(.iload 9, []), (.iload 8, []), (.if_icmp .gt 52, [11]), (.iload 4, []), (.iload_n 2, []), (.if_icmp .ne 11, [8]), (.iload 5, []), (.iload 9, []), (.iadd, []), (.goto 5, [9])]))
def b_X1_sureOutcome_8 : ABlk := (92, ([true, false, true, true, true, true, true, true, true, true, false], [(.iload 5, []), (.nop, [9])]))
def b_X1_sureOutcome_9 : ABlk := (94, ([true, false, true, true, true, true, true, true, true, true, false], [(.istore 10, []), (.aload_n 0, []), (.getfield 11, [1, 1, 0, 1, 0, 259]), (.aload_n 0, []), (.iload_n 3, []), (.iload 9, []), (.isub, []), (.iload 7, []), (.iload 10, []), (.invokevirtual 24, [195, 4, 0, 750]), (.iaload, []), (.iload 6, []), (.if_icmp .ne 6, [10]), (.iload 6, []), (.ireturn, [])]))
def b_X1_sureOutcome_10 : ABlk := (121, ([true, false, true, true, true, true, true, true, true, true, false], [(.iinc 9 1, []), (.goto (-53), [7])]))
def b_X1_sureOutcome_11 : ABlk := (127, ([false, false, false, false, false, false, true, false, false, false, false], [(.iconst 1, []), (.iload 6, []), (.isub, []), (.ireturn, [])]))
def k_X1_sureOutcome : List ABlk := [b_X1_sureOutcome_0, b_X1_sureOutcome_1, b_X1_sureOutcome_2, b_X1_sureOutcome_3, b_X1_sureOutcome_4, b_X1_sureOutcome_5, b_X1_sureOutcome_6, b_X1_sureOutcome_7, b_X1_sureOutcome_8, b_X1_sureOutcome_9, b_X1_sureOutcome_10, b_X1_sureOutcome_11]
def md_X1_sureOutcome : MDat := (yX1_sureOutcome, (cX1_sureOutcome, (11, (some .int, (false, (5, (1, ([757, 756, 50, 122], k_X1_sureOutcome))))))))
def n_X1_sureOutcome : Nat := 199
def b_X1_firstSureNumber_0 : ABlk := (0, ([true, true, true, false, false, false], [(.aload_n 1, []), (.getfield 21, [0, 0, 11, 1, 181]), (.iload_n 2, []), (.if_icmp .eq 6, [1]), (.bipush (-9), []), (.ireturn, [])]))
def b_X1_firstSureNumber_1 : ABlk := (11, ([true, true, true, false, false, false], [(.aload_n 1, []), (.iload_n 2, []), (.invokestatic 46, [197, 2, 0, 760]), (.istore_n 3, []), (.aload_n 1, []), (.getfield 50, [0, 0, 10, 1, 177]), (.aload_n 1, []), (.getfield 15, [0, 0, 8, 1, 171]), (.invokestatic 53, [1, 763]), (.istore 4, []), (.iconst 1, []), (.istore 5, []), (.nop, [2])]))
def b_X1_firstSureNumber_2 : ABlk := (33, ([true, true, false, true, true, true], [(.iload 5, []), (.iload 4, []), (.if_icmp .gt 35, [4]), (.aload_n 0, []), (.getfield 11, [1, 1, 0, 1, 0, 259]), (.aload_n 0, []), (.aload_n 1, []), (.getfield 15, [0, 0, 8, 1, 171]), (.iload 5, []), (.isub, []), (.iload_n 3, []), (.iload 5, []), (.invokevirtual 24, [195, 4, 0, 750]), (.iaload, []), (.iconst 1, []), (.if_icmp .ne 6, [3]), (.iload 5, []), (.ireturn, [])]))
def b_X1_firstSureNumber_3 : ABlk := (66, ([true, true, false, true, true, true], [(.iinc 5 1, []), (.goto (-36), [2])]))
def b_X1_firstSureNumber_4 : ABlk := (72, ([false, false, false, false, false, false], [(.bipush (-9), []), (.ireturn, [])]))
def k_X1_firstSureNumber : List ABlk := [b_X1_firstSureNumber_0, b_X1_firstSureNumber_1, b_X1_firstSureNumber_2, b_X1_firstSureNumber_3, b_X1_firstSureNumber_4]
def md_X1_firstSureNumber : MDat := (yX1_firstSureNumber, (cX1_firstSureNumber, (6, (some .int, (false, (2, (1, ([771, 770, 52, 122], k_X1_firstSureNumber))))))))
def n_X1_firstSureNumber : Nat := 200
def b_X1_playDuel_0 : ABlk := (0, ([true, true, false, false, false], [(.iconst 0, []), (.istore_n 2, []), (.nop, [1])]))
def b_X1_playDuel_1 : ABlk := (2, ([true, true, true, false, false], [(.iload_n 2, []), (.aload_n 1, []), (.getfield 15, [0, 0, 8, 1, 171]), (.if_icmp .gt 64, [6]), (.iconst 0, []), (.istore_n 3, []), (.nop, [2])]))
def b_X1_playDuel_2 : ABlk := (12, ([true, true, true, true, false], [(.iload_n 3, []), (.iconst 2, []), (.if_icmp .ge 51, [5]), (.iconst 0, []), (.istore 4, []), (.nop, [3])]))
def b_X1_playDuel_3 : ABlk := (20, ([true, true, true, true, true], [(.iload 4, []), (.iload_n 2, []), (.iadd, []), (.aload_n 1, []), (.getfield 15, [0, 0, 8, 1, 171]), (.if_icmp .gt 31, [4]), (.aload_n 0, []), (.getfield 11, [1, 1, 0, 1, 0, 259]), (.aload_n 0, []), (.iload_n 2, []), (.iload_n 3, []), (.iload 4, []), (.invokevirtual 24, [195, 4, 0, 750]), (.aload_n 0, []), (.aload_n 1, []), (.iload_n 2, []), (.iload_n 3, []), (.iload 4, []), (.invokevirtual 59, [202, 5, 0, 784]), (.iastore, []), (.iinc 4 1, []), (.goto (-36), [3])]))
def b_X1_playDuel_4 : ABlk := (59, ([true, true, true, true, false], [(.iinc 3 1, []), (.goto (-50), [2])]))
def b_X1_playDuel_5 : ABlk := (65, ([true, true, true, false, false], [(.iinc 2 1, []), (.goto (-66), [1])]))
def b_X1_playDuel_6 : ABlk := (71, ([false, false, false, false, false], [(.return_, [])]))
def k_X1_playDuel : List ABlk := [b_X1_playDuel_0, b_X1_playDuel_1, b_X1_playDuel_2, b_X1_playDuel_3, b_X1_playDuel_4, b_X1_playDuel_5, b_X1_playDuel_6]
def md_X1_playDuel : MDat := (yX1_playDuel, (cX1_playDuel, (5, (none, (false, (1, (1, ([783, 782, 53, 122], k_X1_playDuel))))))))
def n_X1_playDuel : Nat := 201
def b_X1_duelOutcome_0 : ABlk := (0, ([true, true, true, true, true, false, false], [(.iload_n 2, []), (.ifCond .le 21, [1]), (.aload_n 0, []), (.iload_n 2, []), (.iload_n 3, []), (.iload 4, []), (.aload_n 0, []), (.aload_n 1, []), (.iload_n 2, []), (.iload_n 3, []), (.iload 4, []), (.invokevirtual 63, [204, 5, 0, 788]), (.invokevirtual 66, [203, 5, 0, 792]), (.ireturn, [])]))
def b_X1_duelOutcome_1 : ABlk := (22, ([false, true, false, false, true, false, false], [(.aload_n 1, []), (.iconst 0, []), (.aload_n 1, []), (.getfield 39, [1, 0, 7, 6, 1, 167]), (.iconst 0, []), (.iaload, []), (.iload 4, []), (.iadd, []), (.invokevirtual 42, [177, 3, 1, 759]), (.istore 5, []), (.aload_n 1, []), (.iconst 1, []), (.aload_n 1, []), (.getfield 39, [1, 0, 7, 6, 1, 167]), (.iconst 1, []), (.iaload, []), (.aload_n 1, []), (.getfield 15, [0, 0, 8, 1, 171]), (.iadd, []), (.iload 4, []), (.isub, []), (.invokevirtual 42, [177, 3, 1, 759]), (.istore 6, []), (.iload 5, []), (.ifCond .eq 7, [2]), (.iconst 1, []), (.goto 4, [3])]))
def b_X1_duelOutcome_2 : ABlk := (68, ([false, false, false, false, false, false, true], [(.iconst 0, []), (.nop, [3])]))
def b_X1_duelOutcome_3 : ABlk := (69, ([false, false, false, false, false, false, true], [(.iload 6, []), (.ifCond .eq 7, [4]), (.iconst 2, []), (.goto 4, [5])]))
def b_X1_duelOutcome_4 : ABlk := (78, ([false, false, false, false, false, false, false], [(.iconst 0, []), (.nop, [5])]))
def b_X1_duelOutcome_5 : ABlk := (79, ([false, false, false, false, false, false, false], [(.iadd, []), (.ireturn, [])]))
def k_X1_duelOutcome : List ABlk := [b_X1_duelOutcome_0, b_X1_duelOutcome_1, b_X1_duelOutcome_2, b_X1_duelOutcome_3, b_X1_duelOutcome_4, b_X1_duelOutcome_5]
def md_X1_duelOutcome : MDat := (yX1_duelOutcome, (cX1_duelOutcome, (7, (some .int, (false, (4, (1, ([787, 786, 54, 122], k_X1_duelOutcome))))))))
def n_X1_duelOutcome : Nat := 202
def b_X1_afterNumber_0 : ABlk := (0, ([true, true, true, true, true], [(.aload_n 0, []), (.getfield 11, [1, 1, 0, 1, 0, 259]), (.aload_n 0, []), (.iload_n 1, []), (.iload 4, []), (.isub, []), (.iconst 1, []), (.iload_n 2, []), (.isub, []), (.iload_n 2, []), (.ifCond .ne 10, [1]), (.iload_n 3, []), (.iload 4, []), (.iadd, []), (.goto 4, [2])]))
def b_X1_afterNumber_1 : ABlk := (23, ([false, false, false, true, false], [(.iload_n 3, []), (.nop, [2])]))
def b_X1_afterNumber_2 : ABlk := (24, ([false, false, false, false, false], [(.invokevirtual 24, [195, 4, 0, 750]), (.iaload, []), (.ireturn, [])]))
def k_X1_afterNumber : List ABlk := [b_X1_afterNumber_0, b_X1_afterNumber_1, b_X1_afterNumber_2]
def md_X1_afterNumber : MDat := (yX1_afterNumber, (cX1_afterNumber, (5, (some .int, (false, (4, (1, ([795, 794, 56, 122], k_X1_afterNumber))))))))
def n_X1_afterNumber : Nat := 203
def b_X1_duelNumber_0 : ABlk := (0, ([true, true, true, true, true, false, false, false, false, false], [(.iconst 0, []), (.istore 5, []), (.iconst (-1), []), (.istore 6, []), (.aload_n 1, []), (.getfield 50, [0, 0, 10, 1, 177]), (.iload_n 2, []), (.invokestatic 53, [1, 763]), (.istore 7, []), (.iconst 1, []), (.istore 8, []), (.nop, [1])]))
def b_X1_duelNumber_1 : ABlk := (19, ([true, false, true, true, true, true, true, true, true, false], [(.iload 8, []), (.iload 7, []), (.if_icmp .gt 40, [3]), (.iload_n 3, []), (.aload_n 0, []), (.iload_n 2, []), (.iload_n 3, []), (.iload 4, []), (.iload 8, []), (.invokevirtual 66, [203, 5, 0, 792]), (.invokestatic 70, [205, 2, 0, 796]), (.istore 9, []), (.iload 9, []), (.iload 6, []), (.if_icmp .le 11, [2]), (.iload 9, []), (.istore 6, []), (.iload 8, []), (.istore 5, []), (.nop, [2])]))
def b_X1_duelNumber_2 : ABlk := (57, ([true, false, true, true, true, true, true, true, true, false], [(.iinc 8 1, []), (.goto (-41), [1])]))
def b_X1_duelNumber_3 : ABlk := (63, ([false, false, false, false, false, true, false, false, false, false], [(.iload 5, []), (.ireturn, [])]))
def k_X1_duelNumber : List ABlk := [b_X1_duelNumber_0, b_X1_duelNumber_1, b_X1_duelNumber_2, b_X1_duelNumber_3]
def md_X1_duelNumber : MDat := (yX1_duelNumber, (cX1_duelNumber, (10, (some .int, (false, (4, (1, ([791, 790, 55, 122], k_X1_duelNumber))))))))
def n_X1_duelNumber : Nat := 204
def b_X1_worthTo_0 : ABlk := (0, ([true, true, false, false], [(.iload_n 1, []), (.iload_n 0, []), (.ishr, []), (.iconst 1, []), (.iand, []), (.istore_n 2, []), (.iload_n 1, []), (.iconst 1, []), (.iload_n 0, []), (.isub, []), (.ishr, []), (.iconst 1, []), (.iand, []), (.istore_n 3, []), (.iconst 2, []), (.iload_n 2, []), (.imul, []), (.iconst 1, []), (.iadd, []), (.iload_n 3, []), (.isub, []), (.ireturn, [])]))
def k_X1_worthTo : List ABlk := [b_X1_worthTo_0]
def md_X1_worthTo : MDat := (yX1_worthTo, (cX1_worthTo, (4, (some .int, (true, (2, (1, ([798, 797, 0, 122], k_X1_worthTo))))))))
def n_X1_worthTo : Nat := 205
def b_X1_moverLoses_0 : ABlk := (0, ([true, true, true, true, false, false, false, false, false], [(.iconst 0, []), (.istore 4, []), (.iconst 1, []), (.istore 5, []), (.iconst 0, []), (.istore 6, []), (.nop, [1])]))
def b_X1_moverLoses_1 : ABlk := (9, ([true, true, true, true, true, true, true, false, false], [(.iload 6, []), (.aload_n 0, []), (.getfield 73, [0, 0, 12, 1, 184]), (.if_icmp .ge 74, [7]), (.iload 6, []), (.iload_n 1, []), (.if_icmp .ne 15, [2]), (.aload_n 0, []), (.getfield 76, [1, 0, 13, 7, 1, 187]), (.iload 6, []), (.iaload, []), (.iload_n 2, []), (.isub, []), (.goto 10, [3])]))
def b_X1_moverLoses_2 : ABlk := (36, ([true, true, true, true, true, true, true, false, false], [(.aload_n 0, []), (.getfield 76, [1, 0, 13, 7, 1, 187]), (.iload 6, []), (.iaload, []), (.nop, [3])]))
def b_X1_moverLoses_3 : ABlk := (43, ([true, true, true, true, true, true, true, false, false], [(.istore 7, []), (.aload_n 0, []), (.getfield 50, [0, 0, 10, 1, 177]), (.ifCond .ge 7, [4]), (.iconst 0, []), (.goto 12, [5])]))
def b_X1_moverLoses_4 : ABlk := (56, ([true, true, true, true, true, true, true, true, false], [(.iload 7, []), (.aload_n 0, []), (.getfield 50, [0, 0, 10, 1, 177]), (.iconst 1, []), (.iadd, []), (.irem, []), (.nop, [5])]))
def b_X1_moverLoses_5 : ABlk := (65, ([true, true, true, true, true, true, true, false, false], [(.istore 8, []), (.iload 4, []), (.iload 8, []), (.ixor, []), (.istore 4, []), (.iload 8, []), (.iconst 1, []), (.if_icmp .le 6, [6]), (.iconst 0, []), (.istore 5, []), (.nop, [6])]))
def b_X1_moverLoses_6 : ABlk := (83, ([true, true, true, true, true, true, true, false, false], [(.iinc 6 1, []), (.goto (-77), [1])]))
def b_X1_moverLoses_7 : ABlk := (89, ([false, false, false, true, true, true, false, false, false], [(.iload 4, []), (.iload_n 3, []), (.ifCond .eq 12, [8]), (.iload 5, []), (.ifCond .eq 7, [8]), (.iconst 1, []), (.goto 4, [9])]))
def b_X1_moverLoses_8 : ABlk := (104, ([false, false, false, false, false, false, false, false, false], [(.iconst 0, []), (.nop, [9])]))
def b_X1_moverLoses_9 : ABlk := (105, ([false, false, false, false, false, false, false, false, false], [(.if_icmp .ne 7, [10]), (.iconst 1, []), (.goto 4, [11])]))
def b_X1_moverLoses_10 : ABlk := (112, ([false, false, false, false, false, false, false, false, false], [(.iconst 0, []), (.nop, [11])]))
def b_X1_moverLoses_11 : ABlk := (113, ([false, false, false, false, false, false, false, false, false], [(.ireturn, [1])]))
def k_X1_moverLoses : List ABlk := [b_X1_moverLoses_0, b_X1_moverLoses_1, b_X1_moverLoses_2, b_X1_moverLoses_3, b_X1_moverLoses_4, b_X1_moverLoses_5, b_X1_moverLoses_6, b_X1_moverLoses_7, b_X1_moverLoses_8, b_X1_moverLoses_9, b_X1_moverLoses_10, b_X1_moverLoses_11]
def md_X1_moverLoses : MDat := (yX1_moverLoses, (cX1_moverLoses, (9, (some .boolean, (true, (4, (1, ([814, 813, 0, 122], k_X1_moverLoses))))))))
def n_X1_moverLoses : Nat := 206
def b_X2_hasRoom_0 : ABlk := (0, ([true], [(.aload_n 0, []), (.getfield 15, [0, 2, 1, 0, 226]), (.bipush 96, []), (.if_icmp .ge 7, [1]), (.iconst 1, []), (.goto 4, [2])]))
def b_X2_hasRoom_1 : ABlk := (13, ([false], [(.iconst 0, []), (.nop, [2])]))
def b_X2_hasRoom_2 : ABlk := (14, ([false], [(.ireturn, [1])]))
def k_X2_hasRoom : List ABlk := [b_X2_hasRoom_0, b_X2_hasRoom_1, b_X2_hasRoom_2]
def md_X2_hasRoom : MDat := (yX2_hasRoom, (cX2_hasRoom, (1, (some .boolean, (false, (0, (2, ([322, 321, 1, 120], k_X2_hasRoom))))))))
def n_X2_hasRoom : Nat := 207
def b_X2_add_0 : ABlk := (0, ([true, true], [(.aload_n 0, []), (.getfield 15, [0, 2, 1, 0, 226]), (.ifCond .lt 12, [1]), (.aload_n 0, []), (.getfield 15, [0, 2, 1, 0, 226]), (.bipush 96, []), (.if_icmp .lt 4, [2]), (.nop, [1])]))
def b_X2_add_1 : ABlk := (16, ([false, false], [(.return_, [])]))
def b_X2_add_2 : ABlk := (17, ([true, true], [(.aload_n 0, []), (.getfield 11, [1, 2, 0, 1, 0, 225]), (.aload_n 0, []), (.getfield 15, [0, 2, 1, 0, 226]), (.iload_n 1, []), (.iastore, []), (.aload_n 0, []), (.dup, []), (.getfield 15, [0, 2, 1, 0, 226]), (.iconst 1, []), (.iadd, []), (.putfield 15, [0, 2, 1, 0, 226]), (.return_, [])]))
def k_X2_add : List ABlk := [b_X2_add_0, b_X2_add_1, b_X2_add_2]
def md_X2_add : MDat := (yX2_add, (cX2_add, (2, (none, (false, (1, (2, ([326, 325, 2, 120], k_X2_add))))))))
def n_X2_add : Nat := 208
def b_X2_signAt_0 : ABlk := (0, ([true, true], [(.iload_n 1, []), (.ifCond .lt 20, [1]), (.iload_n 1, []), (.aload_n 0, []), (.getfield 15, [0, 2, 1, 0, 226]), (.if_icmp .ge 12, [1]), (.aload_n 0, []), (.getfield 11, [1, 2, 0, 1, 0, 225]), (.iload_n 1, []), (.iaload, []), (.goto 4, [2])]))
def b_X2_signAt_1 : ABlk := (21, ([false, false], [(.iconst (-1), []), (.nop, [2])]))
def b_X2_signAt_2 : ABlk := (22, ([false, false], [(.ireturn, [])]))
def k_X2_signAt : List ABlk := [b_X2_signAt_0, b_X2_signAt_1, b_X2_signAt_2]
def md_X2_signAt : MDat := (yX2_signAt, (cX2_signAt, (2, (some .int, (false, (1, (2, ([338, 337, 4, 120], k_X2_signAt))))))))
def n_X2_signAt : Nat := 209
def b_X2_isDigit_0 : ABlk := (0, ([true, true], [(.aload_n 0, []), (.iload_n 1, []), (.invokevirtual 19, [209, 2, 0, 335]), (.bipush 48, []), (.if_icmp .lt 17, [1]), (.aload_n 0, []), (.iload_n 1, []), (.invokevirtual 19, [209, 2, 0, 335]), (.bipush 57, []), (.if_icmp .gt 7, [1]), (.iconst 1, []), (.goto 4, [2])]))
def b_X2_isDigit_1 : ABlk := (24, ([false, false], [(.iconst 0, []), (.nop, [2])]))
def b_X2_isDigit_2 : ABlk := (25, ([false, false], [(.ireturn, [1])]))
def k_X2_isDigit : List ABlk := [b_X2_isDigit_0, b_X2_isDigit_1, b_X2_isDigit_2]
def md_X2_isDigit : MDat := (yX2_isDigit, (cX2_isDigit, (2, (some .boolean, (false, (1, (2, ([403, 402, 5, 120], k_X2_isDigit))))))))
def n_X2_isDigit : Nat := 210
def b_X2_formOf_0 : ABlk := (0, ([true], [(.iload_n 0, []), (.lookupswitch 66 #[(98, 57), (101, 54), (114, 51), (116, 63), (119, 60)], [6, 3, 2, 1, 5, 4])]))
def b_X2_formOf_1 : ABlk := (52, ([false], [(.ldc 23, [1, 0]), (.areturn, [])]))
def b_X2_formOf_2 : ABlk := (55, ([false], [(.ldc 25, [1, 1]), (.areturn, [])]))
def b_X2_formOf_3 : ABlk := (58, ([false], [(.ldc 27, [1, 2]), (.areturn, [])]))
def b_X2_formOf_4 : ABlk := (61, ([false], [(.ldc 29, [1, 3]), (.areturn, [])]))
def b_X2_formOf_5 : ABlk := (64, ([false], [(.ldc 31, [1, 4]), (.areturn, [])]))
def b_X2_formOf_6 : ABlk := (67, ([false], [(.ldc 33, [1, 5]), (.areturn, [])]))
def k_X2_formOf : List ABlk := [b_X2_formOf_0, b_X2_formOf_1, b_X2_formOf_2, b_X2_formOf_3, b_X2_formOf_4, b_X2_formOf_5, b_X2_formOf_6]
def md_X2_formOf : MDat := (yX2_formOf, (cX2_formOf, (1, (some (.object "java/lang/String"), (true, (1, (2, ([341, 340, 0, 120], k_X2_formOf))))))))
def n_X2_formOf : Nat := 211
def b_X2_wrongPlace_0 : ABlk := (0, ([true, false, false, false, false, false], [(.aload_n 0, []), (.getfield 15, [0, 2, 1, 0, 226]), (.ifCond .ne 5, [1]), (.iconst 0, []), (.ireturn, [])]))
def b_X2_wrongPlace_1 : ABlk := (9, ([true, false, false, false, false, false], [(.iconst 0, []), (.istore_n 1, []), (.nop, [2])]))
def b_X2_wrongPlace_2 : ABlk := (11, ([true, true, false, false, false, false], [(.iload_n 1, []), (.aload_n 0, []), (.getfield 15, [0, 2, 1, 0, 226]), (.if_icmp .ge 112, [13]), (.aload_n 0, []), (.iload_n 1, []), (.invokevirtual 19, [209, 2, 0, 335]), (.invokestatic 35, [211, 1, 0, 339]), (.astore_n 2, []), (.aload_n 2, []), (.invokevirtual 39, [231, 1, 0, 348]), (.ifCond .eq 5, [3]), (.iload_n 1, []), (.ireturn, [])]))
def b_X2_wrongPlace_3 : ABlk := (37, ([true, true, true, false, false, false], [(.iinc 1 1, []), (.iconst 0, []), (.istore_n 3, []), (.nop, [4])]))
def b_X2_wrongPlace_4 : ABlk := (42, ([true, true, true, true, false, false], [(.iload_n 3, []), (.aload_n 2, []), (.invokevirtual 45, [233, 1, 0, 352]), (.if_icmp .ge 78, [12]), (.aload_n 2, []), (.iload_n 3, []), (.invokevirtual 49, [228, 2, 0, 362]), (.istore 4, []), (.iload 4, []), (.bipush 100, []), (.if_icmp .eq 10, [5]), (.iload 4, []), (.bipush 68, []), (.if_icmp .ne 7, [6]), (.nop, [5])]))
def b_X2_wrongPlace_5 : ABlk := (71, ([true, true, true, true, true, false], [(.iconst 1, []), (.goto 4, [7])]))
def b_X2_wrongPlace_6 : ABlk := (75, ([true, true, true, true, true, false], [(.iconst 0, []), (.nop, [7])]))
def b_X2_wrongPlace_7 : ABlk := (76, ([true, true, true, true, true, false], [(.istore 5, []), (.iload 5, []), (.ifCond .eq 14, [8]), (.aload_n 0, []), (.iload_n 1, []), (.invokevirtual 53, [210, 2, 0, 400]), (.ifCond .eq 22, [10]), (.goto 13, [9])]))
def b_X2_wrongPlace_8 : ABlk := (94, ([true, true, true, true, true, false], [(.aload_n 0, []), (.iload_n 1, []), (.invokevirtual 19, [209, 2, 0, 335]), (.iload 4, []), (.if_icmp .ne 9, [10]), (.nop, [9])]))
def b_X2_wrongPlace_9 : ABlk := (104, ([true, true, true, true, false, false], [(.iinc 1 1, []), (.goto 12, [11])]))
def b_X2_wrongPlace_10 : ABlk := (110, ([true, true, true, true, true, false], [(.iload 4, []), (.bipush 68, []), (.if_icmp .eq 5, [11]), (.iload_n 1, []), (.ireturn, [])]))
def b_X2_wrongPlace_11 : ABlk := (119, ([true, true, true, true, false, false], [(.iinc 3 1, []), (.goto (-80), [4])]))
def b_X2_wrongPlace_12 : ABlk := (125, ([true, true, false, false, false, false], [(.goto (-114), [2])]))
def b_X2_wrongPlace_13 : ABlk := (128, ([false, false, false, false, false, false], [(.bipush (-9), []), (.ireturn, [])]))
def k_X2_wrongPlace : List ABlk := [b_X2_wrongPlace_0, b_X2_wrongPlace_1, b_X2_wrongPlace_2, b_X2_wrongPlace_3, b_X2_wrongPlace_4, b_X2_wrongPlace_5, b_X2_wrongPlace_6, b_X2_wrongPlace_7, b_X2_wrongPlace_8, b_X2_wrongPlace_9, b_X2_wrongPlace_10, b_X2_wrongPlace_11, b_X2_wrongPlace_12, b_X2_wrongPlace_13]
def md_X2_wrongPlace : MDat := (yX2_wrongPlace, (cX2_wrongPlace, (6, (some .int, (false, (0, (2, ([334, 333, 3, 120], k_X2_wrongPlace))))))))
def n_X2_wrongPlace : Nat := 212
def b_X2_endOf_0 : ABlk := (0, ([true, true, false], [(.iload_n 1, []), (.istore_n 2, []), (.nop, [1])]))
def b_X2_endOf_1 : ABlk := (2, ([true, false, true], [(.iload_n 2, []), (.aload_n 0, []), (.getfield 15, [0, 2, 1, 0, 226]), (.if_icmp .ge 19, [2]), (.aload_n 0, []), (.iload_n 2, []), (.invokevirtual 19, [209, 2, 0, 335]), (.bipush 59, []), (.if_icmp .eq 9, [2]), (.iinc 2 1, []), (.goto (-21), [1])]))
def b_X2_endOf_2 : ABlk := (26, ([false, false, true], [(.iload_n 2, []), (.iconst 1, []), (.iadd, []), (.ireturn, [])]))
def k_X2_endOf : List ABlk := [b_X2_endOf_0, b_X2_endOf_1, b_X2_endOf_2]
def md_X2_endOf : MDat := (yX2_endOf, (cX2_endOf, (3, (some .int, (false, (1, (2, ([487, 486, 23, 120], k_X2_endOf))))))))
def n_X2_endOf : Nat := 213
def b_X2_digitsFrom_0 : ABlk := (0, ([true, true, false], [(.iconst 0, []), (.istore_n 2, []), (.nop, [1])]))
def b_X2_digitsFrom_1 : ABlk := (2, ([true, true, true], [(.iload_n 2, []), (.bipush 96, []), (.if_icmp .ge 19, [2]), (.aload_n 0, []), (.iload_n 1, []), (.iload_n 2, []), (.iadd, []), (.invokevirtual 53, [210, 2, 0, 400]), (.ifCond .eq 9, [2]), (.iinc 2 1, []), (.goto (-19), [1])]))
def b_X2_digitsFrom_2 : ABlk := (24, ([false, false, true], [(.iload_n 2, []), (.ireturn, [])]))
def k_X2_digitsFrom : List ABlk := [b_X2_digitsFrom_0, b_X2_digitsFrom_1, b_X2_digitsFrom_2]
def md_X2_digitsFrom : MDat := (yX2_digitsFrom, (cX2_digitsFrom, (3, (some .int, (false, (1, (2, ([418, 417, 8, 120], k_X2_digitsFrom))))))))
def n_X2_digitsFrom : Nat := 214
def b_X2_numberAt_0 : ABlk := (0, ([true, true, true, false, false], [(.iconst 0, []), (.istore_n 3, []), (.iconst 0, []), (.istore 4, []), (.nop, [1])]))
def b_X2_numberAt_1 : ABlk := (5, ([true, true, true, true, true], [(.iload 4, []), (.iload_n 2, []), (.if_icmp .ge 26, [2]), (.bipush 10, []), (.iload_n 3, []), (.imul, []), (.aload_n 0, []), (.iload_n 1, []), (.iload 4, []), (.iadd, []), (.invokevirtual 19, [209, 2, 0, 335]), (.iadd, []), (.bipush 48, []), (.isub, []), (.istore_n 3, []), (.iinc 4 1, []), (.goto (-26), [1])]))
def b_X2_numberAt_2 : ABlk := (34, ([false, false, false, true, false], [(.iload_n 3, []), (.ireturn, [])]))
def k_X2_numberAt : List ABlk := [b_X2_numberAt_0, b_X2_numberAt_1, b_X2_numberAt_2]
def md_X2_numberAt : MDat := (yX2_numberAt, (cX2_numberAt, (5, (some .int, (false, (2, (2, ([422, 421, 9, 120], k_X2_numberAt))))))))
def n_X2_numberAt : Nat := 215
def b_X2_bring_0 : ABlk := (0, ([true, true, true, false, false], [(.aload_n 0, []), (.iload_n 2, []), (.iconst 1, []), (.iadd, []), (.invokevirtual 57, [214, 2, 0, 415]), (.istore_n 3, []), (.iload_n 2, []), (.iconst 1, []), (.iadd, []), (.istore 4, []), (.aload_n 0, []), (.iload_n 2, []), (.invokevirtual 19, [209, 2, 0, 335]), (.lookupswitch 172 #[(98, 101), (101, 62), (114, 50), (116, 156), (119, 135)], [7, 3, 2, 1, 5, 4])]))
def b_X2_bring_1 : ABlk := (68, ([true, true, false, true, true], [(.aload_n 1, []), (.aload_n 0, []), (.iload 4, []), (.iload_n 3, []), (.invokevirtual 60, [215, 3, 0, 419]), (.invokevirtual 64, [185, 2, 1, 423]), (.ireturn, [1])]))
def b_X2_bring_2 : ABlk := (80, ([true, true, false, false, true], [(.aload_n 1, []), (.aload_n 0, []), (.iload 4, []), (.iconst 1, []), (.invokevirtual 60, [215, 3, 0, 419]), (.aload_n 0, []), (.iload 4, []), (.iconst 1, []), (.iadd, []), (.iconst 1, []), (.invokevirtual 60, [215, 3, 0, 419]), (.aload_n 0, []), (.iload 4, []), (.iconst 2, []), (.iadd, []), (.iconst 2, []), (.invokevirtual 60, [215, 3, 0, 419]), (.aload_n 0, []), (.iload 4, []), (.iconst 4, []), (.iadd, []), (.iconst 2, []), (.invokevirtual 60, [215, 3, 0, 419]), (.invokevirtual 69, [186, 5, 1, 427]), (.ireturn, [1])]))
def b_X2_bring_3 : ABlk := (119, ([true, true, false, true, true], [(.aload_n 1, []), (.aload_n 0, []), (.iload 4, []), (.iload_n 3, []), (.invokevirtual 60, [215, 3, 0, 419]), (.aload_n 0, []), (.iload 4, []), (.iload_n 3, []), (.iadd, []), (.iconst 1, []), (.iadd, []), (.iconst 1, []), (.invokevirtual 60, [215, 3, 0, 419]), (.aload_n 0, []), (.iload 4, []), (.iload_n 3, []), (.iadd, []), (.iconst 2, []), (.iadd, []), (.iconst 1, []), (.invokevirtual 60, [215, 3, 0, 419]), (.invokevirtual 73, [187, 4, 1, 431]), (.ireturn, [1])]))
def b_X2_bring_4 : ABlk := (153, ([true, true, false, false, true], [(.aload_n 1, []), (.aload_n 0, []), (.iload 4, []), (.iconst 1, []), (.invokevirtual 60, [215, 3, 0, 419]), (.aload_n 0, []), (.iload 4, []), (.iconst 1, []), (.iadd, []), (.iconst 2, []), (.invokevirtual 60, [215, 3, 0, 419]), (.invokevirtual 77, [188, 3, 1, 435]), (.ireturn, [1])]))
def b_X2_bring_5 : ABlk := (174, ([false, true, false, false, false], [(.aload_n 1, []), (.getfield 81, [0, 0, 3, 1, 156]), (.ifCond .ne 5, [6]), (.iconst 0, []), (.ireturn, [1])]))
def b_X2_bring_6 : ABlk := (183, ([false, true, false, false, false], [(.aload_n 1, []), (.invokevirtual 84, [189, 1, 1, 447]), (.pop, []), (.iconst 1, []), (.ireturn, [1])]))
def b_X2_bring_7 : ABlk := (190, ([false, false, false, false, false], [(.iconst 0, []), (.ireturn, [1])]))
def k_X2_bring : List ABlk := [b_X2_bring_0, b_X2_bring_1, b_X2_bring_2, b_X2_bring_3, b_X2_bring_4, b_X2_bring_5, b_X2_bring_6, b_X2_bring_7]
def md_X2_bring : MDat := (yX2_bring, (cX2_bring, (5, (some .boolean, (false, (2, (2, ([414, 413, 7, 120], k_X2_bring))))))))
def n_X2_bring : Nat := 216
def b_X3_forget_0 : ABlk := (0, ([true], [(.aload_n 0, []), (.iconst 0, []), (.putfield 21, [0, 3, 3, 0, 242]), (.return_, [])]))
def k_X3_forget : List ABlk := [b_X3_forget_0]
def md_X3_forget : MDat := (yX3_forget, (cX3_forget, (1, (none, (false, (0, (3, ([492, 491, 24, 121], k_X3_forget))))))))
def n_X3_forget : Nat := 217
def b_X3_remember_0 : ABlk := (0, ([true, true], [(.aload_n 1, []), (.aload_n 1, []), (.getfield 25, [0, 0, 11, 1, 180]), (.invokevirtual 30, [175, 2, 1, 583]), (.ifCond .ne 4, [1]), (.return_, [])]))
def b_X3_remember_1 : ABlk := (12, ([true, true], [(.aload_n 0, []), (.getfield 21, [0, 3, 3, 0, 242]), (.bipush 8, []), (.if_icmp .lt 7, [2]), (.aload_n 0, []), (.invokevirtual 34, [219, 1, 0, 584]), (.nop, [2])]))
def b_X3_remember_2 : ABlk := (25, ([true, true], [(.aload_n 0, []), (.getfield 11, [1, 3, 0, 1, 0, 239]), (.aload_n 0, []), (.getfield 21, [0, 3, 3, 0, 242]), (.aload_n 1, []), (.getfield 25, [0, 0, 11, 1, 180]), (.iastore, []), (.aload_n 0, []), (.getfield 15, [1, 3, 1, 2, 0, 240]), (.aload_n 0, []), (.getfield 21, [0, 3, 3, 0, 242]), (.aload_n 1, []), (.getfield 37, [0, 0, 8, 1, 172]), (.iastore, []), (.aload_n 0, []), (.getfield 18, [1, 3, 2, 3, 0, 241]), (.aload_n 0, []), (.getfield 21, [0, 3, 3, 0, 242]), (.aload_n 1, []), (.getfield 39, [1, 0, 7, 6, 1, 166]), (.aload_n 1, []), (.getfield 25, [0, 0, 11, 1, 180]), (.iaload, []), (.iastore, []), (.aload_n 0, []), (.dup, []), (.getfield 21, [0, 3, 3, 0, 242]), (.iconst 1, []), (.iadd, []), (.putfield 21, [0, 3, 3, 0, 242]), (.return_, [])]))
def k_X3_remember : List ABlk := [b_X3_remember_0, b_X3_remember_1, b_X3_remember_2]
def md_X3_remember : MDat := (yX3_remember, (cX3_remember, (2, (none, (false, (1, (3, ([582, 581, 31, 121], k_X3_remember))))))))
def n_X3_remember : Nat := 218
def b_X3_dropOldest_0 : ABlk := (0, ([true], [(.aload_n 0, []), (.getfield 11, [1, 3, 0, 1, 0, 239]), (.iconst 1, []), (.aload_n 0, []), (.getfield 11, [1, 3, 0, 1, 0, 239]), (.iconst 0, []), (.bipush 7, []), (.invokestatic 40, [2, 588]), (.aload_n 0, []), (.getfield 15, [1, 3, 1, 2, 0, 240]), (.iconst 1, []), (.aload_n 0, []), (.getfield 15, [1, 3, 1, 2, 0, 240]), (.iconst 0, []), (.bipush 7, []), (.invokestatic 40, [2, 588]), (.aload_n 0, []), (.getfield 18, [1, 3, 2, 3, 0, 241]), (.iconst 1, []), (.aload_n 0, []), (.getfield 18, [1, 3, 2, 3, 0, 241]), (.iconst 0, []), (.bipush 7, []), (.invokestatic 40, [2, 588]), (.aload_n 0, []), (.bipush 7, []), (.putfield 21, [0, 3, 3, 0, 242]), (.return_, [])]))
def k_X3_dropOldest : List ABlk := [b_X3_dropOldest_0]
def md_X3_dropOldest : MDat := (yX3_dropOldest, (cX3_dropOldest, (1, (none, (false, (0, (3, ([587, 586, 32, 121], k_X3_dropOldest))))))))
def n_X3_dropOldest : Nat := 219
def b_X3_undo_0 : ABlk := (0, ([true, true, false], [(.aload_n 0, []), (.getfield 21, [0, 3, 3, 0, 242]), (.iconst 1, []), (.if_icmp .lt 21, [1]), (.aload_n 1, []), (.aload_n 0, []), (.getfield 11, [1, 3, 0, 1, 0, 239]), (.aload_n 0, []), (.getfield 21, [0, 3, 3, 0, 242]), (.iconst 1, []), (.isub, []), (.iaload, []), (.invokevirtual 30, [175, 2, 1, 583]), (.ifCond .ne 6, [2]), (.nop, [1])]))
def b_X3_undo_1 : ABlk := (26, ([false, false, false], [(.bipush (-9), []), (.ireturn, [])]))
def b_X3_undo_2 : ABlk := (29, ([true, true, false], [(.aload_n 0, []), (.dup, []), (.getfield 21, [0, 3, 3, 0, 242]), (.iconst 1, []), (.isub, []), (.putfield 21, [0, 3, 3, 0, 242]), (.aload_n 0, []), (.getfield 11, [1, 3, 0, 1, 0, 239]), (.aload_n 0, []), (.getfield 21, [0, 3, 3, 0, 242]), (.iaload, []), (.istore_n 2, []), (.aload_n 1, []), (.iload_n 2, []), (.putfield 25, [0, 0, 11, 1, 180]), (.aload_n 1, []), (.aload_n 0, []), (.getfield 15, [1, 3, 1, 2, 0, 240]), (.aload_n 0, []), (.getfield 21, [0, 3, 3, 0, 242]), (.iaload, []), (.putfield 37, [0, 0, 8, 1, 172]), (.aload_n 1, []), (.getfield 39, [1, 0, 7, 6, 1, 166]), (.iload_n 2, []), (.aload_n 0, []), (.getfield 18, [1, 3, 2, 3, 0, 241]), (.aload_n 0, []), (.getfield 21, [0, 3, 3, 0, 242]), (.iaload, []), (.iastore, []), (.iload_n 2, []), (.ireturn, [])]))
def k_X3_undo : List ABlk := [b_X3_undo_0, b_X3_undo_1, b_X3_undo_2]
def md_X3_undo : MDat := (yX3_undo, (cX3_undo, (3, (some .int, (false, (1, (3, ([597, 596, 33, 121], k_X3_undo))))))))
def n_X3_undo : Nat := 220
def b_X4_waysToPleaseAll_0 : ABlk := (0, ([true, true, true, false, false], [(.iload_n 2, []), (.iconst 1, []), (.if_icmp .lt 19, [1]), (.aload_n 1, []), (.getfield 19, [0, 0, 8, 1, 169]), (.ifCond .lt 12, [1]), (.aload_n 1, []), (.getfield 19, [0, 0, 8, 1, 169]), (.bipush 60, []), (.if_icmp .le 5, [2]), (.nop, [1])]))
def b_X4_waysToPleaseAll_1 : ABlk := (21, ([false, false, false, false, false], [(.lconst 0, []), (.lreturn, [])]))
def b_X4_waysToPleaseAll_2 : ABlk := (23, ([true, true, true, false, false], [(.iconst 0, []), (.istore_n 3, []), (.nop, [3])]))
def b_X4_waysToPleaseAll_3 : ABlk := (25, ([true, true, true, true, false], [(.iload_n 3, []), (.aload_n 1, []), (.getfield 19, [0, 0, 8, 1, 169]), (.if_icmp .gt 24, [6]), (.aload_n 0, []), (.getfield 9, [1, 4, 0, 1, 0, 269]), (.iload_n 3, []), (.iload_n 3, []), (.ifCond .ne 7, [4]), (.lconst 1, []), (.goto 4, [5])]))
def b_X4_waysToPleaseAll_4 : ABlk := (46, ([true, true, true, true, false], [(.lconst 0, []), (.nop, [5])]))
def b_X4_waysToPleaseAll_5 : ABlk := (47, ([true, true, true, true, false], [(.lastore, []), (.iinc 3 1, []), (.goto (-26), [3])]))
def b_X4_waysToPleaseAll_6 : ABlk := (54, ([true, true, true, false, false], [(.iconst 0, []), (.istore_n 3, []), (.nop, [7])]))
def b_X4_waysToPleaseAll_7 : ABlk := (56, ([true, true, true, true, false], [(.iload_n 3, []), (.aload_n 1, []), (.getfield 25, [0, 0, 3, 1, 154]), (.if_icmp .ge 42, [10]), (.aload_n 1, []), (.getfield 19, [0, 0, 8, 1, 169]), (.istore 4, []), (.nop, [8])]))
def b_X4_waysToPleaseAll_8 : ABlk := (70, ([true, true, true, true, true], [(.iload 4, []), (.ifCond .lt 25, [9]), (.aload_n 0, []), (.getfield 9, [1, 4, 0, 1, 0, 269]), (.iload 4, []), (.aload_n 0, []), (.aload_n 1, []), (.iload_n 3, []), (.iload 4, []), (.iload_n 2, []), (.invokevirtual 28, [222, 5, 0, 687]), (.lastore, []), (.iinc 4 (-1), []), (.goto (-24), [8])]))
def b_X4_waysToPleaseAll_9 : ABlk := (97, ([true, true, true, true, false], [(.iinc 3 1, []), (.goto (-44), [7])]))
def b_X4_waysToPleaseAll_10 : ABlk := (103, ([true, true, false, false, false], [(.aload_n 0, []), (.getfield 9, [1, 4, 0, 1, 0, 269]), (.aload_n 1, []), (.getfield 19, [0, 0, 8, 1, 169]), (.laload, []), (.lreturn, [])]))
def k_X4_waysToPleaseAll : List ABlk := [b_X4_waysToPleaseAll_0, b_X4_waysToPleaseAll_1, b_X4_waysToPleaseAll_2, b_X4_waysToPleaseAll_3, b_X4_waysToPleaseAll_4, b_X4_waysToPleaseAll_5, b_X4_waysToPleaseAll_6, b_X4_waysToPleaseAll_7, b_X4_waysToPleaseAll_8, b_X4_waysToPleaseAll_9, b_X4_waysToPleaseAll_10]
def md_X4_waysToPleaseAll : MDat := (yX4_waysToPleaseAll, (cX4_waysToPleaseAll, (5, (some .long, (false, (2, (4, ([686, 685, 39, 123], k_X4_waysToPleaseAll))))))))
def n_X4_waysToPleaseAll : Nat := 221
def b_X4_waysWith_0 : ABlk := (0, ([true, true, true, true, true, false, false, false], [(.lconst 0, []), (.lstore 5, []), (.iconst 0, []), (.istore 7, []), (.nop, [1])]))
def b_X4_waysWith_1 : ABlk := (6, ([true, true, true, true, true, true, false, true], [(.iload 7, []), (.iload_n 3, []), (.if_icmp .gt 48, [3]), (.aload_n 1, []), (.iload_n 2, []), (.aload_n 1, []), (.getfield 32, [1, 0, 7, 6, 1, 165]), (.iload_n 2, []), (.iaload, []), (.iload 7, []), (.iadd, []), (.invokevirtual 35, [177, 3, 1, 691]), (.ifCond .eq 17, [2]), (.lload 5, []), (.aload_n 0, []), (.getfield 9, [1, 4, 0, 1, 0, 269]), (.iload_n 3, []), (.iload 7, []), (.isub, []), (.laload, []), (.ladd, []), (.lstore 5, []), (.nop, [2])]))
def b_X4_waysWith_2 : ABlk := (43, ([true, true, true, true, true, true, false, true], [(.iload 7, []), (.iconst 1, []), (.iload 4, []), (.invokestatic 39, [0, 692]), (.iadd, []), (.istore 7, []), (.goto (-48), [1])]))
def b_X4_waysWith_3 : ABlk := (57, ([false, false, false, false, false, true, false, false], [(.lload 5, []), (.lreturn, [])]))
def k_X4_waysWith : List ABlk := [b_X4_waysWith_0, b_X4_waysWith_1, b_X4_waysWith_2, b_X4_waysWith_3]
def md_X4_waysWith : MDat := (yX4_waysWith, (cX4_waysWith, (8, (some .long, (false, (4, (4, ([690, 689, 40, 123], k_X4_waysWith))))))))
def n_X4_waysWith : Nat := 222
def b_X4_canPlease_0 : ABlk := (0, ([true, true, true, false, false], [(.iload_n 2, []), (.iconst 1, []), (.aload_n 1, []), (.getfield 25, [0, 0, 3, 1, 154]), (.ishl, []), (.iconst 1, []), (.isub, []), (.if_icmp .ne 20, [3]), (.aload_n 0, []), (.aload_n 1, []), (.iconst 1, []), (.invokevirtual 45, [221, 3, 0, 707]), (.lconst 0, []), (.lcmp, []), (.ifCond .le 7, [1]), (.iconst 1, []), (.goto 4, [2])]))
def b_X4_canPlease_1 : ABlk := (27, ([false, false, false, false, false], [(.iconst 0, []), (.nop, [2])]))
def b_X4_canPlease_2 : ABlk := (28, ([false, false, false, false, false], [(.ireturn, [1])]))
def b_X4_canPlease_3 : ABlk := (29, ([true, true, true, false, false], [(.iconst 0, []), (.istore_n 3, []), (.iconst 0, []), (.istore 4, []), (.nop, [4])]))
def b_X4_canPlease_4 : ABlk := (34, ([true, true, true, true, true], [(.iload 4, []), (.aload_n 1, []), (.getfield 25, [0, 0, 3, 1, 154]), (.if_icmp .ge 29, [6]), (.iload_n 2, []), (.iload 4, []), (.ishr, []), (.iconst 1, []), (.iand, []), (.iconst 1, []), (.if_icmp .ne 13, [5]), (.iload_n 3, []), (.aload_n 0, []), (.aload_n 1, []), (.iload 4, []), (.invokevirtual 49, [224, 3, 0, 708]), (.iadd, []), (.istore_n 3, []), (.nop, [5])]))
def b_X4_canPlease_5 : ABlk := (63, ([true, true, true, true, true], [(.iinc 4 1, []), (.goto (-32), [4])]))
def b_X4_canPlease_6 : ABlk := (69, ([false, true, false, true, false], [(.iload_n 3, []), (.aload_n 1, []), (.getfield 19, [0, 0, 8, 1, 169]), (.if_icmp .gt 7, [7]), (.iconst 1, []), (.goto 4, [8])]))
def b_X4_canPlease_7 : ABlk := (81, ([false, false, false, false, false], [(.iconst 0, []), (.nop, [8])]))
def b_X4_canPlease_8 : ABlk := (82, ([false, false, false, false, false], [(.ireturn, [1])]))
def k_X4_canPlease : List ABlk := [b_X4_canPlease_0, b_X4_canPlease_1, b_X4_canPlease_2, b_X4_canPlease_3, b_X4_canPlease_4, b_X4_canPlease_5, b_X4_canPlease_6, b_X4_canPlease_7, b_X4_canPlease_8]
def md_X4_canPlease : MDat := (yX4_canPlease, (cX4_canPlease, (5, (some .boolean, (false, (2, (4, ([706, 705, 41, 123], k_X4_canPlease))))))))
def n_X4_canPlease : Nat := 223
def b_X4_leastNeeded_0 : ABlk := (0, ([false, true, true, false], [(.iconst 0, []), (.istore_n 3, []), (.nop, [1])]))
def b_X4_leastNeeded_1 : ABlk := (2, ([false, true, true, true], [(.iload_n 3, []), (.aload_n 1, []), (.getfield 19, [0, 0, 8, 1, 169]), (.if_icmp .gt 27, [3]), (.aload_n 1, []), (.iload_n 2, []), (.aload_n 1, []), (.getfield 32, [1, 0, 7, 6, 1, 165]), (.iload_n 2, []), (.iaload, []), (.iload_n 3, []), (.iadd, []), (.invokevirtual 35, [177, 3, 1, 691]), (.ifCond .eq 5, [2]), (.iload_n 3, []), (.ireturn, [])]))
def b_X4_leastNeeded_2 : ABlk := (28, ([false, true, true, true], [(.iinc 3 1, []), (.goto (-29), [1])]))
def b_X4_leastNeeded_3 : ABlk := (34, ([false, false, false, false], [(.ldc 53, [0, 1000000, 0, 712]), (.ireturn, [])]))
def k_X4_leastNeeded : List ABlk := [b_X4_leastNeeded_0, b_X4_leastNeeded_1, b_X4_leastNeeded_2, b_X4_leastNeeded_3]
def md_X4_leastNeeded : MDat := (yX4_leastNeeded, (cX4_leastNeeded, (4, (some .int, (false, (2, (4, ([711, 710, 42, 123], k_X4_leastNeeded))))))))
def n_X4_leastNeeded : Nat := 224
def b_X4_fewestPushes_0 : ABlk := (0, ([true, true, false, false, false, false], [(.aload_n 1, []), (.invokevirtual 54, [183, 1, 1, 729]), (.sipush 396, []), (.invokestatic 58, [1, 733]), (.istore_n 2, []), (.iconst 0, []), (.istore_n 3, []), (.nop, [1])]))
def b_X4_fewestPushes_1 : ABlk := (13, ([true, true, true, true, false, false], [(.iload_n 3, []), (.iload_n 2, []), (.if_icmp .gt 25, [4]), (.aload_n 0, []), (.getfield 15, [1, 4, 1, 2, 0, 270]), (.iload_n 3, []), (.iload_n 3, []), (.ifCond .ne 7, [2]), (.iconst 0, []), (.goto 5, [3])]))
def b_X4_fewestPushes_2 : ABlk := (31, ([true, true, true, true, false, false], [(.ldc 53, [0, 1000000, 0, 712]), (.nop, [3])]))
def b_X4_fewestPushes_3 : ABlk := (33, ([true, true, true, true, false, false], [(.iastore, []), (.iinc 3 1, []), (.goto (-24), [1])]))
def b_X4_fewestPushes_4 : ABlk := (40, ([true, true, true, false, false, false], [(.iconst 0, []), (.istore_n 3, []), (.nop, [5])]))
def b_X4_fewestPushes_5 : ABlk := (42, ([true, true, true, true, false, false], [(.iload_n 3, []), (.aload_n 1, []), (.getfield 25, [0, 0, 3, 1, 154]), (.if_icmp .ge 47, [8]), (.aload_n 1, []), (.iload_n 3, []), (.invokevirtual 61, [178, 2, 1, 734]), (.istore 4, []), (.iload_n 2, []), (.istore 5, []), (.nop, [6])]))
def b_X4_fewestPushes_6 : ABlk := (60, ([true, true, true, true, true, true], [(.iload 5, []), (.ifCond .lt 26, [7]), (.aload_n 0, []), (.getfield 15, [1, 4, 1, 2, 0, 270]), (.iload 5, []), (.aload_n 0, []), (.aload_n 1, []), (.iload_n 3, []), (.iload 4, []), (.iload 5, []), (.invokevirtual 65, [226, 5, 0, 738]), (.iastore, []), (.iinc 5 (-1), []), (.goto (-25), [6])]))
def b_X4_fewestPushes_7 : ABlk := (88, ([true, true, true, true, false, false], [(.iinc 3 1, []), (.goto (-49), [5])]))
def b_X4_fewestPushes_8 : ABlk := (94, ([true, false, true, false, false, false], [(.aload_n 0, []), (.getfield 15, [1, 4, 1, 2, 0, 270]), (.iload_n 2, []), (.iaload, []), (.ldc 53, [0, 1000000, 0, 712]), (.if_icmp .ge 12, [9]), (.aload_n 0, []), (.getfield 15, [1, 4, 1, 2, 0, 270]), (.iload_n 2, []), (.iaload, []), (.goto 5, [10])]))
def b_X4_fewestPushes_9 : ABlk := (114, ([false, false, false, false, false, false], [(.bipush (-9), []), (.nop, [10])]))
def b_X4_fewestPushes_10 : ABlk := (116, ([false, false, false, false, false, false], [(.ireturn, [])]))
def k_X4_fewestPushes : List ABlk := [b_X4_fewestPushes_0, b_X4_fewestPushes_1, b_X4_fewestPushes_2, b_X4_fewestPushes_3, b_X4_fewestPushes_4, b_X4_fewestPushes_5, b_X4_fewestPushes_6, b_X4_fewestPushes_7, b_X4_fewestPushes_8, b_X4_fewestPushes_9, b_X4_fewestPushes_10]
def md_X4_fewestPushes : MDat := (yX4_fewestPushes, (cX4_fewestPushes, (6, (some .int, (false, (1, (4, ([728, 727, 44, 123], k_X4_fewestPushes))))))))
def n_X4_fewestPushes : Nat := 225
def b_X4_costWith_0 : ABlk := (0, ([true, true, true, true, true, false, false, false, false], [(.ldc 53, [0, 1000000, 0, 712]), (.istore 5, []), (.iload 4, []), (.bipush 99, []), (.invokestatic 58, [1, 733]), (.istore 6, []), (.iconst 1, []), (.aload_n 1, []), (.getfield 69, [1, 0, 1, 1, 1, 150]), (.iconst 0, []), (.iaload, []), (.invokestatic 39, [0, 692]), (.istore 7, []), (.iconst 1, []), (.iload_n 3, []), (.invokestatic 39, [0, 692]), (.istore 8, []), (.nop, [1])]))
def b_X4_costWith_1 : ABlk := (32, ([true, true, true, false, true, true, true, true, true], [(.iload 8, []), (.iload 6, []), (.if_icmp .gt 44, [2]), (.iload 5, []), (.aload_n 0, []), (.getfield 15, [1, 4, 1, 2, 0, 270]), (.iload 4, []), (.iload 8, []), (.isub, []), (.iaload, []), (.iconst 0, []), (.iload 8, []), (.aload_n 1, []), (.getfield 32, [1, 0, 7, 6, 1, 165]), (.iload_n 2, []), (.iaload, []), (.isub, []), (.invokestatic 39, [0, 692]), (.iadd, []), (.invokestatic 58, [1, 733]), (.istore 5, []), (.iload 8, []), (.iload 7, []), (.iadd, []), (.istore 8, []), (.goto (-45), [1])]))
def b_X4_costWith_2 : ABlk := (80, ([false, false, false, false, false, true, false, false, false], [(.iload 5, []), (.ireturn, [])]))
def k_X4_costWith : List ABlk := [b_X4_costWith_0, b_X4_costWith_1, b_X4_costWith_2]
def md_X4_costWith : MDat := (yX4_costWith, (cX4_costWith, (9, (some .int, (false, (4, (4, ([741, 740, 47, 123], k_X4_costWith))))))))
def n_X4_costWith : Nat := 226
def b_J6_bitCount_0f7a4_0 : ABlk := (0, ([true], [(.iload_n 0, []), (.iload_n 0, []), (.iconst 1, []), (.iushr, []), (.ldc_w 265, [0, 1431655765, 0, 700]), (.iand, []), (.isub, []), (.istore_n 0, []), (.iload_n 0, []), (.ldc_w 266, [0, 858993459, 0, 701]), (.iand, []), (.iload_n 0, []), (.iconst 2, []), (.iushr, []), (.ldc_w 266, [0, 858993459, 0, 701]), (.iand, []), (.iadd, []), (.istore_n 0, []), (.iload_n 0, []), (.iload_n 0, []), (.iconst 4, []), (.iushr, []), (.iadd, []), (.ldc_w 267, [0, 252645135, 0, 702]), (.iand, []), (.istore_n 0, []), (.iload_n 0, []), (.iload_n 0, []), (.bipush 8, []), (.iushr, []), (.iadd, []), (.istore_n 0, []), (.iload_n 0, []), (.iload_n 0, []), (.bipush 16, []), (.iushr, []), (.iadd, []), (.istore_n 0, []), (.iload_n 0, []), (.bipush 63, []), (.iand, []), (.ireturn, [])]))
def k_J6_bitCount_0f7a4 : List ABlk := [b_J6_bitCount_0f7a4_0]
def md_J6_bitCount_0f7a4 : MDat := (yJ6_bitCount_0f7a4, (cJ6_bitCount_0f7a4, (1, (some .int, (true, (1, (99, ([699, 698, 0, 131], k_J6_bitCount_0f7a4))))))))
def n_J6_bitCount_0f7a4 : Nat := 227
def b_J0_charAt_5068e_0 : ABlk := (0, ([true, true], [(.aload_n 0, []), (.invokevirtual 492, [232, 1, 0, 366]), (.ifCond .eq 12, [1]), (.aload_n 0, []), (.getfield 9, [1, 20, 0, 20, 2, 1457]), (.iload_n 1, []), (.invokestatic 495, [234, 2, 0, 370]), (.ireturn, [2])]))
def b_J0_charAt_5068e_1 : ABlk := (16, ([true, true], [(.aload_n 0, []), (.getfield 9, [1, 20, 0, 20, 2, 1457]), (.iload_n 1, [])]))
def k_J0_charAt_5068e : List ABlk := [b_J0_charAt_5068e_0, b_J0_charAt_5068e_1]
def md_J0_charAt_5068e : MDat := (yJ0_charAt_5068e, (cJ0_charAt_5068e, (2, (some .char, (false, (1, (20, ([365, 363, 364, 125], k_J0_charAt_5068e))))))))
def n_J0_charAt_5068e : Nat := 228
def b_J0_checkIndex_df160_0 : ABlk := (0, ([true, true], [(.iload_n 0, []), (.iload_n 1, []), (.getstatic 1053, [1, 376]), (.invokestatic 1059, [235, 3, 0, 378]), (.pop, []), (.return_, [])]))
def k_J0_checkIndex_df160 : List ABlk := [b_J0_checkIndex_df160_0]
def md_J0_checkIndex_df160 : MDat := (yJ0_checkIndex_df160, (cJ0_checkIndex_df160, (2, (none, (true, (2, (20, ([375, 374, 0, 125], k_J0_checkIndex_df160))))))))
def n_J0_checkIndex_df160 : Nat := 229
def b_J0_coder_7d493_0 : ABlk := (0, ([true], [(.getstatic 38, [0, 360]), (.ifCond .eq 10, [1]), (.aload_n 0, []), (.getfield 15, [3, 1458]), (.goto 4, [2])]))
def b_J0_coder_7d493_1 : ABlk := (13, ([false], [(.iconst 1, []), (.nop, [2])]))
def b_J0_coder_7d493_2 : ABlk := (14, ([false], [(.ireturn, [3])]))
def k_J0_coder_7d493 : List ABlk := [b_J0_coder_7d493_0, b_J0_coder_7d493_1, b_J0_coder_7d493_2]
def md_J0_coder_7d493 : MDat := (yJ0_coder_7d493, (cJ0_coder_7d493, (1, (some .byte, (false, (0, (20, ([359, 357, 358, 125], k_J0_coder_7d493))))))))
def n_J0_coder_7d493 : Nat := 230
def b_J0_isEmpty_aae02_0 : ABlk := (0, ([true], [(.aload_n 0, []), (.getfield 9, [1, 20, 0, 20, 2, 1457]), (.arraylength, []), (.ifCond .ne 7, [1]), (.iconst 1, []), (.goto 4, [2])]))
def b_J0_isEmpty_aae02_1 : ABlk := (12, ([false], [(.iconst 0, []), (.nop, [2])]))
def b_J0_isEmpty_aae02_2 : ABlk := (13, ([false], [(.ireturn, [1])]))
def k_J0_isEmpty_aae02 : List ABlk := [b_J0_isEmpty_aae02_0, b_J0_isEmpty_aae02_1, b_J0_isEmpty_aae02_2]
def md_J0_isEmpty_aae02 : MDat := (yJ0_isEmpty_aae02, (cJ0_isEmpty_aae02, (1, (some .boolean, (false, (0, (20, ([351, 349, 350, 125], k_J0_isEmpty_aae02))))))))
def n_J0_isEmpty_aae02 : Nat := 231
def b_J0_isLatin1_aae02_0 : ABlk := (0, ([true], [(.getstatic 38, [0, 360]), (.ifCond .eq 14, [1]), (.aload_n 0, []), (.getfield 15, [3, 1458]), (.ifCond .ne 7, [1]), (.iconst 1, []), (.goto 4, [2])]))
def b_J0_isLatin1_aae02_1 : ABlk := (17, ([false], [(.iconst 0, []), (.nop, [2])]))
def b_J0_isLatin1_aae02_2 : ABlk := (18, ([false], [(.ireturn, [1])]))
def k_J0_isLatin1_aae02 : List ABlk := [b_J0_isLatin1_aae02_0, b_J0_isLatin1_aae02_1, b_J0_isLatin1_aae02_2]
def md_J0_isLatin1_aae02 : MDat := (yJ0_isLatin1_aae02, (cJ0_isLatin1_aae02, (1, (some .boolean, (false, (0, (20, ([369, 367, 368, 125], k_J0_isLatin1_aae02))))))))
def n_J0_isLatin1_aae02 : Nat := 232
def b_J0_length_8abf5_0 : ABlk := (0, ([true], [(.aload_n 0, []), (.getfield 9, [1, 20, 0, 20, 2, 1457]), (.arraylength, []), (.aload_n 0, []), (.invokevirtual 335, [230, 1, 0, 356]), (.ishr, []), (.ireturn, [])]))
def k_J0_length_8abf5 : List ABlk := [b_J0_length_8abf5_0]
def md_J0_length_8abf5 : MDat := (yJ0_length_8abf5, (cJ0_length_8abf5, (1, (some .int, (false, (0, (20, ([355, 353, 354, 125], k_J0_length_8abf5))))))))
def n_J0_length_8abf5 : Nat := 233
def b_J1_charAt_3b067_0 : ABlk := (0, ([true, true], [(.iload_n 1, []), (.aload_n 0, []), (.arraylength, []), (.invokestatic 9, [229, 2, 0, 373]), (.aload_n 0, []), (.iload_n 1, []), (.baload, [1]), (.sipush 255, []), (.iand, []), (.i2c, []), (.ireturn, [2])]))
def k_J1_charAt_3b067 : List ABlk := [b_J1_charAt_3b067_0]
def md_J1_charAt_3b067 : MDat := (yJ1_charAt_3b067, (cJ1_charAt_3b067, (2, (some .char, (true, (2, (99, ([372, 371, 0, 126], k_J1_charAt_3b067))))))))
def n_J1_charAt_3b067 : Nat := 234
def b_J3_checkIndex_8e157_0 : ABlk := (0, ([true, true, true], [(.iload_n 0, []), (.ifCond .lt 8, [1]), (.iload_n 0, []), (.iload_n 1, []), (.if_icmp .lt 10, [2]), (.nop, [1])]))
def b_J3_checkIndex_8e157_1 : ABlk := (9, ([true, true, true], [(.aload_n 2, []), (.iload_n 0, []), (.iload_n 1, [])]))
def b_J3_checkIndex_8e157_2 : ABlk := (16, ([true, false, false], [(.iload_n 0, []), (.ireturn, [])]))
def k_J3_checkIndex_8e157 : List ABlk := [b_J3_checkIndex_8e157_0, b_J3_checkIndex_8e157_1, b_J3_checkIndex_8e157_2]
def md_J3_checkIndex_8e157 : MDat := (yJ3_checkIndex_8e157, (cJ3_checkIndex_8e157, (3, (some .int, (true, (3, (99, ([380, 379, 0, 127], k_J3_checkIndex_8e157))))))))
def n_J3_checkIndex_8e157 : Nat := 235
def mt : List MDat := [md_X5_feed, md_X5_table, md_X5_rhyme, md_X5_begins, md_X5_says, md_X5_both, md_X5_leastSaidByAll, md_X5_cycleOfTold, md_X5_cycle, md_X5_same, md_X5_fair, md_X5_rhymed, md_X5_eater, md_X5_lay, md_X5_kind, md_X5_set, md_X5_refusalToSet, md_X5_turn, md_X5_back, md_X5_supper, md_X5_behind, md_X5_best, md_X5_rims, md_X5_bringsTold, md_X5_wished, md_X5_seeds, md_X5_nextSeed, md_X5_drawBelow, md_X5_judge, md_X5_firstNotSo, md_X5_planned, md_X5_scheme, md_X5_numberLeadsToWish, md_X5_leadsToWish, md_X5_aloneLeadsToWish, md_X5_shared, md_X5_can, md_X5_gift, md_X5_pushes, md_X5_sure, md_X5_last, md_X5_duel, md_X5_pile, md_X5_move, md_X5_wins, md_X5_spoons, md_X5_unknown, md_X5_petals, md_X5_petal, md_X5_likeliestWord, md_X5_weightFor, md_X5_row, md_X5_clear, md_X5_image, md_X5_restore, md_X5_count, md_X5_refuse, md_X5_refuseLong, md_X5_spoken, md_X5_commonDivisor, md_X5_commonMultiple, md_X5_partOf, md_X6_in, md_X6_refuse, md_X6_isRhyme, md_X6_isEater, md_X6_wrongNumber, md_X6_ones, md_X6_saidBy, md_X6_wordTo, md_X6_wouldHave, md_X6_has, md_X6_leastFor, md_X6_playful, md_X6_wants, md_X6_turnOne, md_X6_supperNow, md_X6_haveBits, md_X6_carry, md_X6_carryAll, md_X6_open, md_X6_putBack, md_X6_image, md_X6_restore, md_X6_feed, md_X6_here, md_X6_readDigit, md_X6_readOneOrTwo, md_X6_readTwo, md_X6_take, md_X6_readStatement, md_X6_rhymeComes, md_X6_eaterComes, md_X6_bowlComes, md_X6_wordComes, md_X6_comes, md_X6_table, md_X6_rhyme, md_X6_begins, md_X6_says, md_X6_eater, md_X6_lay, md_X6_kind, md_X6_wrongSetting, md_X6_set, md_X6_turn, md_X6_keepTurn, md_X6_back, md_X6_supper, md_X6_behind, md_X6_allSay, md_X6_both, md_X6_beginWays, md_X6_eatsToo, md_X6_wrongShare, md_X6_shared, md_X6_canAll, md_X6_can, md_X6_stateOf, md_X6_isSure, md_X6_laySure, md_X6_sureFirst, md_X6_sure, md_X6_last, md_X6_divisor, md_X6_partOf, md_X6_wrongSpoons, md_X6_spoons, md_X6_haveBy, md_X6_fair, md_X6_haveAfter, md_X6_gift, md_X6_wrongPetals, md_X6_weightBy, md_X6_bestWord, md_X6_petals, md_X6_petal, md_X6_best, md_X6_areRims, md_X6_rims, md_X6_wished, md_X6_cycle, md_X6_same, md_X6_haveWith, md_X6_rhymed, md_X6_givesToo, md_X6_pushes, md_X6_unknown, md_X6_takeSo, md_X6_planned, md_X6_bringsWish, md_X6_ownTurns, md_X6_scheme, md_X6_placeOf, md_X6_layWins, md_X6_pileState, md_X6_firstMove, md_X6_pile, md_X6_move, md_X6_wins, md_X6_duelState, md_X6_worthTo, md_X6_endBy, md_X6_bestTake, md_X6_layDuel, md_X6_duel, md_X6_row, md_X6_judge, md_X6_clear, md_X6_draw, md_X6_seeds, md_X6_count, md_X0_copyFrom, md_X0_hasRhyme, md_X0_hasWord, md_X0_hasEater, md_X0_wordTo, md_X0_pleases, md_X0_leastPleasing, md_X0_isPleased, md_X0_pleasedBits, md_X0_pleasedBy, md_X0_pleasedByPush, md_X0_allStones, md_X0_allOnPiles, md_X0_addRhyme, md_X0_addEater, md_X0_fillBowl, md_X0_beginWith, md_X0_takeTurn, md_X0_take, md_X0_wanted, md_X0_leastToPlease, md_X0_numberInPlay, md_X0_eatUp, md_X1_slot, md_X1_outcomeNow, md_X1_behindOne, md_X1_playAgainst, md_X1_sureOutcome, md_X1_firstSureNumber, md_X1_playDuel, md_X1_duelOutcome, md_X1_afterNumber, md_X1_duelNumber, md_X1_worthTo, md_X1_moverLoses, md_X2_hasRoom, md_X2_add, md_X2_signAt, md_X2_isDigit, md_X2_formOf, md_X2_wrongPlace, md_X2_endOf, md_X2_digitsFrom, md_X2_numberAt, md_X2_bring, md_X3_forget, md_X3_remember, md_X3_dropOldest, md_X3_undo, md_X4_waysToPleaseAll, md_X4_waysWith, md_X4_canPlease, md_X4_leastNeeded, md_X4_fewestPushes, md_X4_costWith, md_J6_bitCount_0f7a4, md_J0_charAt_5068e, md_J0_checkIndex_df160, md_J0_coder_7d493, md_J0_isEmpty_aae02, md_J0_isLatin1_aae02, md_J0_length_8abf5, md_J1_charAt_3b067, md_J3_checkIndex_8e157]
def b_law_0 : ABlk := (0, ([true, false, false, false], []))
def b_law_1 : ABlk := (18, ([true, true, true, true], [(.iload_n 3, []), (.aload_n 0, []), (.arraylength, [1]), (.bipush 7, []), (.isub, []), (.if_icmp .gt 1354, [47]), (.aload_n 0, []), (.iload_n 3, []), (.iaload, [1]), (.bipush 63, []), (.iand, []), (.tableswitch 1339 0 43 #[191, 214, 227, 260, 293, 326, 359, 402, 445, 478, 491, 514, 537, 560, 584, 607, 640, 663, 739, 762, 775, 798, 832, 855, 868, 891, 914, 927, 940, 993, 1006, 1019, 1052, 1075, 1088, 1142, 1165, 1188, 1211, 1244, 1267, 1290, 1303, 1316], [46, 2, 3, 4, 5, 6, 7, 8, 9, 10, 11, 12, 13, 14, 15, 16, 17, 18, 19, 20, 21, 22, 23, 24, 25, 26, 27, 28, 29, 30, 31, 32, 33, 34, 35, 36, 37, 38, 39, 40, 41, 42, 43, 44, 45])]))
def b_law_2 : ABlk := (224, ([true, true, true, true], [(.aload_n 1, []), (.aload_n 0, []), (.iload_n 3, []), (.iconst 1, []), (.iadd, []), (.iaload, [1]), (.invokevirtual 13, [0, 2, 0, 311]), (.aload_n 2, []), (.aload_n 0, []), (.iload_n 3, []), (.iconst 1, []), (.iadd, []), (.iaload, [1]), (.invokevirtual 17, [84, 2, 0, 1031]), (.if_icmp .eq 1130, [46]), (.iconst 0, []), (.ireturn, [1])]))
def b_law_3 : ABlk := (247, ([true, true, true, true], [(.aload_n 1, []), (.invokevirtual 18, [1, 1, 0, 327]), (.aload_n 2, []), (.invokevirtual 22, [96, 1, 0, 1035]), (.if_icmp .eq 1117, [46]), (.iconst 0, []), (.ireturn, [1])]))
def b_law_4 : ABlk := (260, ([true, true, true, true], [(.aload_n 1, []), (.aload_n 0, []), (.iload_n 3, []), (.iconst 1, []), (.iadd, []), (.iaload, [1]), (.aload_n 0, []), (.iload_n 3, []), (.iconst 2, []), (.iadd, []), (.iaload, [1]), (.invokevirtual 23, [2, 3, 0, 494]), (.aload_n 2, []), (.aload_n 0, []), (.iload_n 3, []), (.iconst 1, []), (.iadd, []), (.iaload, [1]), (.aload_n 0, []), (.iload_n 3, []), (.iconst 2, []), (.iadd, []), (.iaload, [1]), (.invokevirtual 27, [97, 3, 0, 1132]), (.if_icmp .eq 1084, [46]), (.iconst 0, []), (.ireturn, [1])]))
def b_law_5 : ABlk := (293, ([true, true, true, true], [(.aload_n 1, []), (.aload_n 0, []), (.iload_n 3, []), (.iconst 1, []), (.iadd, []), (.iaload, [1]), (.aload_n 0, []), (.iload_n 3, []), (.iconst 2, []), (.iadd, []), (.iaload, [1]), (.invokevirtual 28, [3, 3, 0, 499]), (.aload_n 2, []), (.aload_n 0, []), (.iload_n 3, []), (.iconst 1, []), (.iadd, []), (.iaload, [1]), (.aload_n 0, []), (.iload_n 3, []), (.iconst 2, []), (.iadd, []), (.iaload, [1]), (.invokevirtual 31, [98, 3, 0, 1136]), (.if_icmp .eq 1051, [46]), (.iconst 0, []), (.ireturn, [1])]))
def b_law_6 : ABlk := (326, ([true, true, true, true], [(.aload_n 1, []), (.aload_n 0, []), (.iload_n 3, []), (.iconst 1, []), (.iadd, []), (.iaload, [1]), (.aload_n 0, []), (.iload_n 3, []), (.iconst 2, []), (.iadd, []), (.iaload, [1]), (.invokevirtual 32, [4, 3, 0, 504]), (.aload_n 2, []), (.aload_n 0, []), (.iload_n 3, []), (.iconst 1, []), (.iadd, []), (.iaload, [1]), (.aload_n 0, []), (.iload_n 3, []), (.iconst 2, []), (.iadd, []), (.iaload, [1]), (.invokevirtual 35, [99, 3, 0, 1140]), (.if_icmp .eq 1018, [46]), (.iconst 0, []), (.ireturn, [1])]))
def b_law_7 : ABlk := (359, ([true, true, true, true], [(.aload_n 1, []), (.aload_n 0, []), (.iload_n 3, []), (.iconst 1, []), (.iadd, []), (.iaload, [1]), (.aload_n 0, []), (.iload_n 3, []), (.iconst 2, []), (.iadd, []), (.iaload, [1]), (.invokevirtual 36, [12, 3, 0, 550]), (.aload_n 2, []), (.aload_n 0, []), (.iload_n 3, []), (.iconst 1, []), (.iadd, []), (.iaload, [1]), (.aload_n 0, []), (.iload_n 3, []), (.iconst 2, []), (.iadd, []), (.iaload, [1]), (.invokevirtual 39, [100, 3, 0, 1147]), (.if_icmp .eq 985, [46]), (.iconst 0, []), (.ireturn, [1])]))
def b_law_8 : ABlk := (392, ([true, true, true, true], [(.aload_n 1, []), (.aload_n 0, []), (.iload_n 3, []), (.iconst 1, []), (.iadd, []), (.iaload, [1]), (.aload_n 0, []), (.iload_n 3, []), (.iconst 2, []), (.iadd, []), (.iaload, [1]), (.aload_n 0, []), (.iload_n 3, []), (.iconst 3, []), (.iadd, []), (.iaload, [1]), (.invokevirtual 40, [13, 4, 0, 559]), (.aload_n 2, []), (.aload_n 0, []), (.iload_n 3, []), (.iconst 1, []), (.iadd, []), (.iaload, [1]), (.aload_n 0, []), (.iload_n 3, []), (.iconst 2, []), (.iadd, []), (.iaload, [1]), (.aload_n 0, []), (.iload_n 3, []), (.iconst 3, []), (.iadd, []), (.iaload, [1]), (.invokevirtual 44, [101, 4, 0, 1160]), (.if_icmp .eq 942, [46]), (.iconst 0, []), (.ireturn, [1])]))
def b_law_9 : ABlk := (435, ([true, true, true, true], [(.aload_n 1, []), (.aload_n 0, []), (.iload_n 3, []), (.iconst 1, []), (.iadd, []), (.iaload, [1]), (.aload_n 0, []), (.iload_n 3, []), (.iconst 2, []), (.iadd, []), (.iaload, [1]), (.aload_n 0, []), (.iload_n 3, []), (.iconst 3, []), (.iadd, []), (.iaload, [1]), (.invokevirtual 45, [14, 4, 0, 563]), (.aload_n 2, []), (.aload_n 0, []), (.iload_n 3, []), (.iconst 1, []), (.iadd, []), (.iaload, [1]), (.aload_n 0, []), (.iload_n 3, []), (.iconst 2, []), (.iadd, []), (.iaload, [1]), (.aload_n 0, []), (.iload_n 3, []), (.iconst 3, []), (.iadd, []), (.iaload, [1]), (.invokevirtual 48, [102, 4, 0, 1164]), (.if_icmp .eq 899, [46]), (.iconst 0, []), (.ireturn, [1])]))
def b_law_10 : ABlk := (478, ([true, true, true, true], [(.aload_n 1, []), (.aload_n 0, []), (.iload_n 3, []), (.iconst 1, []), (.iadd, []), (.iaload, [1]), (.aload_n 0, []), (.iload_n 3, []), (.iconst 2, []), (.iadd, []), (.iaload, [1]), (.invokevirtual 49, [15, 3, 0, 567]), (.aload_n 2, []), (.aload_n 0, []), (.iload_n 3, []), (.iconst 1, []), (.iadd, []), (.iaload, [1]), (.aload_n 0, []), (.iload_n 3, []), (.iconst 2, []), (.iadd, []), (.iaload, [1]), (.invokevirtual 52, [104, 3, 0, 1168]), (.if_icmp .eq 866, [46]), (.iconst 0, []), (.ireturn, [1])]))
def b_law_11 : ABlk := (511, ([true, true, true, true], [(.aload_n 1, []), (.invokevirtual 53, [17, 1, 0, 575]), (.aload_n 2, []), (.invokevirtual 56, [105, 1, 0, 1176]), (.if_icmp .eq 853, [46]), (.iconst 0, []), (.ireturn, [1])]))
def b_law_12 : ABlk := (524, ([true, true, true, true], [(.aload_n 1, []), (.aload_n 0, []), (.iload_n 3, []), (.iconst 1, []), (.iadd, []), (.iaload, [1]), (.invokevirtual 57, [19, 2, 0, 598]), (.aload_n 2, []), (.aload_n 0, []), (.iload_n 3, []), (.iconst 1, []), (.iadd, []), (.iaload, [1]), (.invokevirtual 60, [108, 2, 0, 1188]), (.if_icmp .eq 830, [46]), (.iconst 0, []), (.ireturn, [1])]))
def b_law_13 : ABlk := (547, ([true, true, true, true], [(.aload_n 1, []), (.aload_n 0, []), (.iload_n 3, []), (.iconst 1, []), (.iadd, []), (.iaload, [1]), (.invokevirtual 61, [20, 2, 0, 612]), (.aload_n 2, []), (.aload_n 0, []), (.iload_n 3, []), (.iconst 1, []), (.iadd, []), (.iaload, [1]), (.invokevirtual 64, [109, 2, 0, 1200]), (.if_icmp .eq 807, [46]), (.iconst 0, []), (.ireturn, [1])]))
def b_law_14 : ABlk := (570, ([true, true, true, true], [(.aload_n 1, []), (.aload_n 0, []), (.iload_n 3, []), (.iconst 1, []), (.iadd, []), (.iaload, [1]), (.invokevirtual 65, [5, 2, 0, 512]), (.aload_n 2, []), (.aload_n 0, []), (.iload_n 3, []), (.iconst 1, []), (.iadd, []), (.iaload, [1]), (.invokevirtual 68, [111, 2, 0, 1204]), (.if_icmp .eq 784, [46]), (.iconst 0, []), (.ireturn, [1])]))
def b_law_15 : ABlk := (593, ([true, true, true, true], [(.aload_n 1, []), (.aload_n 0, []), (.iload_n 3, []), (.iconst 1, []), (.iadd, []), (.iaload, [1]), (.invokevirtual 69, [35, 2, 0, 674]), (.aload_n 2, []), (.aload_n 0, []), (.iload_n 3, []), (.iconst 1, []), (.iadd, []), (.iaload, [1]), (.invokevirtual 73, [115, 2, 0, 1212]), (.lcmp, []), (.ifCond .eq 760, [46]), (.iconst 0, []), (.ireturn, [1])]))
def b_law_16 : ABlk := (617, ([true, true, true, true], [(.aload_n 1, []), (.aload_n 0, []), (.iload_n 3, []), (.iconst 1, []), (.iadd, []), (.iaload, [1]), (.invokevirtual 74, [36, 2, 0, 693]), (.aload_n 2, []), (.aload_n 0, []), (.iload_n 3, []), (.iconst 1, []), (.iadd, []), (.iaload, [1]), (.invokevirtual 77, [117, 2, 0, 1229]), (.if_icmp .eq 737, [46]), (.iconst 0, []), (.ireturn, [1])]))
def b_law_17 : ABlk := (640, ([true, true, true, true], [(.aload_n 1, []), (.aload_n 0, []), (.iload_n 3, []), (.iconst 1, []), (.iadd, []), (.iaload, [1]), (.aload_n 0, []), (.iload_n 3, []), (.iconst 2, []), (.iadd, []), (.iaload, [1]), (.invokevirtual 78, [39, 3, 0, 742]), (.aload_n 2, []), (.aload_n 0, []), (.iload_n 3, []), (.iconst 1, []), (.iadd, []), (.iaload, [1]), (.aload_n 0, []), (.iload_n 3, []), (.iconst 2, []), (.iadd, []), (.iaload, [1]), (.invokevirtual 81, [122, 3, 0, 1240]), (.if_icmp .eq 704, [46]), (.iconst 0, []), (.ireturn, [1])]))
def b_law_18 : ABlk := (673, ([true, true, true, true], [(.aload_n 1, []), (.aload_n 0, []), (.iload_n 3, []), (.iconst 1, []), (.iadd, []), (.iaload, [1]), (.invokevirtual 82, [40, 2, 0, 772]), (.aload_n 2, []), (.aload_n 0, []), (.iload_n 3, []), (.iconst 1, []), (.iadd, []), (.iaload, [1]), (.invokevirtual 85, [123, 2, 0, 1259]), (.if_icmp .eq 681, [46]), (.iconst 0, []), (.ireturn, [1])]))
def b_law_19 : ABlk := (696, ([true, true, true, true], [(.aload_n 1, []), (.aload_n 0, []), (.iload_n 3, []), (.iconst 1, []), (.iadd, []), (.iaload, [1]), (.aload_n 0, []), (.iload_n 3, []), (.iconst 2, []), (.iadd, []), (.iaload, [1]), (.aload_n 0, []), (.iload_n 3, []), (.iconst 3, []), (.iadd, []), (.iaload, [1]), (.aload_n 0, []), (.iload_n 3, []), (.iconst 4, []), (.iadd, []), (.iaload, [1]), (.aload_n 0, []), (.iload_n 3, []), (.iconst 5, []), (.iadd, []), (.iaload, [1]), (.aload_n 0, []), (.iload_n 3, []), (.bipush 6, []), (.iadd, []), (.iaload, [1]), (.invokevirtual 86, [45, 7, 0, 815]), (.aload_n 2, []), (.aload_n 0, []), (.iload_n 3, []), (.iconst 1, []), (.iadd, []), (.iaload, [1]), (.aload_n 0, []), (.iload_n 3, []), (.iconst 2, []), (.iadd, []), (.iaload, [1]), (.aload_n 0, []), (.iload_n 3, []), (.iconst 3, []), (.iadd, []), (.iaload, [1]), (.aload_n 0, []), (.iload_n 3, []), (.iconst 4, []), (.iadd, []), (.iaload, [1]), (.aload_n 0, []), (.iload_n 3, []), (.iconst 5, []), (.iadd, []), (.iaload, [1]), (.aload_n 0, []), (.iload_n 3, []), (.bipush 6, []), (.iadd, []), (.iaload, [1]), (.invokevirtual 90, [127, 7, 0, 1263]), (.lcmp, []), (.ifCond .eq 605, [46]), (.iconst 0, []), (.ireturn, [1])]))
def b_law_20 : ABlk := (772, ([true, true, true, true], [(.aload_n 1, []), (.aload_n 0, []), (.iload_n 3, []), (.iconst 1, []), (.iadd, []), (.iaload, [1]), (.invokevirtual 91, [10, 2, 0, 538]), (.aload_n 2, []), (.aload_n 0, []), (.iload_n 3, []), (.iconst 1, []), (.iadd, []), (.iaload, [1]), (.invokevirtual 94, [129, 2, 0, 1277]), (.if_icmp .eq 582, [46]), (.iconst 0, []), (.ireturn, [1])]))
def b_law_21 : ABlk := (795, ([true, true, true, true], [(.aload_n 1, []), (.invokevirtual 95, [37, 1, 0, 713]), (.aload_n 2, []), (.invokevirtual 98, [131, 1, 0, 1285]), (.if_icmp .eq 569, [46]), (.iconst 0, []), (.ireturn, [1])]))
def b_law_22 : ABlk := (808, ([true, true, true, true], [(.aload_n 1, []), (.aload_n 0, []), (.iload_n 3, []), (.iconst 1, []), (.iadd, []), (.iaload, [1]), (.invokevirtual 99, [47, 2, 0, 826]), (.aload_n 2, []), (.aload_n 0, []), (.iload_n 3, []), (.iconst 1, []), (.iadd, []), (.iaload, [1]), (.invokevirtual 102, [135, 2, 0, 1293]), (.if_icmp .eq 546, [46]), (.iconst 0, []), (.ireturn, [1])]))
def b_law_23 : ABlk := (831, ([true, true, true, true], [(.aload_n 1, []), (.aload_n 0, []), (.iload_n 3, []), (.iconst 1, []), (.iadd, []), (.iaload, [1]), (.aload_n 0, []), (.iload_n 3, []), (.iconst 2, []), (.iadd, []), (.iaload, [1]), (.invokevirtual 103, [48, 3, 0, 839]), (.aload_n 2, []), (.aload_n 0, []), (.iload_n 3, []), (.iconst 1, []), (.iadd, []), (.iaload, [1]), (.aload_n 0, []), (.iload_n 3, []), (.iconst 2, []), (.iadd, []), (.iaload, [1]), (.invokevirtual 107, [136, 3, 0, 1309]), (.lcmp, []), (.ifCond .eq 512, [46]), (.iconst 0, []), (.ireturn, [1])]))
def b_law_24 : ABlk := (865, ([true, true, true, true], [(.aload_n 1, []), (.aload_n 0, []), (.iload_n 3, []), (.iconst 1, []), (.iadd, []), (.iaload, [1]), (.invokevirtual 108, [21, 2, 0, 616]), (.aload_n 2, []), (.aload_n 0, []), (.iload_n 3, []), (.iconst 1, []), (.iadd, []), (.iaload, [1]), (.invokevirtual 111, [137, 2, 0, 1313]), (.if_icmp .eq 489, [46]), (.iconst 0, []), (.ireturn, [1])]))
def b_law_25 : ABlk := (888, ([true, true, true, true], [(.aload_n 1, []), (.invokevirtual 112, [22, 1, 0, 620]), (.aload_n 2, []), (.invokevirtual 115, [139, 1, 0, 1317]), (.if_icmp .eq 476, [46]), (.iconst 0, []), (.ireturn, [1])]))
def b_law_26 : ABlk := (901, ([true, true, true, true], [(.aload_n 1, []), (.aload_n 0, []), (.iload_n 3, []), (.iconst 1, []), (.iadd, []), (.iaload, [1]), (.invokevirtual 116, [24, 2, 0, 628]), (.aload_n 2, []), (.aload_n 0, []), (.iload_n 3, []), (.iconst 1, []), (.iadd, []), (.iaload, [1]), (.invokevirtual 119, [140, 2, 0, 1325]), (.if_icmp .eq 453, [46]), (.iconst 0, []), (.ireturn, [1])]))
def b_law_27 : ABlk := (924, ([true, true, true, true], [(.aload_n 1, []), (.aload_n 0, []), (.iload_n 3, []), (.iconst 1, []), (.iadd, []), (.iaload, [1]), (.invokevirtual 120, [51, 2, 0, 843]), (.aload_n 2, []), (.aload_n 0, []), (.iload_n 3, []), (.iconst 1, []), (.iadd, []), (.iaload, [1]), (.invokevirtual 123, [166, 2, 0, 1428]), (.if_icmp .eq 430, [46]), (.iconst 0, []), (.ireturn, [1])]))
def b_law_28 : ABlk := (947, ([true, true, true, true], [(.aload_n 1, []), (.invokevirtual 124, [28, 1, 0, 645]), (.aload_n 2, []), (.invokevirtual 127, [167, 1, 0, 1432]), (.if_icmp .eq 417, [46]), (.iconst 0, []), (.ireturn, [1])]))
def b_law_29 : ABlk := (960, ([true, true, true, true], [(.aload_n 1, []), (.invokevirtual 128, [52, 1, 0, 847]), (.aload_n 2, []), (.invokevirtual 131, [168, 1, 0, 1436]), (.if_icmp .eq 404, [46]), (.iconst 0, []), (.ireturn, [1])]))
def b_law_30 : ABlk := (973, ([true, true, true, true], [(.aload_n 1, []), (.aload_n 0, []), (.iload_n 3, []), (.iconst 1, []), (.iadd, []), (.iaload, [1]), (.aload_n 0, []), (.iload_n 3, []), (.iconst 2, []), (.iadd, []), (.iaload, [1]), (.aload_n 0, []), (.iload_n 3, []), (.iconst 3, []), (.iadd, []), (.iaload, [1]), (.aload_n 0, []), (.iload_n 3, []), (.iconst 4, []), (.iadd, []), (.iaload, [1]), (.invokevirtual 132, [25, 5, 0, 632]), (.aload_n 2, []), (.aload_n 0, []), (.iload_n 3, []), (.iconst 1, []), (.iadd, []), (.iaload, [1]), (.aload_n 0, []), (.iload_n 3, []), (.iconst 2, []), (.iadd, []), (.iaload, [1]), (.aload_n 0, []), (.iload_n 3, []), (.iconst 3, []), (.iadd, []), (.iaload, [1]), (.aload_n 0, []), (.iload_n 3, []), (.iconst 4, []), (.iadd, []), (.iaload, [1]), (.invokevirtual 136, [170, 5, 0, 1440]), (.if_icmp .eq 351, [46]), (.iconst 0, []), (.ireturn, [1])]))
def b_law_31 : ABlk := (1026, ([true, true, true, true], [(.aload_n 1, []), (.invokevirtual 137, [18, 1, 0, 590]), (.aload_n 2, []), (.invokevirtual 140, [107, 1, 0, 1184]), (.if_icmp .eq 338, [46]), (.iconst 0, []), (.ireturn, [1])]))
def b_law_32 : ABlk := (1039, ([true, true, true, true], [(.aload_n 1, []), (.invokevirtual 141, [8, 1, 0, 530]), (.aload_n 2, []), (.invokevirtual 144, [141, 1, 0, 1329]), (.if_icmp .eq 325, [46]), (.iconst 0, []), (.ireturn, [1])]))
def b_law_33 : ABlk := (1052, ([true, true, true, true], [(.aload_n 1, []), (.aload_n 0, []), (.iload_n 3, []), (.iconst 1, []), (.iadd, []), (.iaload, [1]), (.aload_n 0, []), (.iload_n 3, []), (.iconst 2, []), (.iadd, []), (.iaload, [1]), (.invokevirtual 145, [9, 3, 0, 534]), (.aload_n 2, []), (.aload_n 0, []), (.iload_n 3, []), (.iconst 1, []), (.iadd, []), (.iaload, [1]), (.aload_n 0, []), (.iload_n 3, []), (.iconst 2, []), (.iadd, []), (.iaload, [1]), (.invokevirtual 148, [142, 3, 0, 1333]), (.if_icmp .eq 292, [46]), (.iconst 0, []), (.ireturn, [1])]))
def b_law_34 : ABlk := (1085, ([true, true, true, true], [(.aload_n 1, []), (.aload_n 0, []), (.iload_n 3, []), (.iconst 1, []), (.iadd, []), (.iaload, [1]), (.invokevirtual 149, [11, 2, 0, 546]), (.aload_n 2, []), (.aload_n 0, []), (.iload_n 3, []), (.iconst 1, []), (.iadd, []), (.iaload, [1]), (.invokevirtual 152, [144, 2, 0, 1337]), (.if_icmp .eq 269, [46]), (.iconst 0, []), (.ireturn, [1])]))
def b_law_35 : ABlk := (1108, ([true, true, true, true], [(.aload_n 1, []), (.invokevirtual 153, [38, 1, 0, 721]), (.aload_n 2, []), (.invokevirtual 156, [146, 1, 0, 1345]), (.if_icmp .eq 256, [46]), (.iconst 0, []), (.ireturn, [1])]))
def b_law_36 : ABlk := (1121, ([true, true, true, true], [(.aload_n 1, []), (.aload_n 0, []), (.iload_n 3, []), (.iconst 1, []), (.iadd, []), (.iaload, [1]), (.aload_n 0, []), (.iload_n 3, []), (.iconst 2, []), (.iadd, []), (.iaload, [1]), (.aload_n 0, []), (.iload_n 3, []), (.iconst 3, []), (.iadd, []), (.iaload, [1]), (.aload_n 0, []), (.iload_n 3, []), (.iconst 4, []), (.iadd, []), (.iaload, [1]), (.invokevirtual 157, [46, 5, 0, 822]), (.aload_n 2, []), (.aload_n 0, []), (.iload_n 3, []), (.iconst 1, []), (.iadd, []), (.iaload, [1]), (.aload_n 0, []), (.iload_n 3, []), (.iconst 2, []), (.iadd, []), (.iaload, [1]), (.aload_n 0, []), (.iload_n 3, []), (.iconst 3, []), (.iadd, []), (.iaload, [1]), (.aload_n 0, []), (.iload_n 3, []), (.iconst 4, []), (.iadd, []), (.iaload, [1]), (.invokevirtual 161, [147, 5, 0, 1354]), (.lcmp, []), (.ifCond .eq 202, [46]), (.iconst 0, []), (.ireturn, [1])]))
def b_law_37 : ABlk := (1175, ([true, true, true, true], [(.aload_n 1, []), (.aload_n 0, []), (.iload_n 3, []), (.iconst 1, []), (.iadd, []), (.iaload, [1]), (.invokevirtual 162, [30, 2, 0, 653]), (.aload_n 2, []), (.aload_n 0, []), (.iload_n 3, []), (.iconst 1, []), (.iadd, []), (.iaload, [1]), (.invokevirtual 165, [149, 2, 0, 1358]), (.if_icmp .eq 179, [46]), (.iconst 0, []), (.ireturn, [1])]))
def b_law_38 : ABlk := (1198, ([true, true, true, true], [(.aload_n 1, []), (.aload_n 0, []), (.iload_n 3, []), (.iconst 1, []), (.iadd, []), (.iaload, [1]), (.invokevirtual 166, [31, 2, 0, 658]), (.aload_n 2, []), (.aload_n 0, []), (.iload_n 3, []), (.iconst 1, []), (.iadd, []), (.iaload, [1]), (.invokevirtual 169, [152, 2, 0, 1366]), (.if_icmp .eq 156, [46]), (.iconst 0, []), (.ireturn, [1])]))
def b_law_39 : ABlk := (1221, ([true, true, true, true], [(.aload_n 1, []), (.aload_n 0, []), (.iload_n 3, []), (.iconst 1, []), (.iadd, []), (.iaload, [1]), (.invokevirtual 170, [42, 2, 0, 800]), (.aload_n 2, []), (.aload_n 0, []), (.iload_n 3, []), (.iconst 1, []), (.iadd, []), (.iaload, [1]), (.invokevirtual 173, [157, 2, 0, 1378]), (.if_icmp .eq 133, [46]), (.iconst 0, []), (.ireturn, [1])]))
def b_law_40 : ABlk := (1244, ([true, true, true, true], [(.aload_n 1, []), (.aload_n 0, []), (.iload_n 3, []), (.iconst 1, []), (.iadd, []), (.iaload, [1]), (.aload_n 0, []), (.iload_n 3, []), (.iconst 2, []), (.iadd, []), (.iaload, [1]), (.invokevirtual 174, [43, 3, 0, 804]), (.aload_n 2, []), (.aload_n 0, []), (.iload_n 3, []), (.iconst 1, []), (.iadd, []), (.iaload, [1]), (.aload_n 0, []), (.iload_n 3, []), (.iconst 2, []), (.iadd, []), (.iaload, [1]), (.invokevirtual 177, [158, 3, 0, 1382]), (.if_icmp .eq 100, [46]), (.iconst 0, []), (.ireturn, [1])]))
def b_law_41 : ABlk := (1277, ([true, true, true, true], [(.aload_n 1, []), (.aload_n 0, []), (.iload_n 3, []), (.iconst 1, []), (.iadd, []), (.iaload, [1]), (.invokevirtual 178, [44, 2, 0, 808]), (.aload_n 2, []), (.aload_n 0, []), (.iload_n 3, []), (.iconst 1, []), (.iadd, []), (.iaload, [1]), (.invokevirtual 181, [159, 2, 0, 1386]), (.if_icmp .eq 77, [46]), (.iconst 0, []), (.ireturn, [1])]))
def b_law_42 : ABlk := (1300, ([true, true, true, true], [(.aload_n 1, []), (.aload_n 0, []), (.iload_n 3, []), (.iconst 1, []), (.iadd, []), (.iaload, [1]), (.invokevirtual 182, [41, 2, 0, 776]), (.aload_n 2, []), (.aload_n 0, []), (.iload_n 3, []), (.iconst 1, []), (.iadd, []), (.iaload, [1]), (.invokevirtual 185, [165, 2, 0, 1406]), (.if_icmp .eq 54, [46]), (.iconst 0, []), (.ireturn, [1])]))
def b_law_43 : ABlk := (1323, ([true, true, true, true], [(.aload_n 1, []), (.invokevirtual 186, [53, 1, 0, 851]), (.aload_n 2, []), (.invokevirtual 189, [82, 1, 0, 1011]), (.if_icmp .eq 41, [46]), (.iconst 0, []), (.ireturn, [1])]))
def b_law_44 : ABlk := (1336, ([true, true, true, true], [(.aload_n 1, []), (.invokevirtual 190, [54, 1, 0, 855]), (.aload_n 2, []), (.invokevirtual 193, [83, 1, 0, 1023]), (.if_icmp .eq 28, [46]), (.iconst 0, []), (.ireturn, [1])]))
def b_law_45 : ABlk := (1349, ([true, true, true, true], [(.aload_n 1, []), (.aload_n 0, []), (.iload_n 3, []), (.iconst 1, []), (.iadd, []), (.iaload, [1]), (.invokevirtual 194, [55, 2, 0, 859]), (.aload_n 2, []), (.aload_n 0, []), (.iload_n 3, []), (.iconst 1, []), (.iadd, []), (.iaload, [1]), (.invokevirtual 197, [171, 2, 0, 1451]), (.if_icmp .eq 5, [46]), (.iconst 0, []), (.ireturn, [1])]))
def b_law_46 : ABlk := (1372, ([true, true, true, true], [(.iinc 3 7, []), (.goto (-1357), [1])]))
def b_law_47 : ABlk := (1378, ([false, false, false, false], [(.iconst 1, []), (.ireturn, [1])]))
def k_law : List ABlk := [b_law_0, b_law_1, b_law_2, b_law_3, b_law_4, b_law_5, b_law_6, b_law_7, b_law_8, b_law_9, b_law_10, b_law_11, b_law_12, b_law_13, b_law_14, b_law_15, b_law_16, b_law_17, b_law_18, b_law_19, b_law_20, b_law_21, b_law_22, b_law_23, b_law_24, b_law_25, b_law_26, b_law_27, b_law_28, b_law_29, b_law_30, b_law_31, b_law_32, b_law_33, b_law_34, b_law_35, b_law_36, b_law_37, b_law_38, b_law_39, b_law_40, b_law_41, b_law_42, b_law_43, b_law_44, b_law_45, b_law_46, b_law_47]
end
section
/-! ===== the transformers are monotone; unfolding rules ===== -/
def TMono (T : AT) : Prop := ∀ (id : Nat) (as : List AV) (h : AH) (K K' : AK), (∀ r h, K r h → K' r h) → T id as h K → T id as h K'
theorem swA_mono {z : Int} {J J' : Nat → Prop} (hJ : ∀ t, J t → J' t) : ∀ (ts : List Nat) (lo : Int), swA z J lo ts → swA z J' lo ts
  | [], _, h => h
  | t :: ts, lo, h => ⟨fun q => hJ t (h.1 q), swA_mono hJ ts (lo + 1) h.2⟩
theorem lkA_mono {z : Int} {J J' : Nat → Prop} {d : Nat} (hJ : ∀ t, J t → J' t) : ∀ (ps : List (Int × Int)) (ts : List Nat), lkA z J d ps ts → lkA z J' d ps ts
  | [], [], h => hJ d h
  | [], _ :: _, h => hJ d h
  | (a, o) :: ps, [], h => h.elim
  | (a, o) :: ps, t :: ts, h => ⟨fun q => hJ t (h.1 q), fun q => lkA_mono hJ ps ts (h.2 q)⟩
theorem ldA_mono {kd : Nat} {L : LL} {i : Nat} {k k' : AV → Prop} (hk : ∀ v, k v → k' v) (h : ldA kd L i k) : ldA kd L i k' := by
  unfold ldA at h ⊢
  split at h
  · exact hk _ h
  · exact hk _ h
  · exact hk _ h
  · exact h.elim
theorem exS_mono {sc : Int → Int} {sl : Int} {T : AT} {J J' : AJ} {K K' : AK} {i : Instr} {x : List Nat} {L : LL} {st : List AV} {h : AH} {k k' : LL → List AV → AH → Prop} (hT : TMono T) (hJ : ∀ t L st h, J t L st h → J' t L st h) (hK : ∀ r h, K r h → K' r h) (hk : ∀ L st h, k L st h → k' L st h) (he : exS sc sl T J K i x L st h k) : exS sc sl T J' K' i x L st h k' := by
  cases i with
  | iload_n n => dsimp only [exS] at he ⊢; exact ldA_mono (fun v hv => hk _ _ _ hv) he
  | iload n => dsimp only [exS] at he ⊢; exact ldA_mono (fun v hv => hk _ _ _ hv) he
  | lload_n n => dsimp only [exS] at he ⊢; exact ldA_mono (fun v hv => hk _ _ _ hv) he
  | lload n => dsimp only [exS] at he ⊢; exact ldA_mono (fun v hv => hk _ _ _ hv) he
  | aload_n n => dsimp only [exS] at he ⊢; exact ldA_mono (fun v hv => hk _ _ _ hv) he
  | aload n => dsimp only [exS] at he ⊢; exact ldA_mono (fun v hv => hk _ _ _ hv) he
  | iinc n c =>
    dsimp only [exS] at he ⊢
    refine ldA_mono (fun v hv => ?_) he
    split at hv
    · exact ⟨hv.1, hk _ _ _ hv.2⟩
    · exact hv.elim
  | tableswitch df lo hi offs =>
    dsimp only [exS] at he ⊢
    split at he
    · exact ⟨fun q => hJ _ _ _ _ (he.1 q), swA_mono (fun t => hJ _ _ _ _) _ _ he.2⟩
    · exact he.elim
  | lookupswitch df ps =>
    dsimp only [exS] at he ⊢
    split at he
    · exact lkA_mono (fun t => hJ _ _ _ _) _ _ he
    · exact he.elim
  | invokestatic idx =>
    dsimp only [exS] at he ⊢
    split at he
    · exact ⟨he.1, hk _ _ _ he.2⟩
    · exact ⟨he.1, hk _ _ _ he.2⟩
    · obtain ⟨e1, e2, e3, e4, e5, e6, e7, e8, he⟩ := he
      exact ⟨e1, e2, e3, e4, e5, e6, e7, e8, hk _ _ _ he⟩
    · next id n w tl =>
      split at he
      · exact ⟨he.1, hT _ _ _ _ _ (fun r h q => hk _ _ _ q) he.2⟩
      · exact he.elim
    · exact he.elim
  | invokevirtual idx =>
    dsimp only [exS] at he ⊢
    split at he
    · split at he
      · exact ⟨he.1, hT _ _ _ _ _ (fun r h q => hk _ _ _ q) he.2⟩
      · exact he.elim
    · exact he.elim
  | if_icmp c off =>
    dsimp only [exS] at he ⊢
    split at he
    · exact ⟨fun q => hJ _ _ _ _ (he.1 q), fun q => hk _ _ _ (he.2 q)⟩
    · exact he.elim
  | ifCond c off =>
    dsimp only [exS] at he ⊢
    split at he
    · exact ⟨fun q => hJ _ _ _ _ (he.1 q), fun q => hk _ _ _ (he.2 q)⟩
    · exact he.elim
  | getfield idx =>
    dsimp only [exS] at he ⊢
    split at he
    · exact ⟨he.1, hk _ _ _ he.2⟩
    · exact ⟨he.1, hk _ _ _ he.2⟩
    · obtain ⟨h1, b, h2, h3⟩ := he
      exact ⟨h1, b, h2, hk _ _ _ h3⟩
    · exact ⟨he.1, hk _ _ _ he.2⟩
    · exact he.elim
  | iconst n => exact hk _ _ _ he
  | bipush n => exact hk _ _ _ he
  | sipush n => exact hk _ _ _ he
  | lconst n => exact hk _ _ _ he
  | iaload =>
    dsimp only [exS] at he ⊢
    split at he
    · exact ⟨he.1, he.2.1, he.2.2.1, hk _ _ _ he.2.2.2⟩
    · exact ⟨he.1, he.2.1, he.2.2.1, hk _ _ _ he.2.2.2⟩
    · exact he.elim
  | baload =>
    dsimp only [exS] at he ⊢
    split at he
    · exact ⟨he.1, he.2.1, he.2.2.1, hk _ _ _ he.2.2.2⟩
    · exact ⟨he.1, he.2.1, he.2.2.1, hk _ _ _ he.2.2.2⟩
    · exact he.elim
  | arraylength =>
    dsimp only [exS] at he ⊢
    split at he
    · exact ⟨he.1, hk _ _ _ he.2⟩
    · exact ⟨he.1, hk _ _ _ he.2⟩
    · exact he.elim
  | ireturn =>
    dsimp only [exS] at he ⊢
    split at he
    · exact hK _ _ he
    · exact ⟨he.1, hK _ _ he.2⟩
    · exact ⟨he.1, hK _ _ he.2⟩
    · exact ⟨he.1, hK _ _ he.2⟩
    · exact he.elim
  | _ =>
    first
    | exact he.elim
    | (dsimp only [exS] at he ⊢
       split at he
       all_goals first
         | exact he.elim
         | exact hk _ _ _ he
         | exact hJ _ _ _ _ he
         | exact hK _ _ he
         | exact ⟨he.1, hk _ _ _ he.2⟩
         | exact ⟨he.1, he.2.1, hk _ _ _ he.2.2⟩
         | exact ⟨he.1, he.2.1, he.2.2.1, hk _ _ _ he.2.2.2⟩
         | exact ⟨he.1, he.2.1, he.2.2.1, he.2.2.2.1, hk _ _ _ he.2.2.2.2⟩
         | (split at he
            all_goals first
              | exact hk _ _ _ he
              | exact ⟨he.1, hk _ _ _ he.2⟩
              | exact ⟨he.1, he.2.1, hk _ _ _ he.2.2⟩))
theorem ex_mono {sc : Int → Int} {sl : Int} {T : AT} {J J' : AJ} {K K' : AK} (hT : TMono T) (hJ : ∀ t L st h, J t L st h → J' t L st h) (hK : ∀ r h, K r h → K' r h) : ∀ (is : List RI) (L : LL) (st : List AV) (h : AH), ex sc sl T J K is L st h → ex sc sl T J' K' is L st h
  | [], _, _, _, he => he
  | r :: is, L, st, h, he => exS_mono hT hJ hK (fun L st h => ex_mono hT hJ hK is L st h) he
theorem Bx_u {sc : Int → Int} {sl : Int} {T : AT} {bs : List ABlk} {K : AK} {b : Nat} {L : LL} {st : List AV} {h : AH} {q : ABlk} (hT : TMono T) (hb : bs[b]? = some q) (he : ex sc sl T (Bx sc sl T bs K) K q.2.2 (maskL q.2.1 L) st h) : Bx sc sl T bs K b L st h := by
  intro P hP
  exact hP b q L st h hb (ex_mono hT (fun t L st h hB => hB P hP) (fun _ _ q => q) q.2.2 _ st h he)
theorem Bx_mono {sc : Int → Int} {sl : Int} {T : AT} {bs : List ABlk} {K K' : AK} {b : Nat} {L : LL} {st : List AV} {h : AH} (hT : TMono T) (hK : ∀ r h, K r h → K' r h) (he : Bx sc sl T bs K b L st h) : Bx sc sl T bs K' b L st h := by
  intro P hP
  exact he P (fun b q L st h hb he => hP b q L st h hb (ex_mono hT (fun _ _ _ _ q => q) hK q.2.2 _ st h he))
theorem tx_mono (mt : List MDat) : ∀ d, TMono (tx mt d) := by
  intro d
  induction d with
  | zero => intro id as h K K' _ ht; exact ht.elim
  | succ d ih =>
    intro id as h K K' hK ht
    unfold tx at ht ⊢
    split at ht
    · exact ht.elim
    · exact ⟨ht.1, ht.2.1, Bx_mono ih hK ht.2.2⟩
theorem tx_u {mt : List MDat} {d id : Nat} {as : List AV} {h : AH} {K : AK} {q : MDat} (hq : mt[id]? = some q) (h1 : mdS q = true ∨ rcv (mdC q) as) (h2 : (entL as).length ≤ mdL q) (h3 : Bx z0 0 (tx mt d) (mdK q) K 0 (entL as) [] h) : tx mt (d + 1) id as h K := by
  unfold tx
  rw [hq]
  exact ⟨h1, h2, h3⟩
end
section
/-! ===== what the printed block lemmas are made of ===== -/
def cI (T : AT) (id : Nat) (as : List AV) (h : AH) (k : Int → AH → Prop) : Prop := T id as h (fun r h' => ∃ z, r = some (.inl z) ∧ k z h')
def cL (T : AT) (id : Nat) (as : List AV) (h : AH) (k : Int → AH → Prop) : Prop := T id as h (fun r h' => ∃ z, r = some (.inr (.inl z)) ∧ k z h')
def cV (T : AT) (id : Nat) (as : List AV) (h : AH) (k : AH → Prop) : Prop := T id as h (fun r h' => r = none ∧ k h')
def cR (T : AT) (id : Nat) (as : List AV) (h : AH) (k : Nat → AH → Prop) : Prop := T id as h (fun r h' => ∃ a, r = some (.inr (.inr (some a))) ∧ k a h')
/-- the three boards -/
def isB (k : Nat) : Prop := k = 1 ∨ k = 9 ∨ k = 17
theorem shB0 {k : Nat} (h : isB k) : (shA k).1 = 0 := by rcases h with rfl | rfl | rfl <;> rfl
theorem shB {k : Nat} (h : isB k) (j : Nat) (h1 : 1 ≤ j) (h2 : j ≤ 7) : shA (k + j) = (10, 4) := by
  have : ∀ j : Fin 8, 1 ≤ j.val → shA (1 + j.val) = (10, 4) ∧ shA (9 + j.val) = (10, 4) ∧ shA (17 + j.val) = (10, 4) := by decide +kernel
  obtain ⟨a, b, c⟩ := this ⟨j, by omega⟩ h1
  rcases h with rfl | rfl | rfl
  · exact a
  · exact b
  · exact c
theorem shF {k c n : Nat} (e : shA k = (c, n)) : (shA k).1 = c := by rw [e]
theorem shlt {k c n : Nat} {i m : Int} (e : shA k = (c, n)) (hn : (n : Int) = m) (h : i < m) : i < ((shA k).2 : Int) := by rw [e]; omega
theorem shle {k c n : Nat} {i m : Int} (e : shA k = (c, n)) (hn : (n : Int) = m) (h : i ≤ m) : i ≤ ((shA k).2 : Int) := by rw [e]; omega
theorem sh_0 : shA 0 = (5, 0) := by decide +kernel
theorem sh_1 : shA 1 = (0, 0) := by decide +kernel
theorem sh_2 : shA 2 = (10, 4) := by decide +kernel
theorem sh_3 : shA 3 = (10, 4) := by decide +kernel
theorem sh_4 : shA 4 = (10, 4) := by decide +kernel
theorem sh_5 : shA 5 = (10, 4) := by decide +kernel
theorem sh_6 : shA 6 = (10, 4) := by decide +kernel
theorem sh_7 : shA 7 = (10, 4) := by decide +kernel
theorem sh_8 : shA 8 = (10, 4) := by decide +kernel
theorem sh_9 : shA 9 = (0, 0) := by decide +kernel
theorem sh_10 : shA 10 = (10, 4) := by decide +kernel
theorem sh_11 : shA 11 = (10, 4) := by decide +kernel
theorem sh_12 : shA 12 = (10, 4) := by decide +kernel
theorem sh_13 : shA 13 = (10, 4) := by decide +kernel
theorem sh_14 : shA 14 = (10, 4) := by decide +kernel
theorem sh_15 : shA 15 = (10, 4) := by decide +kernel
theorem sh_16 : shA 16 = (10, 4) := by decide +kernel
theorem sh_17 : shA 17 = (0, 0) := by decide +kernel
theorem sh_18 : shA 18 = (10, 4) := by decide +kernel
theorem sh_19 : shA 19 = (10, 4) := by decide +kernel
theorem sh_20 : shA 20 = (10, 4) := by decide +kernel
theorem sh_21 : shA 21 = (10, 4) := by decide +kernel
theorem sh_22 : shA 22 = (10, 4) := by decide +kernel
theorem sh_23 : shA 23 = (10, 4) := by decide +kernel
theorem sh_24 : shA 24 = (10, 4) := by decide +kernel
theorem sh_25 : shA 25 = (2, 0) := by decide +kernel
theorem sh_26 : shA 26 = (10, 96) := by decide +kernel
theorem sh_27 : shA 27 = (3, 0) := by decide +kernel
theorem sh_28 : shA 28 = (10, 8) := by decide +kernel
theorem sh_29 : shA 29 = (10, 8) := by decide +kernel
theorem sh_30 : shA 30 = (10, 8) := by decide +kernel
theorem sh_31 : shA 31 = (10, 12) := by decide +kernel
theorem sh_32 : shA 32 = (10, 7) := by decide +kernel
theorem sh_33 : shA 33 = (1, 0) := by decide +kernel
theorem sh_34 : shA 34 = (10, 1708) := by decide +kernel
theorem sh_35 : shA 35 = (4, 0) := by decide +kernel
theorem sh_36 : shA 36 = (11, 61) := by decide +kernel
theorem sh_37 : shA 37 = (10, 397) := by decide +kernel
theorem sh_38 : shA 38 = (6, 0) := by decide +kernel
theorem sh_39 : shA 39 = (10, 4) := by decide +kernel
theorem sh_40 : shA 40 = (10, 4) := by decide +kernel
theorem sh_41 : shA 41 = (10, 4) := by decide +kernel
theorem sh_42 : shA 42 = (10, 4) := by decide +kernel
theorem sh_43 : shA 43 = (10, 4) := by decide +kernel
theorem sh_44 : shA 44 = (10, 4) := by decide +kernel
theorem sh_45 : shA 45 = (10, 7) := by decide +kernel
theorem sh_46 : shA 46 = (10, 35) := by decide +kernel
theorem sh_47 : shA 47 = (10, 35) := by decide +kernel
theorem sh_48 : shA 48 = (10, 96) := by decide +kernel
theorem sh_49 : shA 49 = (10, 49) := by decide +kernel
theorem sh_50 : shA 50 = (10, 49) := by decide +kernel
theorem sh_51 : shA 51 = (10, 196) := by decide +kernel
theorem sh_52 : shA 52 = (10, 8) := by decide +kernel
theorem sh_53 : shA 53 = (10, 8) := by decide +kernel
theorem sh_54 : shA 54 = (10, 8) := by decide +kernel
theorem sh_55 : shA 55 = (11, 61) := by decide +kernel
theorem sh_56 : shA 56 = (11, 61) := by decide +kernel
theorem sh_57 : shA 57 = (12, 14884) := by decide +kernel
theorem sh_58 : shA 58 = (10, 21) := by decide +kernel
theorem sh_59 : shA 59 = (10, 397) := by decide +kernel
theorem sh_60 : shA 60 = (10, 397) := by decide +kernel
theorem sh_61 : shA 61 = (10, 4) := by decide +kernel
theorem sh_62 : shA 62 = (12, 28561) := by decide +kernel
theorem sh_63 : shA 63 = (10, 7442) := by decide +kernel
theorem sh_64 : shA 64 = (10, 12) := by decide +kernel
theorem sh_200 : shA 200 = (20, 0) := by decide +kernel
theorem sh_220 : shA 220 = (13, 3) := by decide +kernel
theorem sh_201 : shA 201 = (20, 0) := by decide +kernel
theorem sh_221 : shA 221 = (13, 7) := by decide +kernel
theorem sh_202 : shA 202 = (20, 0) := by decide +kernel
theorem sh_222 : shA 222 = (13, 6) := by decide +kernel
theorem sh_203 : shA 203 = (20, 0) := by decide +kernel
theorem sh_223 : shA 223 = (13, 4) := by decide +kernel
theorem sh_204 : shA 204 = (20, 0) := by decide +kernel
theorem sh_224 : shA 224 = (13, 1) := by decide +kernel
theorem sh_205 : shA 205 = (20, 0) := by decide +kernel
theorem sh_225 : shA 225 = (13, 0) := by decide +kernel
end
