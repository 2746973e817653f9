section
-- ===== PART A: goes FIRST, ahead of the names: the tables' words, and 'selects' of the private methods out of them =====
/-- a private method of a class that the tables say can be made, by its rows of tables_1 -/
def lw_okq (q : MethodName × Nat) : Prop := (q.1.cls ≠ "java/lang/invoke/MethodHandle" ∧ q.1.cls ≠ "java/lang/invoke/VarHandle") ∧ Cond.instantiable q.1.cls q.2 ∈ tables_1 ∧ Cond.privateMethod q.1 ∈ tables_1 ∧ Cond.instanceMethod q.1 ∈ tables_1
theorem lw_p0 : lw_okq (⟨"TinkerTailor", "refuse", "(I)I"⟩, 11) := ⟨⟨by decide +kernel, by decide +kernel⟩, List.mem_of_getElem? (i := 16) (by decide +kernel), List.mem_of_getElem? (i := 199) (by decide +kernel), List.mem_of_getElem? (i := 200) (by decide +kernel)⟩
theorem lw_p1 : lw_okq (⟨"TinkerTailor$Letters", "hasRoom", "()Z"⟩, 2) := ⟨⟨by decide +kernel, by decide +kernel⟩, List.mem_of_getElem? (i := 103) (by decide +kernel), List.mem_of_getElem? (i := 203) (by decide +kernel), List.mem_of_getElem? (i := 204) (by decide +kernel)⟩
theorem lw_p2 : lw_okq (⟨"TinkerTailor$Letters", "add", "(I)V"⟩, 2) := ⟨⟨by decide +kernel, by decide +kernel⟩, List.mem_of_getElem? (i := 103) (by decide +kernel), List.mem_of_getElem? (i := 207) (by decide +kernel), List.mem_of_getElem? (i := 208) (by decide +kernel)⟩
theorem lw_p3 : lw_okq (⟨"TinkerTailor$Letters", "wrongPlace", "()I"⟩, 2) := ⟨⟨by decide +kernel, by decide +kernel⟩, List.mem_of_getElem? (i := 103) (by decide +kernel), List.mem_of_getElem? (i := 215) (by decide +kernel), List.mem_of_getElem? (i := 216) (by decide +kernel)⟩
theorem lw_p4 : lw_okq (⟨"TinkerTailor$Letters", "signAt", "(I)I"⟩, 2) := ⟨⟨by decide +kernel, by decide +kernel⟩, List.mem_of_getElem? (i := 103) (by decide +kernel), List.mem_of_getElem? (i := 219) (by decide +kernel), List.mem_of_getElem? (i := 220) (by decide +kernel)⟩
theorem lw_p5 : lw_okq (⟨"TinkerTailor$Letters", "isDigit", "(I)Z"⟩, 2) := ⟨⟨by decide +kernel, by decide +kernel⟩, List.mem_of_getElem? (i := 103) (by decide +kernel), List.mem_of_getElem? (i := 284) (by decide +kernel), List.mem_of_getElem? (i := 285) (by decide +kernel)⟩
theorem lw_p6 : lw_okq (⟨"TinkerTailor$Board", "copyFrom", "(LTinkerTailor$Board;)V"⟩, 14) := ⟨⟨by decide +kernel, by decide +kernel⟩, List.mem_of_getElem? (i := 24) (by decide +kernel), List.mem_of_getElem? (i := 288) (by decide +kernel), List.mem_of_getElem? (i := 289) (by decide +kernel)⟩
theorem lw_p7 : lw_okq (⟨"TinkerTailor$Letters", "bring", "(LTinkerTailor$Board;I)Z"⟩, 2) := ⟨⟨by decide +kernel, by decide +kernel⟩, List.mem_of_getElem? (i := 103) (by decide +kernel), List.mem_of_getElem? (i := 295) (by decide +kernel), List.mem_of_getElem? (i := 296) (by decide +kernel)⟩
theorem lw_p8 : lw_okq (⟨"TinkerTailor$Letters", "digitsFrom", "(I)I"⟩, 2) := ⟨⟨by decide +kernel, by decide +kernel⟩, List.mem_of_getElem? (i := 103) (by decide +kernel), List.mem_of_getElem? (i := 299) (by decide +kernel), List.mem_of_getElem? (i := 300) (by decide +kernel)⟩
theorem lw_p9 : lw_okq (⟨"TinkerTailor$Letters", "numberAt", "(II)I"⟩, 2) := ⟨⟨by decide +kernel, by decide +kernel⟩, List.mem_of_getElem? (i := 103) (by decide +kernel), List.mem_of_getElem? (i := 303) (by decide +kernel), List.mem_of_getElem? (i := 304) (by decide +kernel)⟩
theorem lw_p10 : lw_okq (⟨"TinkerTailor$Board", "addRhyme", "(I)Z"⟩, 14) := ⟨⟨by decide +kernel, by decide +kernel⟩, List.mem_of_getElem? (i := 24) (by decide +kernel), List.mem_of_getElem? (i := 307) (by decide +kernel), List.mem_of_getElem? (i := 308) (by decide +kernel)⟩
theorem lw_p11 : lw_okq (⟨"TinkerTailor$Board", "addEater", "(IIII)Z"⟩, 14) := ⟨⟨by decide +kernel, by decide +kernel⟩, List.mem_of_getElem? (i := 24) (by decide +kernel), List.mem_of_getElem? (i := 311) (by decide +kernel), List.mem_of_getElem? (i := 312) (by decide +kernel)⟩
theorem lw_p12 : lw_okq (⟨"TinkerTailor$Board", "fillBowl", "(III)Z"⟩, 14) := ⟨⟨by decide +kernel, by decide +kernel⟩, List.mem_of_getElem? (i := 24) (by decide +kernel), List.mem_of_getElem? (i := 315) (by decide +kernel), List.mem_of_getElem? (i := 316) (by decide +kernel)⟩
theorem lw_p13 : lw_okq (⟨"TinkerTailor$Board", "beginWith", "(II)Z"⟩, 14) := ⟨⟨by decide +kernel, by decide +kernel⟩, List.mem_of_getElem? (i := 24) (by decide +kernel), List.mem_of_getElem? (i := 319) (by decide +kernel), List.mem_of_getElem? (i := 320) (by decide +kernel)⟩
theorem lw_p14 : lw_okq (⟨"TinkerTailor$Board", "hasWord", "(II)Z"⟩, 14) := ⟨⟨by decide +kernel, by decide +kernel⟩, List.mem_of_getElem? (i := 24) (by decide +kernel), List.mem_of_getElem? (i := 323) (by decide +kernel), List.mem_of_getElem? (i := 324) (by decide +kernel)⟩
theorem lw_p15 : lw_okq (⟨"TinkerTailor$Board", "hasRhyme", "(I)Z"⟩, 14) := ⟨⟨by decide +kernel, by decide +kernel⟩, List.mem_of_getElem? (i := 24) (by decide +kernel), List.mem_of_getElem? (i := 327) (by decide +kernel), List.mem_of_getElem? (i := 328) (by decide +kernel)⟩
def lw_privs_1 : List (MethodName × Nat) := [(⟨"TinkerTailor", "refuse", "(I)I"⟩, 11), (⟨"TinkerTailor$Letters", "hasRoom", "()Z"⟩, 2), (⟨"TinkerTailor$Letters", "add", "(I)V"⟩, 2), (⟨"TinkerTailor$Letters", "wrongPlace", "()I"⟩, 2), (⟨"TinkerTailor$Letters", "signAt", "(I)I"⟩, 2), (⟨"TinkerTailor$Letters", "isDigit", "(I)Z"⟩, 2), (⟨"TinkerTailor$Board", "copyFrom", "(LTinkerTailor$Board;)V"⟩, 14), (⟨"TinkerTailor$Letters", "bring", "(LTinkerTailor$Board;I)Z"⟩, 2), (⟨"TinkerTailor$Letters", "digitsFrom", "(I)I"⟩, 2), (⟨"TinkerTailor$Letters", "numberAt", "(II)I"⟩, 2), (⟨"TinkerTailor$Board", "addRhyme", "(I)Z"⟩, 14), (⟨"TinkerTailor$Board", "addEater", "(IIII)Z"⟩, 14), (⟨"TinkerTailor$Board", "fillBowl", "(III)Z"⟩, 14), (⟨"TinkerTailor$Board", "beginWith", "(II)Z"⟩, 14), (⟨"TinkerTailor$Board", "hasWord", "(II)Z"⟩, 14), (⟨"TinkerTailor$Board", "hasRhyme", "(I)Z"⟩, 14)]
theorem lw_r1 : ∀ q ∈ lw_privs_1, lw_okq q := List.forall_mem_cons.mpr ⟨lw_p0, List.forall_mem_cons.mpr ⟨lw_p1, List.forall_mem_cons.mpr ⟨lw_p2, List.forall_mem_cons.mpr ⟨lw_p3, List.forall_mem_cons.mpr ⟨lw_p4, List.forall_mem_cons.mpr ⟨lw_p5, List.forall_mem_cons.mpr ⟨lw_p6, List.forall_mem_cons.mpr ⟨lw_p7, List.forall_mem_cons.mpr ⟨lw_p8, List.forall_mem_cons.mpr ⟨lw_p9, List.forall_mem_cons.mpr ⟨lw_p10, List.forall_mem_cons.mpr ⟨lw_p11, List.forall_mem_cons.mpr ⟨lw_p12, List.forall_mem_cons.mpr ⟨lw_p13, List.forall_mem_cons.mpr ⟨lw_p14, List.forall_mem_cons.mpr ⟨lw_p15, fun _ h => absurd h List.not_mem_nil⟩⟩⟩⟩⟩⟩⟩⟩⟩⟩⟩⟩⟩⟩⟩⟩
theorem lw_p16 : lw_okq (⟨"TinkerTailor$Board", "takeTurn", "()I"⟩, 14) := ⟨⟨by decide +kernel, by decide +kernel⟩, List.mem_of_getElem? (i := 24) (by decide +kernel), List.mem_of_getElem? (i := 331) (by decide +kernel), List.mem_of_getElem? (i := 332) (by decide +kernel)⟩
theorem lw_p17 : lw_okq (⟨"TinkerTailor$Board", "wanted", "()I"⟩, 14) := ⟨⟨by decide +kernel, by decide +kernel⟩, List.mem_of_getElem? (i := 24) (by decide +kernel), List.mem_of_getElem? (i := 335) (by decide +kernel), List.mem_of_getElem? (i := 336) (by decide +kernel)⟩
theorem lw_p18 : lw_okq (⟨"TinkerTailor$Board", "hasEater", "(I)Z"⟩, 14) := ⟨⟨by decide +kernel, by decide +kernel⟩, List.mem_of_getElem? (i := 24) (by decide +kernel), List.mem_of_getElem? (i := 339) (by decide +kernel), List.mem_of_getElem? (i := 340) (by decide +kernel)⟩
theorem lw_p19 : lw_okq (⟨"TinkerTailor$Board", "leastToPlease", "(II)I"⟩, 14) := ⟨⟨by decide +kernel, by decide +kernel⟩, List.mem_of_getElem? (i := 24) (by decide +kernel), List.mem_of_getElem? (i := 343) (by decide +kernel), List.mem_of_getElem? (i := 344) (by decide +kernel)⟩
theorem lw_p20 : lw_okq (⟨"TinkerTailor$Board", "pleases", "(II)Z"⟩, 14) := ⟨⟨by decide +kernel, by decide +kernel⟩, List.mem_of_getElem? (i := 24) (by decide +kernel), List.mem_of_getElem? (i := 350) (by decide +kernel), List.mem_of_getElem? (i := 351) (by decide +kernel)⟩
theorem lw_p21 : lw_okq (⟨"TinkerTailor$Board", "numberInPlay", "()I"⟩, 14) := ⟨⟨by decide +kernel, by decide +kernel⟩, List.mem_of_getElem? (i := 24) (by decide +kernel), List.mem_of_getElem? (i := 360) (by decide +kernel), List.mem_of_getElem? (i := 361) (by decide +kernel)⟩
theorem lw_p22 : lw_okq (⟨"TinkerTailor$Board", "take", "(I)I"⟩, 14) := ⟨⟨by decide +kernel, by decide +kernel⟩, List.mem_of_getElem? (i := 24) (by decide +kernel), List.mem_of_getElem? (i := 364) (by decide +kernel), List.mem_of_getElem? (i := 365) (by decide +kernel)⟩
theorem lw_p23 : lw_okq (⟨"TinkerTailor$Letters", "endOf", "(I)I"⟩, 2) := ⟨⟨by decide +kernel, by decide +kernel⟩, List.mem_of_getElem? (i := 103) (by decide +kernel), List.mem_of_getElem? (i := 368) (by decide +kernel), List.mem_of_getElem? (i := 369) (by decide +kernel)⟩
theorem lw_p24 : lw_okq (⟨"TinkerTailor$Past", "forget", "()V"⟩, 4) := ⟨⟨by decide +kernel, by decide +kernel⟩, List.mem_of_getElem? (i := 117) (by decide +kernel), List.mem_of_getElem? (i := 373) (by decide +kernel), List.mem_of_getElem? (i := 374) (by decide +kernel)⟩
theorem lw_p25 : lw_okq (⟨"TinkerTailor$Board", "wordTo", "(II)I"⟩, 14) := ⟨⟨by decide +kernel, by decide +kernel⟩, List.mem_of_getElem? (i := 24) (by decide +kernel), List.mem_of_getElem? (i := 392) (by decide +kernel), List.mem_of_getElem? (i := 393) (by decide +kernel)⟩
theorem lw_p26 : lw_okq (⟨"TinkerTailor", "leastSaidByAll", "()I"⟩, 11) := ⟨⟨by decide +kernel, by decide +kernel⟩, List.mem_of_getElem? (i := 16) (by decide +kernel), List.mem_of_getElem? (i := 400) (by decide +kernel), List.mem_of_getElem? (i := 401) (by decide +kernel)⟩
theorem lw_p27 : lw_okq (⟨"TinkerTailor", "cycleOfTold", "()I"⟩, 11) := ⟨⟨by decide +kernel, by decide +kernel⟩, List.mem_of_getElem? (i := 16) (by decide +kernel), List.mem_of_getElem? (i := 410) (by decide +kernel), List.mem_of_getElem? (i := 411) (by decide +kernel)⟩
theorem lw_p28 : lw_okq (⟨"TinkerTailor$Board", "pleasedBy", "(II)I"⟩, 14) := ⟨⟨by decide +kernel, by decide +kernel⟩, List.mem_of_getElem? (i := 24) (by decide +kernel), List.mem_of_getElem? (i := 426) (by decide +kernel), List.mem_of_getElem? (i := 427) (by decide +kernel)⟩
theorem lw_p29 : lw_okq (⟨"TinkerTailor$Board", "isPleased", "(I)Z"⟩, 14) := ⟨⟨by decide +kernel, by decide +kernel⟩, List.mem_of_getElem? (i := 24) (by decide +kernel), List.mem_of_getElem? (i := 439) (by decide +kernel), List.mem_of_getElem? (i := 440) (by decide +kernel)⟩
theorem lw_p30 : lw_okq (⟨"TinkerTailor", "refusalToSet", "(II)I"⟩, 11) := ⟨⟨by decide +kernel, by decide +kernel⟩, List.mem_of_getElem? (i := 16) (by decide +kernel), List.mem_of_getElem? (i := 455) (by decide +kernel), List.mem_of_getElem? (i := 456) (by decide +kernel)⟩
theorem lw_p31 : lw_okq (⟨"TinkerTailor$Past", "remember", "(LTinkerTailor$Board;)V"⟩, 4) := ⟨⟨by decide +kernel, by decide +kernel⟩, List.mem_of_getElem? (i := 117) (by decide +kernel), List.mem_of_getElem? (i := 463) (by decide +kernel), List.mem_of_getElem? (i := 464) (by decide +kernel)⟩
def lw_privs_2 : List (MethodName × Nat) := [(⟨"TinkerTailor$Board", "takeTurn", "()I"⟩, 14), (⟨"TinkerTailor$Board", "wanted", "()I"⟩, 14), (⟨"TinkerTailor$Board", "hasEater", "(I)Z"⟩, 14), (⟨"TinkerTailor$Board", "leastToPlease", "(II)I"⟩, 14), (⟨"TinkerTailor$Board", "pleases", "(II)Z"⟩, 14), (⟨"TinkerTailor$Board", "numberInPlay", "()I"⟩, 14), (⟨"TinkerTailor$Board", "take", "(I)I"⟩, 14), (⟨"TinkerTailor$Letters", "endOf", "(I)I"⟩, 2), (⟨"TinkerTailor$Past", "forget", "()V"⟩, 4), (⟨"TinkerTailor$Board", "wordTo", "(II)I"⟩, 14), (⟨"TinkerTailor", "leastSaidByAll", "()I"⟩, 11), (⟨"TinkerTailor", "cycleOfTold", "()I"⟩, 11), (⟨"TinkerTailor$Board", "pleasedBy", "(II)I"⟩, 14), (⟨"TinkerTailor$Board", "isPleased", "(I)Z"⟩, 14), (⟨"TinkerTailor", "refusalToSet", "(II)I"⟩, 11), (⟨"TinkerTailor$Past", "remember", "(LTinkerTailor$Board;)V"⟩, 4)]
theorem lw_r2 : ∀ q ∈ lw_privs_2, lw_okq q := List.forall_mem_cons.mpr ⟨lw_p16, List.forall_mem_cons.mpr ⟨lw_p17, List.forall_mem_cons.mpr ⟨lw_p18, List.forall_mem_cons.mpr ⟨lw_p19, List.forall_mem_cons.mpr ⟨lw_p20, List.forall_mem_cons.mpr ⟨lw_p21, List.forall_mem_cons.mpr ⟨lw_p22, List.forall_mem_cons.mpr ⟨lw_p23, List.forall_mem_cons.mpr ⟨lw_p24, List.forall_mem_cons.mpr ⟨lw_p25, List.forall_mem_cons.mpr ⟨lw_p26, List.forall_mem_cons.mpr ⟨lw_p27, List.forall_mem_cons.mpr ⟨lw_p28, List.forall_mem_cons.mpr ⟨lw_p29, List.forall_mem_cons.mpr ⟨lw_p30, List.forall_mem_cons.mpr ⟨lw_p31, fun _ h => absurd h List.not_mem_nil⟩⟩⟩⟩⟩⟩⟩⟩⟩⟩⟩⟩⟩⟩⟩⟩
theorem lw_p32 : lw_okq (⟨"TinkerTailor$Past", "dropOldest", "()V"⟩, 4) := ⟨⟨by decide +kernel, by decide +kernel⟩, List.mem_of_getElem? (i := 117) (by decide +kernel), List.mem_of_getElem? (i := 468) (by decide +kernel), List.mem_of_getElem? (i := 469) (by decide +kernel)⟩
theorem lw_p33 : lw_okq (⟨"TinkerTailor$Past", "undo", "(LTinkerTailor$Board;)I"⟩, 4) := ⟨⟨by decide +kernel, by decide +kernel⟩, List.mem_of_getElem? (i := 117) (by decide +kernel), List.mem_of_getElem? (i := 478) (by decide +kernel), List.mem_of_getElem? (i := 479) (by decide +kernel)⟩
theorem lw_p34 : lw_okq (⟨"TinkerTailor$Board", "eatUp", "()I"⟩, 14) := ⟨⟨by decide +kernel, by decide +kernel⟩, List.mem_of_getElem? (i := 24) (by decide +kernel), List.mem_of_getElem? (i := 486) (by decide +kernel), List.mem_of_getElem? (i := 487) (by decide +kernel)⟩
theorem lw_p35 : lw_okq (⟨"TinkerTailor$Board", "pleasedBits", "()I"⟩, 14) := ⟨⟨by decide +kernel, by decide +kernel⟩, List.mem_of_getElem? (i := 24) (by decide +kernel), List.mem_of_getElem? (i := 491) (by decide +kernel), List.mem_of_getElem? (i := 492) (by decide +kernel)⟩
theorem lw_p36 : lw_okq (⟨"TinkerTailor", "bringsTold", "(LTinkerTailor$Board;)Z"⟩, 11) := ⟨⟨by decide +kernel, by decide +kernel⟩, List.mem_of_getElem? (i := 16) (by decide +kernel), List.mem_of_getElem? (i := 508) (by decide +kernel), List.mem_of_getElem? (i := 509) (by decide +kernel)⟩
theorem lw_p37 : lw_okq (⟨"TinkerTailor", "firstNotSo", "()I"⟩, 11) := ⟨⟨by decide +kernel, by decide +kernel⟩, List.mem_of_getElem? (i := 16) (by decide +kernel), List.mem_of_getElem? (i := 533) (by decide +kernel), List.mem_of_getElem? (i := 534) (by decide +kernel)⟩
theorem lw_p38 : lw_okq (⟨"TinkerTailor", "refuseLong", "(I)J"⟩, 11) := ⟨⟨by decide +kernel, by decide +kernel⟩, List.mem_of_getElem? (i := 16) (by decide +kernel), List.mem_of_getElem? (i := 562) (by decide +kernel), List.mem_of_getElem? (i := 563) (by decide +kernel)⟩
theorem lw_p39 : lw_okq (⟨"TinkerTailor$Shares", "waysToPleaseAll", "(LTinkerTailor$Board;I)J"⟩, 2) := ⟨⟨by decide +kernel, by decide +kernel⟩, List.mem_of_getElem? (i := 147) (by decide +kernel), List.mem_of_getElem? (i := 567) (by decide +kernel), List.mem_of_getElem? (i := 568) (by decide +kernel)⟩
theorem lw_p40 : lw_okq (⟨"TinkerTailor$Shares", "waysWith", "(LTinkerTailor$Board;III)J"⟩, 2) := ⟨⟨by decide +kernel, by decide +kernel⟩, List.mem_of_getElem? (i := 147) (by decide +kernel), List.mem_of_getElem? (i := 571) (by decide +kernel), List.mem_of_getElem? (i := 572) (by decide +kernel)⟩
theorem lw_p41 : lw_okq (⟨"TinkerTailor$Shares", "canPlease", "(LTinkerTailor$Board;I)Z"⟩, 2) := ⟨⟨by decide +kernel, by decide +kernel⟩, List.mem_of_getElem? (i := 147) (by decide +kernel), List.mem_of_getElem? (i := 587) (by decide +kernel), List.mem_of_getElem? (i := 588) (by decide +kernel)⟩
theorem lw_p42 : lw_okq (⟨"TinkerTailor$Shares", "leastNeeded", "(LTinkerTailor$Board;I)I"⟩, 2) := ⟨⟨by decide +kernel, by decide +kernel⟩, List.mem_of_getElem? (i := 147) (by decide +kernel), List.mem_of_getElem? (i := 592) (by decide +kernel), List.mem_of_getElem? (i := 593) (by decide +kernel)⟩
theorem lw_p43 : lw_okq (⟨"TinkerTailor$Board", "pleasedByPush", "(III)I"⟩, 14) := ⟨⟨by decide +kernel, by decide +kernel⟩, List.mem_of_getElem? (i := 24) (by decide +kernel), List.mem_of_getElem? (i := 601) (by decide +kernel), List.mem_of_getElem? (i := 602) (by decide +kernel)⟩
theorem lw_p44 : lw_okq (⟨"TinkerTailor$Shares", "fewestPushes", "(LTinkerTailor$Board;)I"⟩, 2) := ⟨⟨by decide +kernel, by decide +kernel⟩, List.mem_of_getElem? (i := 147) (by decide +kernel), List.mem_of_getElem? (i := 609) (by decide +kernel), List.mem_of_getElem? (i := 610) (by decide +kernel)⟩
theorem lw_p45 : lw_okq (⟨"TinkerTailor$Board", "allStones", "()I"⟩, 14) := ⟨⟨by decide +kernel, by decide +kernel⟩, List.mem_of_getElem? (i := 24) (by decide +kernel), List.mem_of_getElem? (i := 613) (by decide +kernel), List.mem_of_getElem? (i := 614) (by decide +kernel)⟩
theorem lw_p46 : lw_okq (⟨"TinkerTailor$Board", "leastPleasing", "(I)I"⟩, 14) := ⟨⟨by decide +kernel, by decide +kernel⟩, List.mem_of_getElem? (i := 24) (by decide +kernel), List.mem_of_getElem? (i := 618) (by decide +kernel), List.mem_of_getElem? (i := 619) (by decide +kernel)⟩
theorem lw_p47 : lw_okq (⟨"TinkerTailor$Shares", "costWith", "(LTinkerTailor$Board;III)I"⟩, 2) := ⟨⟨by decide +kernel, by decide +kernel⟩, List.mem_of_getElem? (i := 147) (by decide +kernel), List.mem_of_getElem? (i := 622) (by decide +kernel), List.mem_of_getElem? (i := 623) (by decide +kernel)⟩
def lw_privs_3 : List (MethodName × Nat) := [(⟨"TinkerTailor$Past", "dropOldest", "()V"⟩, 4), (⟨"TinkerTailor$Past", "undo", "(LTinkerTailor$Board;)I"⟩, 4), (⟨"TinkerTailor$Board", "eatUp", "()I"⟩, 14), (⟨"TinkerTailor$Board", "pleasedBits", "()I"⟩, 14), (⟨"TinkerTailor", "bringsTold", "(LTinkerTailor$Board;)Z"⟩, 11), (⟨"TinkerTailor", "firstNotSo", "()I"⟩, 11), (⟨"TinkerTailor", "refuseLong", "(I)J"⟩, 11), (⟨"TinkerTailor$Shares", "waysToPleaseAll", "(LTinkerTailor$Board;I)J"⟩, 2), (⟨"TinkerTailor$Shares", "waysWith", "(LTinkerTailor$Board;III)J"⟩, 2), (⟨"TinkerTailor$Shares", "canPlease", "(LTinkerTailor$Board;I)Z"⟩, 2), (⟨"TinkerTailor$Shares", "leastNeeded", "(LTinkerTailor$Board;I)I"⟩, 2), (⟨"TinkerTailor$Board", "pleasedByPush", "(III)I"⟩, 14), (⟨"TinkerTailor$Shares", "fewestPushes", "(LTinkerTailor$Board;)I"⟩, 2), (⟨"TinkerTailor$Board", "allStones", "()I"⟩, 14), (⟨"TinkerTailor$Board", "leastPleasing", "(I)I"⟩, 14), (⟨"TinkerTailor$Shares", "costWith", "(LTinkerTailor$Board;III)I"⟩, 2)]
theorem lw_r3 : ∀ q ∈ lw_privs_3, lw_okq q := List.forall_mem_cons.mpr ⟨lw_p32, List.forall_mem_cons.mpr ⟨lw_p33, List.forall_mem_cons.mpr ⟨lw_p34, List.forall_mem_cons.mpr ⟨lw_p35, List.forall_mem_cons.mpr ⟨lw_p36, List.forall_mem_cons.mpr ⟨lw_p37, List.forall_mem_cons.mpr ⟨lw_p38, List.forall_mem_cons.mpr ⟨lw_p39, List.forall_mem_cons.mpr ⟨lw_p40, List.forall_mem_cons.mpr ⟨lw_p41, List.forall_mem_cons.mpr ⟨lw_p42, List.forall_mem_cons.mpr ⟨lw_p43, List.forall_mem_cons.mpr ⟨lw_p44, List.forall_mem_cons.mpr ⟨lw_p45, List.forall_mem_cons.mpr ⟨lw_p46, List.forall_mem_cons.mpr ⟨lw_p47, fun _ h => absurd h List.not_mem_nil⟩⟩⟩⟩⟩⟩⟩⟩⟩⟩⟩⟩⟩⟩⟩⟩
theorem lw_p48 : lw_okq (⟨"TinkerTailor$Games", "playAgainst", "(LTinkerTailor$Board;I)V"⟩, 1) := ⟨⟨by decide +kernel, by decide +kernel⟩, List.mem_of_getElem? (i := 137) (by decide +kernel), List.mem_of_getElem? (i := 630) (by decide +kernel), List.mem_of_getElem? (i := 631) (by decide +kernel)⟩
theorem lw_p49 : lw_okq (⟨"TinkerTailor$Games", "slot", "(III)I"⟩, 1) := ⟨⟨by decide +kernel, by decide +kernel⟩, List.mem_of_getElem? (i := 137) (by decide +kernel), List.mem_of_getElem? (i := 634) (by decide +kernel), List.mem_of_getElem? (i := 635) (by decide +kernel)⟩
theorem lw_p50 : lw_okq (⟨"TinkerTailor$Games", "sureOutcome", "(LTinkerTailor$Board;IIII)I"⟩, 1) := ⟨⟨by decide +kernel, by decide +kernel⟩, List.mem_of_getElem? (i := 137) (by decide +kernel), List.mem_of_getElem? (i := 638) (by decide +kernel), List.mem_of_getElem? (i := 639) (by decide +kernel)⟩
theorem lw_p51 : lw_okq (⟨"TinkerTailor$Games", "outcomeNow", "(LTinkerTailor$Board;)I"⟩, 1) := ⟨⟨by decide +kernel, by decide +kernel⟩, List.mem_of_getElem? (i := 137) (by decide +kernel), List.mem_of_getElem? (i := 648) (by decide +kernel), List.mem_of_getElem? (i := 649) (by decide +kernel)⟩
theorem lw_p52 : lw_okq (⟨"TinkerTailor$Games", "firstSureNumber", "(LTinkerTailor$Board;I)I"⟩, 1) := ⟨⟨by decide +kernel, by decide +kernel⟩, List.mem_of_getElem? (i := 137) (by decide +kernel), List.mem_of_getElem? (i := 652) (by decide +kernel), List.mem_of_getElem? (i := 653) (by decide +kernel)⟩
theorem lw_p53 : lw_okq (⟨"TinkerTailor$Games", "playDuel", "(LTinkerTailor$Board;)V"⟩, 1) := ⟨⟨by decide +kernel, by decide +kernel⟩, List.mem_of_getElem? (i := 137) (by decide +kernel), List.mem_of_getElem? (i := 664) (by decide +kernel), List.mem_of_getElem? (i := 665) (by decide +kernel)⟩
theorem lw_p54 : lw_okq (⟨"TinkerTailor$Games", "duelOutcome", "(LTinkerTailor$Board;III)I"⟩, 1) := ⟨⟨by decide +kernel, by decide +kernel⟩, List.mem_of_getElem? (i := 137) (by decide +kernel), List.mem_of_getElem? (i := 668) (by decide +kernel), List.mem_of_getElem? (i := 669) (by decide +kernel)⟩
theorem lw_p55 : lw_okq (⟨"TinkerTailor$Games", "duelNumber", "(LTinkerTailor$Board;III)I"⟩, 1) := ⟨⟨by decide +kernel, by decide +kernel⟩, List.mem_of_getElem? (i := 137) (by decide +kernel), List.mem_of_getElem? (i := 672) (by decide +kernel), List.mem_of_getElem? (i := 673) (by decide +kernel)⟩
theorem lw_p56 : lw_okq (⟨"TinkerTailor$Games", "afterNumber", "(IIII)I"⟩, 1) := ⟨⟨by decide +kernel, by decide +kernel⟩, List.mem_of_getElem? (i := 137) (by decide +kernel), List.mem_of_getElem? (i := 676) (by decide +kernel), List.mem_of_getElem? (i := 677) (by decide +kernel)⟩
theorem lw_p57 : lw_okq (⟨"TinkerTailor", "likeliestWord", "(I)I"⟩, 11) := ⟨⟨by decide +kernel, by decide +kernel⟩, List.mem_of_getElem? (i := 16) (by decide +kernel), List.mem_of_getElem? (i := 714) (by decide +kernel), List.mem_of_getElem? (i := 715) (by decide +kernel)⟩
theorem lw_p58 : lw_okq (⟨"TinkerTailor", "weightFor", "(II)I"⟩, 11) := ⟨⟨by decide +kernel, by decide +kernel⟩, List.mem_of_getElem? (i := 16) (by decide +kernel), List.mem_of_getElem? (i := 718) (by decide +kernel), List.mem_of_getElem? (i := 719) (by decide +kernel)⟩
theorem lw_p59 : lw_okq (⟨"TinkerTailor$Board", "allOnPiles", "()I"⟩, 14) := ⟨⟨by decide +kernel, by decide +kernel⟩, List.mem_of_getElem? (i := 24) (by decide +kernel), List.mem_of_getElem? (i := 748) (by decide +kernel), List.mem_of_getElem? (i := 749) (by decide +kernel)⟩
theorem lw_p60 : lw_okq (⟨"TinkerTailorModel", "carryAll", "([IZ)V"⟩, 45) := ⟨⟨by decide +kernel, by decide +kernel⟩, List.mem_of_getElem? (i := 752) (by decide +kernel), List.mem_of_getElem? (i := 899) (by decide +kernel), List.mem_of_getElem? (i := 900) (by decide +kernel)⟩
theorem lw_p61 : lw_okq (⟨"TinkerTailorModel", "carry", "(I)I"⟩, 45) := ⟨⟨by decide +kernel, by decide +kernel⟩, List.mem_of_getElem? (i := 752) (by decide +kernel), List.mem_of_getElem? (i := 903) (by decide +kernel), List.mem_of_getElem? (i := 904) (by decide +kernel)⟩
theorem lw_p62 : lw_okq (⟨"TinkerTailorModel", "refuse", "(I)I"⟩, 45) := ⟨⟨by decide +kernel, by decide +kernel⟩, List.mem_of_getElem? (i := 752) (by decide +kernel), List.mem_of_getElem? (i := 911) (by decide +kernel), List.mem_of_getElem? (i := 912) (by decide +kernel)⟩
theorem lw_p63 : lw_okq (⟨"TinkerTailorModel", "readStatement", "()V"⟩, 45) := ⟨⟨by decide +kernel, by decide +kernel⟩, List.mem_of_getElem? (i := 752) (by decide +kernel), List.mem_of_getElem? (i := 923) (by decide +kernel), List.mem_of_getElem? (i := 924) (by decide +kernel)⟩
def lw_privs_4 : List (MethodName × Nat) := [(⟨"TinkerTailor$Games", "playAgainst", "(LTinkerTailor$Board;I)V"⟩, 1), (⟨"TinkerTailor$Games", "slot", "(III)I"⟩, 1), (⟨"TinkerTailor$Games", "sureOutcome", "(LTinkerTailor$Board;IIII)I"⟩, 1), (⟨"TinkerTailor$Games", "outcomeNow", "(LTinkerTailor$Board;)I"⟩, 1), (⟨"TinkerTailor$Games", "firstSureNumber", "(LTinkerTailor$Board;I)I"⟩, 1), (⟨"TinkerTailor$Games", "playDuel", "(LTinkerTailor$Board;)V"⟩, 1), (⟨"TinkerTailor$Games", "duelOutcome", "(LTinkerTailor$Board;III)I"⟩, 1), (⟨"TinkerTailor$Games", "duelNumber", "(LTinkerTailor$Board;III)I"⟩, 1), (⟨"TinkerTailor$Games", "afterNumber", "(IIII)I"⟩, 1), (⟨"TinkerTailor", "likeliestWord", "(I)I"⟩, 11), (⟨"TinkerTailor", "weightFor", "(II)I"⟩, 11), (⟨"TinkerTailor$Board", "allOnPiles", "()I"⟩, 14), (⟨"TinkerTailorModel", "carryAll", "([IZ)V"⟩, 45), (⟨"TinkerTailorModel", "carry", "(I)I"⟩, 45), (⟨"TinkerTailorModel", "refuse", "(I)I"⟩, 45), (⟨"TinkerTailorModel", "readStatement", "()V"⟩, 45)]
theorem lw_r4 : ∀ q ∈ lw_privs_4, lw_okq q := List.forall_mem_cons.mpr ⟨lw_p48, List.forall_mem_cons.mpr ⟨lw_p49, List.forall_mem_cons.mpr ⟨lw_p50, List.forall_mem_cons.mpr ⟨lw_p51, List.forall_mem_cons.mpr ⟨lw_p52, List.forall_mem_cons.mpr ⟨lw_p53, List.forall_mem_cons.mpr ⟨lw_p54, List.forall_mem_cons.mpr ⟨lw_p55, List.forall_mem_cons.mpr ⟨lw_p56, List.forall_mem_cons.mpr ⟨lw_p57, List.forall_mem_cons.mpr ⟨lw_p58, List.forall_mem_cons.mpr ⟨lw_p59, List.forall_mem_cons.mpr ⟨lw_p60, List.forall_mem_cons.mpr ⟨lw_p61, List.forall_mem_cons.mpr ⟨lw_p62, List.forall_mem_cons.mpr ⟨lw_p63, fun _ h => absurd h List.not_mem_nil⟩⟩⟩⟩⟩⟩⟩⟩⟩⟩⟩⟩⟩⟩⟩⟩
theorem lw_p64 : lw_okq (⟨"TinkerTailorModel", "here", "()I"⟩, 45) := ⟨⟨by decide +kernel, by decide +kernel⟩, List.mem_of_getElem? (i := 752) (by decide +kernel), List.mem_of_getElem? (i := 927) (by decide +kernel), List.mem_of_getElem? (i := 928) (by decide +kernel)⟩
theorem lw_p65 : lw_okq (⟨"TinkerTailorModel", "readOneOrTwo", "()I"⟩, 45) := ⟨⟨by decide +kernel, by decide +kernel⟩, List.mem_of_getElem? (i := 752) (by decide +kernel), List.mem_of_getElem? (i := 931) (by decide +kernel), List.mem_of_getElem? (i := 932) (by decide +kernel)⟩
theorem lw_p66 : lw_okq (⟨"TinkerTailorModel", "readDigit", "()I"⟩, 45) := ⟨⟨by decide +kernel, by decide +kernel⟩, List.mem_of_getElem? (i := 752) (by decide +kernel), List.mem_of_getElem? (i := 935) (by decide +kernel), List.mem_of_getElem? (i := 936) (by decide +kernel)⟩
theorem lw_p67 : lw_okq (⟨"TinkerTailorModel", "readTwo", "()I"⟩, 45) := ⟨⟨by decide +kernel, by decide +kernel⟩, List.mem_of_getElem? (i := 752) (by decide +kernel), List.mem_of_getElem? (i := 944) (by decide +kernel), List.mem_of_getElem? (i := 945) (by decide +kernel)⟩
theorem lw_p68 : lw_okq (⟨"TinkerTailorModel", "take", "(I)V"⟩, 45) := ⟨⟨by decide +kernel, by decide +kernel⟩, List.mem_of_getElem? (i := 752) (by decide +kernel), List.mem_of_getElem? (i := 948) (by decide +kernel), List.mem_of_getElem? (i := 949) (by decide +kernel)⟩
theorem lw_p69 : lw_okq (⟨"TinkerTailorModel", "open", "()V"⟩, 45) := ⟨⟨by decide +kernel, by decide +kernel⟩, List.mem_of_getElem? (i := 752) (by decide +kernel), List.mem_of_getElem? (i := 952) (by decide +kernel), List.mem_of_getElem? (i := 953) (by decide +kernel)⟩
theorem lw_p70 : lw_okq (⟨"TinkerTailorModel", "comes", "(I)Z"⟩, 45) := ⟨⟨by decide +kernel, by decide +kernel⟩, List.mem_of_getElem? (i := 752) (by decide +kernel), List.mem_of_getElem? (i := 956) (by decide +kernel), List.mem_of_getElem? (i := 957) (by decide +kernel)⟩
theorem lw_p71 : lw_okq (⟨"TinkerTailorModel", "rhymeComes", "(I)Z"⟩, 45) := ⟨⟨by decide +kernel, by decide +kernel⟩, List.mem_of_getElem? (i := 752) (by decide +kernel), List.mem_of_getElem? (i := 960) (by decide +kernel), List.mem_of_getElem? (i := 961) (by decide +kernel)⟩
theorem lw_p72 : lw_okq (⟨"TinkerTailorModel", "eaterComes", "(I)Z"⟩, 45) := ⟨⟨by decide +kernel, by decide +kernel⟩, List.mem_of_getElem? (i := 752) (by decide +kernel), List.mem_of_getElem? (i := 966) (by decide +kernel), List.mem_of_getElem? (i := 967) (by decide +kernel)⟩
theorem lw_p73 : lw_okq (⟨"TinkerTailorModel", "bowlComes", "(III)Z"⟩, 45) := ⟨⟨by decide +kernel, by decide +kernel⟩, List.mem_of_getElem? (i := 752) (by decide +kernel), List.mem_of_getElem? (i := 970) (by decide +kernel), List.mem_of_getElem? (i := 971) (by decide +kernel)⟩
theorem lw_p74 : lw_okq (⟨"TinkerTailorModel", "wordComes", "(II)Z"⟩, 45) := ⟨⟨by decide +kernel, by decide +kernel⟩, List.mem_of_getElem? (i := 752) (by decide +kernel), List.mem_of_getElem? (i := 976) (by decide +kernel), List.mem_of_getElem? (i := 977) (by decide +kernel)⟩
theorem lw_p75 : lw_okq (⟨"TinkerTailorModel", "isRhyme", "(I)Z"⟩, 45) := ⟨⟨by decide +kernel, by decide +kernel⟩, List.mem_of_getElem? (i := 752) (by decide +kernel), List.mem_of_getElem? (i := 980) (by decide +kernel), List.mem_of_getElem? (i := 981) (by decide +kernel)⟩
theorem lw_p76 : lw_okq (⟨"TinkerTailorModel", "turnOne", "()I"⟩, 45) := ⟨⟨by decide +kernel, by decide +kernel⟩, List.mem_of_getElem? (i := 752) (by decide +kernel), List.mem_of_getElem? (i := 984) (by decide +kernel), List.mem_of_getElem? (i := 985) (by decide +kernel)⟩
theorem lw_p77 : lw_okq (⟨"TinkerTailorModel", "wants", "(I)I"⟩, 45) := ⟨⟨by decide +kernel, by decide +kernel⟩, List.mem_of_getElem? (i := 752) (by decide +kernel), List.mem_of_getElem? (i := 988) (by decide +kernel), List.mem_of_getElem? (i := 989) (by decide +kernel)⟩
theorem lw_p78 : lw_okq (⟨"TinkerTailorModel", "leastFor", "(II)I"⟩, 45) := ⟨⟨by decide +kernel, by decide +kernel⟩, List.mem_of_getElem? (i := 752) (by decide +kernel), List.mem_of_getElem? (i := 992) (by decide +kernel), List.mem_of_getElem? (i := 993) (by decide +kernel)⟩
theorem lw_p79 : lw_okq (⟨"TinkerTailorModel", "wouldHave", "(II)Z"⟩, 45) := ⟨⟨by decide +kernel, by decide +kernel⟩, List.mem_of_getElem? (i := 752) (by decide +kernel), List.mem_of_getElem? (i := 996) (by decide +kernel), List.mem_of_getElem? (i := 997) (by decide +kernel)⟩
def lw_privs_5 : List (MethodName × Nat) := [(⟨"TinkerTailorModel", "here", "()I"⟩, 45), (⟨"TinkerTailorModel", "readOneOrTwo", "()I"⟩, 45), (⟨"TinkerTailorModel", "readDigit", "()I"⟩, 45), (⟨"TinkerTailorModel", "readTwo", "()I"⟩, 45), (⟨"TinkerTailorModel", "take", "(I)V"⟩, 45), (⟨"TinkerTailorModel", "open", "()V"⟩, 45), (⟨"TinkerTailorModel", "comes", "(I)Z"⟩, 45), (⟨"TinkerTailorModel", "rhymeComes", "(I)Z"⟩, 45), (⟨"TinkerTailorModel", "eaterComes", "(I)Z"⟩, 45), (⟨"TinkerTailorModel", "bowlComes", "(III)Z"⟩, 45), (⟨"TinkerTailorModel", "wordComes", "(II)Z"⟩, 45), (⟨"TinkerTailorModel", "isRhyme", "(I)Z"⟩, 45), (⟨"TinkerTailorModel", "turnOne", "()I"⟩, 45), (⟨"TinkerTailorModel", "wants", "(I)I"⟩, 45), (⟨"TinkerTailorModel", "leastFor", "(II)I"⟩, 45), (⟨"TinkerTailorModel", "wouldHave", "(II)Z"⟩, 45)]
theorem lw_r5 : ∀ q ∈ lw_privs_5, lw_okq q := List.forall_mem_cons.mpr ⟨lw_p64, List.forall_mem_cons.mpr ⟨lw_p65, List.forall_mem_cons.mpr ⟨lw_p66, List.forall_mem_cons.mpr ⟨lw_p67, List.forall_mem_cons.mpr ⟨lw_p68, List.forall_mem_cons.mpr ⟨lw_p69, List.forall_mem_cons.mpr ⟨lw_p70, List.forall_mem_cons.mpr ⟨lw_p71, List.forall_mem_cons.mpr ⟨lw_p72, List.forall_mem_cons.mpr ⟨lw_p73, List.forall_mem_cons.mpr ⟨lw_p74, List.forall_mem_cons.mpr ⟨lw_p75, List.forall_mem_cons.mpr ⟨lw_p76, List.forall_mem_cons.mpr ⟨lw_p77, List.forall_mem_cons.mpr ⟨lw_p78, List.forall_mem_cons.mpr ⟨lw_p79, fun _ h => absurd h List.not_mem_nil⟩⟩⟩⟩⟩⟩⟩⟩⟩⟩⟩⟩⟩⟩⟩⟩
theorem lw_p80 : lw_okq (⟨"TinkerTailorModel", "wordTo", "(I)I"⟩, 45) := ⟨⟨by decide +kernel, by decide +kernel⟩, List.mem_of_getElem? (i := 752) (by decide +kernel), List.mem_of_getElem? (i := 1000) (by decide +kernel), List.mem_of_getElem? (i := 1001) (by decide +kernel)⟩
theorem lw_p81 : lw_okq (⟨"TinkerTailorModel", "saidBy", "(II)I"⟩, 45) := ⟨⟨by decide +kernel, by decide +kernel⟩, List.mem_of_getElem? (i := 752) (by decide +kernel), List.mem_of_getElem? (i := 1004) (by decide +kernel), List.mem_of_getElem? (i := 1005) (by decide +kernel)⟩
theorem lw_p82 : lw_okq (⟨"TinkerTailorModel", "playful", "()I"⟩, 45) := ⟨⟨by decide +kernel, by decide +kernel⟩, List.mem_of_getElem? (i := 752) (by decide +kernel), List.mem_of_getElem? (i := 1008) (by decide +kernel), List.mem_of_getElem? (i := 1009) (by decide +kernel)⟩
theorem lw_p83 : lw_okq (⟨"TinkerTailorModel", "putBack", "()V"⟩, 45) := ⟨⟨by decide +kernel, by decide +kernel⟩, List.mem_of_getElem? (i := 752) (by decide +kernel), List.mem_of_getElem? (i := 1012) (by decide +kernel), List.mem_of_getElem? (i := 1013) (by decide +kernel)⟩
theorem lw_p84 : lw_okq (⟨"TinkerTailorModel", "isEater", "(I)Z"⟩, 45) := ⟨⟨by decide +kernel, by decide +kernel⟩, List.mem_of_getElem? (i := 752) (by decide +kernel), List.mem_of_getElem? (i := 1035) (by decide +kernel), List.mem_of_getElem? (i := 1036) (by decide +kernel)⟩
theorem lw_p85 : lw_okq (⟨"TinkerTailorModel", "has", "(I)Z"⟩, 45) := ⟨⟨by decide +kernel, by decide +kernel⟩, List.mem_of_getElem? (i := 752) (by decide +kernel), List.mem_of_getElem? (i := 1040) (by decide +kernel), List.mem_of_getElem? (i := 1041) (by decide +kernel)⟩
theorem lw_p86 : lw_okq (⟨"TinkerTailorModel", "wrongSetting", "(II)I"⟩, 45) := ⟨⟨by decide +kernel, by decide +kernel⟩, List.mem_of_getElem? (i := 752) (by decide +kernel), List.mem_of_getElem? (i := 1056) (by decide +kernel), List.mem_of_getElem? (i := 1057) (by decide +kernel)⟩
theorem lw_p87 : lw_okq (⟨"TinkerTailorModel", "keepTurn", "()V"⟩, 45) := ⟨⟨by decide +kernel, by decide +kernel⟩, List.mem_of_getElem? (i := 752) (by decide +kernel), List.mem_of_getElem? (i := 1064) (by decide +kernel), List.mem_of_getElem? (i := 1065) (by decide +kernel)⟩
theorem lw_p88 : lw_okq (⟨"TinkerTailorModel", "supperNow", "()I"⟩, 45) := ⟨⟨by decide +kernel, by decide +kernel⟩, List.mem_of_getElem? (i := 752) (by decide +kernel), List.mem_of_getElem? (i := 1076) (by decide +kernel), List.mem_of_getElem? (i := 1077) (by decide +kernel)⟩
theorem lw_p89 : lw_okq (⟨"TinkerTailorModel", "haveBits", "()I"⟩, 45) := ⟨⟨by decide +kernel, by decide +kernel⟩, List.mem_of_getElem? (i := 752) (by decide +kernel), List.mem_of_getElem? (i := 1080) (by decide +kernel), List.mem_of_getElem? (i := 1081) (by decide +kernel)⟩
theorem lw_p90 : lw_okq (⟨"TinkerTailorModel", "allSay", "(I)Z"⟩, 45) := ⟨⟨by decide +kernel, by decide +kernel⟩, List.mem_of_getElem? (i := 752) (by decide +kernel), List.mem_of_getElem? (i := 1092) (by decide +kernel), List.mem_of_getElem? (i := 1093) (by decide +kernel)⟩
theorem lw_p91 : lw_okq (⟨"TinkerTailorModel", "wrongShare", "(I)I"⟩, 45) := ⟨⟨by decide +kernel, by decide +kernel⟩, List.mem_of_getElem? (i := 752) (by decide +kernel), List.mem_of_getElem? (i := 1100) (by decide +kernel), List.mem_of_getElem? (i := 1101) (by decide +kernel)⟩
theorem lw_p92 : lw_okq (⟨"TinkerTailorModel", "beginWays", "()V"⟩, 45) := ⟨⟨by decide +kernel, by decide +kernel⟩, List.mem_of_getElem? (i := 752) (by decide +kernel), List.mem_of_getElem? (i := 1105) (by decide +kernel), List.mem_of_getElem? (i := 1106) (by decide +kernel)⟩
theorem lw_p93 : lw_okq (⟨"TinkerTailorModel", "eatsToo", "(IZI)V"⟩, 45) := ⟨⟨by decide +kernel, by decide +kernel⟩, List.mem_of_getElem? (i := 752) (by decide +kernel), List.mem_of_getElem? (i := 1109) (by decide +kernel), List.mem_of_getElem? (i := 1110) (by decide +kernel)⟩
theorem lw_p94 : lw_okq (⟨"TinkerTailorModel", "canAll", "(I)Z"⟩, 45) := ⟨⟨by decide +kernel, by decide +kernel⟩, List.mem_of_getElem? (i := 752) (by decide +kernel), List.mem_of_getElem? (i := 1120) (by decide +kernel), List.mem_of_getElem? (i := 1121) (by decide +kernel)⟩
theorem lw_p95 : lw_okq (⟨"TinkerTailorModel", "laySure", "(I)V"⟩, 45) := ⟨⟨by decide +kernel, by decide +kernel⟩, List.mem_of_getElem? (i := 752) (by decide +kernel), List.mem_of_getElem? (i := 1128) (by decide +kernel), List.mem_of_getElem? (i := 1129) (by decide +kernel)⟩
def lw_privs_6 : List (MethodName × Nat) := [(⟨"TinkerTailorModel", "wordTo", "(I)I"⟩, 45), (⟨"TinkerTailorModel", "saidBy", "(II)I"⟩, 45), (⟨"TinkerTailorModel", "playful", "()I"⟩, 45), (⟨"TinkerTailorModel", "putBack", "()V"⟩, 45), (⟨"TinkerTailorModel", "isEater", "(I)Z"⟩, 45), (⟨"TinkerTailorModel", "has", "(I)Z"⟩, 45), (⟨"TinkerTailorModel", "wrongSetting", "(II)I"⟩, 45), (⟨"TinkerTailorModel", "keepTurn", "()V"⟩, 45), (⟨"TinkerTailorModel", "supperNow", "()I"⟩, 45), (⟨"TinkerTailorModel", "haveBits", "()I"⟩, 45), (⟨"TinkerTailorModel", "allSay", "(I)Z"⟩, 45), (⟨"TinkerTailorModel", "wrongShare", "(I)I"⟩, 45), (⟨"TinkerTailorModel", "beginWays", "()V"⟩, 45), (⟨"TinkerTailorModel", "eatsToo", "(IZI)V"⟩, 45), (⟨"TinkerTailorModel", "canAll", "(I)Z"⟩, 45), (⟨"TinkerTailorModel", "laySure", "(I)V"⟩, 45)]
theorem lw_r6 : ∀ q ∈ lw_privs_6, lw_okq q := List.forall_mem_cons.mpr ⟨lw_p80, List.forall_mem_cons.mpr ⟨lw_p81, List.forall_mem_cons.mpr ⟨lw_p82, List.forall_mem_cons.mpr ⟨lw_p83, List.forall_mem_cons.mpr ⟨lw_p84, List.forall_mem_cons.mpr ⟨lw_p85, List.forall_mem_cons.mpr ⟨lw_p86, List.forall_mem_cons.mpr ⟨lw_p87, List.forall_mem_cons.mpr ⟨lw_p88, List.forall_mem_cons.mpr ⟨lw_p89, List.forall_mem_cons.mpr ⟨lw_p90, List.forall_mem_cons.mpr ⟨lw_p91, List.forall_mem_cons.mpr ⟨lw_p92, List.forall_mem_cons.mpr ⟨lw_p93, List.forall_mem_cons.mpr ⟨lw_p94, List.forall_mem_cons.mpr ⟨lw_p95, fun _ h => absurd h List.not_mem_nil⟩⟩⟩⟩⟩⟩⟩⟩⟩⟩⟩⟩⟩⟩⟩⟩
theorem lw_p96 : lw_okq (⟨"TinkerTailorModel", "isSure", "(IIII)Z"⟩, 45) := ⟨⟨by decide +kernel, by decide +kernel⟩, List.mem_of_getElem? (i := 752) (by decide +kernel), List.mem_of_getElem? (i := 1135) (by decide +kernel), List.mem_of_getElem? (i := 1136) (by decide +kernel)⟩
theorem lw_p97 : lw_okq (⟨"TinkerTailorModel", "sureFirst", "(I)I"⟩, 45) := ⟨⟨by decide +kernel, by decide +kernel⟩, List.mem_of_getElem? (i := 752) (by decide +kernel), List.mem_of_getElem? (i := 1139) (by decide +kernel), List.mem_of_getElem? (i := 1140) (by decide +kernel)⟩
theorem lw_p98 : lw_okq (⟨"TinkerTailorModel", "wrongSpoons", "(IIIIII)I"⟩, 45) := ⟨⟨by decide +kernel, by decide +kernel⟩, List.mem_of_getElem? (i := 752) (by decide +kernel), List.mem_of_getElem? (i := 1151) (by decide +kernel), List.mem_of_getElem? (i := 1152) (by decide +kernel)⟩
theorem lw_p99 : lw_okq (⟨"TinkerTailorModel", "haveBy", "(I)I"⟩, 45) := ⟨⟨by decide +kernel, by decide +kernel⟩, List.mem_of_getElem? (i := 752) (by decide +kernel), List.mem_of_getElem? (i := 1165) (by decide +kernel), List.mem_of_getElem? (i := 1166) (by decide +kernel)⟩
theorem lw_p100 : lw_okq (⟨"TinkerTailorModel", "haveAfter", "(III)I"⟩, 45) := ⟨⟨by decide +kernel, by decide +kernel⟩, List.mem_of_getElem? (i := 752) (by decide +kernel), List.mem_of_getElem? (i := 1173) (by decide +kernel), List.mem_of_getElem? (i := 1174) (by decide +kernel)⟩
theorem lw_p101 : lw_okq (⟨"TinkerTailorModel", "wrongPetals", "(I)I"⟩, 45) := ⟨⟨by decide +kernel, by decide +kernel⟩, List.mem_of_getElem? (i := 752) (by decide +kernel), List.mem_of_getElem? (i := 1181) (by decide +kernel), List.mem_of_getElem? (i := 1182) (by decide +kernel)⟩
theorem lw_p102 : lw_okq (⟨"TinkerTailorModel", "bestWord", "(I)I"⟩, 45) := ⟨⟨by decide +kernel, by decide +kernel⟩, List.mem_of_getElem? (i := 752) (by decide +kernel), List.mem_of_getElem? (i := 1185) (by decide +kernel), List.mem_of_getElem? (i := 1186) (by decide +kernel)⟩
theorem lw_p103 : lw_okq (⟨"TinkerTailorModel", "weightBy", "(II)I"⟩, 45) := ⟨⟨by decide +kernel, by decide +kernel⟩, List.mem_of_getElem? (i := 752) (by decide +kernel), List.mem_of_getElem? (i := 1189) (by decide +kernel), List.mem_of_getElem? (i := 1190) (by decide +kernel)⟩
theorem lw_p104 : lw_okq (⟨"TinkerTailorModel", "areRims", "()Z"⟩, 45) := ⟨⟨by decide +kernel, by decide +kernel⟩, List.mem_of_getElem? (i := 752) (by decide +kernel), List.mem_of_getElem? (i := 1205) (by decide +kernel), List.mem_of_getElem? (i := 1206) (by decide +kernel)⟩
theorem lw_p105 : lw_okq (⟨"TinkerTailorModel", "haveWith", "(II)I"⟩, 45) := ⟨⟨by decide +kernel, by decide +kernel⟩, List.mem_of_getElem? (i := 752) (by decide +kernel), List.mem_of_getElem? (i := 1225) (by decide +kernel), List.mem_of_getElem? (i := 1226) (by decide +kernel)⟩
theorem lw_p106 : lw_okq (⟨"TinkerTailorModel", "givesToo", "(I)V"⟩, 45) := ⟨⟨by decide +kernel, by decide +kernel⟩, List.mem_of_getElem? (i := 752) (by decide +kernel), List.mem_of_getElem? (i := 1234) (by decide +kernel), List.mem_of_getElem? (i := 1235) (by decide +kernel)⟩
theorem lw_p107 : lw_okq (⟨"TinkerTailorModel", "takeSo", "(I)V"⟩, 45) := ⟨⟨by decide +kernel, by decide +kernel⟩, List.mem_of_getElem? (i := 752) (by decide +kernel), List.mem_of_getElem? (i := 1246) (by decide +kernel), List.mem_of_getElem? (i := 1247) (by decide +kernel)⟩
theorem lw_p108 : lw_okq (⟨"TinkerTailorModel", "ownTurns", "(I)I"⟩, 45) := ⟨⟨by decide +kernel, by decide +kernel⟩, List.mem_of_getElem? (i := 752) (by decide +kernel), List.mem_of_getElem? (i := 1254) (by decide +kernel), List.mem_of_getElem? (i := 1255) (by decide +kernel)⟩
theorem lw_p109 : lw_okq (⟨"TinkerTailorModel", "bringsWish", "(III)Z"⟩, 45) := ⟨⟨by decide +kernel, by decide +kernel⟩, List.mem_of_getElem? (i := 752) (by decide +kernel), List.mem_of_getElem? (i := 1258) (by decide +kernel), List.mem_of_getElem? (i := 1259) (by decide +kernel)⟩
theorem lw_p110 : lw_okq (⟨"TinkerTailorModel", "layWins", "(Z)V"⟩, 45) := ⟨⟨by decide +kernel, by decide +kernel⟩, List.mem_of_getElem? (i := 752) (by decide +kernel), List.mem_of_getElem? (i := 1275) (by decide +kernel), List.mem_of_getElem? (i := 1276) (by decide +kernel)⟩
theorem lw_p111 : lw_okq (⟨"TinkerTailorModel", "firstMove", "()I"⟩, 45) := ⟨⟨by decide +kernel, by decide +kernel⟩, List.mem_of_getElem? (i := 752) (by decide +kernel), List.mem_of_getElem? (i := 1282) (by decide +kernel), List.mem_of_getElem? (i := 1283) (by decide +kernel)⟩
def lw_privs_7 : List (MethodName × Nat) := [(⟨"TinkerTailorModel", "isSure", "(IIII)Z"⟩, 45), (⟨"TinkerTailorModel", "sureFirst", "(I)I"⟩, 45), (⟨"TinkerTailorModel", "wrongSpoons", "(IIIIII)I"⟩, 45), (⟨"TinkerTailorModel", "haveBy", "(I)I"⟩, 45), (⟨"TinkerTailorModel", "haveAfter", "(III)I"⟩, 45), (⟨"TinkerTailorModel", "wrongPetals", "(I)I"⟩, 45), (⟨"TinkerTailorModel", "bestWord", "(I)I"⟩, 45), (⟨"TinkerTailorModel", "weightBy", "(II)I"⟩, 45), (⟨"TinkerTailorModel", "areRims", "()Z"⟩, 45), (⟨"TinkerTailorModel", "haveWith", "(II)I"⟩, 45), (⟨"TinkerTailorModel", "givesToo", "(I)V"⟩, 45), (⟨"TinkerTailorModel", "takeSo", "(I)V"⟩, 45), (⟨"TinkerTailorModel", "ownTurns", "(I)I"⟩, 45), (⟨"TinkerTailorModel", "bringsWish", "(III)Z"⟩, 45), (⟨"TinkerTailorModel", "layWins", "(Z)V"⟩, 45), (⟨"TinkerTailorModel", "firstMove", "()I"⟩, 45)]
theorem lw_r7 : ∀ q ∈ lw_privs_7, lw_okq q := List.forall_mem_cons.mpr ⟨lw_p96, List.forall_mem_cons.mpr ⟨lw_p97, List.forall_mem_cons.mpr ⟨lw_p98, List.forall_mem_cons.mpr ⟨lw_p99, List.forall_mem_cons.mpr ⟨lw_p100, List.forall_mem_cons.mpr ⟨lw_p101, List.forall_mem_cons.mpr ⟨lw_p102, List.forall_mem_cons.mpr ⟨lw_p103, List.forall_mem_cons.mpr ⟨lw_p104, List.forall_mem_cons.mpr ⟨lw_p105, List.forall_mem_cons.mpr ⟨lw_p106, List.forall_mem_cons.mpr ⟨lw_p107, List.forall_mem_cons.mpr ⟨lw_p108, List.forall_mem_cons.mpr ⟨lw_p109, List.forall_mem_cons.mpr ⟨lw_p110, List.forall_mem_cons.mpr ⟨lw_p111, fun _ h => absurd h List.not_mem_nil⟩⟩⟩⟩⟩⟩⟩⟩⟩⟩⟩⟩⟩⟩⟩⟩
theorem lw_p112 : lw_okq (⟨"TinkerTailorModel", "pileState", "()I"⟩, 45) := ⟨⟨by decide +kernel, by decide +kernel⟩, List.mem_of_getElem? (i := 752) (by decide +kernel), List.mem_of_getElem? (i := 1286) (by decide +kernel), List.mem_of_getElem? (i := 1287) (by decide +kernel)⟩
theorem lw_p113 : lw_okq (⟨"TinkerTailorModel", "layDuel", "()V"⟩, 45) := ⟨⟨by decide +kernel, by decide +kernel⟩, List.mem_of_getElem? (i := 752) (by decide +kernel), List.mem_of_getElem? (i := 1294) (by decide +kernel), List.mem_of_getElem? (i := 1295) (by decide +kernel)⟩
theorem lw_p114 : lw_okq (⟨"TinkerTailorModel", "bestTake", "(III)I"⟩, 45) := ⟨⟨by decide +kernel, by decide +kernel⟩, List.mem_of_getElem? (i := 752) (by decide +kernel), List.mem_of_getElem? (i := 1301) (by decide +kernel), List.mem_of_getElem? (i := 1302) (by decide +kernel)⟩
theorem lw_p115 : lw_okq (⟨"TinkerTailorModel", "endBy", "(IIII)I"⟩, 45) := ⟨⟨by decide +kernel, by decide +kernel⟩, List.mem_of_getElem? (i := 752) (by decide +kernel), List.mem_of_getElem? (i := 1305) (by decide +kernel), List.mem_of_getElem? (i := 1306) (by decide +kernel)⟩
theorem lw_p116 : lw_okq (⟨"TinkerTailorModel", "draw", "(I)I"⟩, 45) := ⟨⟨by decide +kernel, by decide +kernel⟩, List.mem_of_getElem? (i := 752) (by decide +kernel), List.mem_of_getElem? (i := 1328) (by decide +kernel), List.mem_of_getElem? (i := 1329) (by decide +kernel)⟩
def lw_privs_8 : List (MethodName × Nat) := [(⟨"TinkerTailorModel", "pileState", "()I"⟩, 45), (⟨"TinkerTailorModel", "layDuel", "()V"⟩, 45), (⟨"TinkerTailorModel", "bestTake", "(III)I"⟩, 45), (⟨"TinkerTailorModel", "endBy", "(IIII)I"⟩, 45), (⟨"TinkerTailorModel", "draw", "(I)I"⟩, 45)]
theorem lw_r8 : ∀ q ∈ lw_privs_8, lw_okq q := List.forall_mem_cons.mpr ⟨lw_p112, List.forall_mem_cons.mpr ⟨lw_p113, List.forall_mem_cons.mpr ⟨lw_p114, List.forall_mem_cons.mpr ⟨lw_p115, List.forall_mem_cons.mpr ⟨lw_p116, fun _ h => absurd h List.not_mem_nil⟩⟩⟩⟩⟩
def lw_privs : List (MethodName × Nat) := lw_privs_1 ++ (lw_privs_2 ++ (lw_privs_3 ++ (lw_privs_4 ++ (lw_privs_5 ++ (lw_privs_6 ++ (lw_privs_7 ++ (lw_privs_8)))))))
def lw_tbl : List Cond := k2_sels lw_privs ++ tables_1
theorem lw_privs_ok : ∀ q ∈ lw_privs, lw_okq q := by
  show ∀ q ∈ lw_privs_1 ++ (lw_privs_2 ++ (lw_privs_3 ++ (lw_privs_4 ++ (lw_privs_5 ++ (lw_privs_6 ++ (lw_privs_7 ++ (lw_privs_8))))))), lw_okq q
  exact List.forall_mem_append.mpr ⟨lw_r1, List.forall_mem_append.mpr ⟨lw_r2, List.forall_mem_append.mpr ⟨lw_r3, List.forall_mem_append.mpr ⟨lw_r4, List.forall_mem_append.mpr ⟨lw_r5, List.forall_mem_append.mpr ⟨lw_r6, List.forall_mem_append.mpr ⟨lw_r7, lw_r8⟩⟩⟩⟩⟩⟩⟩
end
section
def RX0 : String := "TinkerTailor$Board"
def TX0 : u_T := fun k => match k with
  | 0 => ("TinkerTailor$Board", "rhymeCount", "I", false)
  | 1 => ("TinkerTailor$Board", "lengths", "[I", true)
  | 2 => ("TinkerTailor$Board", "firsts", "[I", true)
  | 3 => ("TinkerTailor$Board", "eaterCount", "I", false)
  | 4 => ("TinkerTailor$Board", "kinds", "[I", true)
  | 5 => ("TinkerTailor$Board", "figures", "[I", true)
  | 6 => ("TinkerTailor$Board", "wishes", "[I", true)
  | 7 => ("TinkerTailor$Board", "stones", "[I", true)
  | 8 => ("TinkerTailor$Board", "fruits", "I", false)
  | 9 => ("TinkerTailor$Board", "bunch", "I", false)
  | 10 => ("TinkerTailor$Board", "most", "I", false)
  | 11 => ("TinkerTailor$Board", "next", "I", false)
  | 12 => ("TinkerTailor$Board", "pileCount", "I", false)
  | _ => ("TinkerTailor$Board", "piles", "[I", true)
def tyX0 : Nat → FieldType := fun k => match k with
  | 0 => .int
  | 1 => .array .int
  | 2 => .array .int
  | 3 => .int
  | 4 => .array .int
  | 5 => .array .int
  | 6 => .array .int
  | 7 => .array .int
  | 8 => .int
  | 9 => .int
  | 10 => .int
  | 11 => .int
  | 12 => .int
  | _ => .array .int
abbrev wsX00 : List Cond := u_ws RX0 TX0 14
theorem nmX0 : ∀ a, a < 14 → ∀ b, b < 14 → a ≠ b → (TX0 a).2.1 ≠ (TX0 b).2.1 := by decide +kernel
theorem tyX0_ok : ∀ k, k < 14 → parseFieldDescriptor (TX0 k).2.2.1 = some (tyX0 k) := by decide +kernel
abbrev cX0_init : ByteArray := prog_2_method_1_code
def yX0_init : MethodName := ⟨RX0, "<init>", "()V"⟩
abbrev cX0_copyFrom : ByteArray := prog_2_method_2_code
def yX0_copyFrom : MethodName := ⟨RX0, "copyFrom", "(LTinkerTailor$Board;)V"⟩
abbrev cX0_hasRhyme : ByteArray := prog_2_method_3_code
def yX0_hasRhyme : MethodName := ⟨RX0, "hasRhyme", "(I)Z"⟩
abbrev cX0_hasWord : ByteArray := prog_2_method_4_code
def yX0_hasWord : MethodName := ⟨RX0, "hasWord", "(II)Z"⟩
abbrev cX0_hasEater : ByteArray := prog_2_method_5_code
def yX0_hasEater : MethodName := ⟨RX0, "hasEater", "(I)Z"⟩
abbrev cX0_wordTo : ByteArray := prog_2_method_6_code
def yX0_wordTo : MethodName := ⟨RX0, "wordTo", "(II)I"⟩
abbrev cX0_pleases : ByteArray := prog_2_method_7_code
def yX0_pleases : MethodName := ⟨RX0, "pleases", "(II)Z"⟩
abbrev cX0_leastPleasing : ByteArray := prog_2_method_8_code
def yX0_leastPleasing : MethodName := ⟨RX0, "leastPleasing", "(I)I"⟩
abbrev cX0_isPleased : ByteArray := prog_2_method_9_code
def yX0_isPleased : MethodName := ⟨RX0, "isPleased", "(I)Z"⟩
abbrev cX0_pleasedBits : ByteArray := prog_2_method_10_code
def yX0_pleasedBits : MethodName := ⟨RX0, "pleasedBits", "()I"⟩
abbrev cX0_pleasedBy : ByteArray := prog_2_method_11_code
def yX0_pleasedBy : MethodName := ⟨RX0, "pleasedBy", "(II)I"⟩
abbrev cX0_pleasedByPush : ByteArray := prog_2_method_12_code
def yX0_pleasedByPush : MethodName := ⟨RX0, "pleasedByPush", "(III)I"⟩
abbrev cX0_allStones : ByteArray := prog_2_method_13_code
def yX0_allStones : MethodName := ⟨RX0, "allStones", "()I"⟩
abbrev cX0_allOnPiles : ByteArray := prog_2_method_14_code
def yX0_allOnPiles : MethodName := ⟨RX0, "allOnPiles", "()I"⟩
abbrev cX0_addRhyme : ByteArray := prog_2_method_15_code
def yX0_addRhyme : MethodName := ⟨RX0, "addRhyme", "(I)Z"⟩
abbrev cX0_addEater : ByteArray := prog_2_method_16_code
def yX0_addEater : MethodName := ⟨RX0, "addEater", "(IIII)Z"⟩
abbrev cX0_fillBowl : ByteArray := prog_2_method_17_code
def yX0_fillBowl : MethodName := ⟨RX0, "fillBowl", "(III)Z"⟩
abbrev cX0_beginWith : ByteArray := prog_2_method_18_code
def yX0_beginWith : MethodName := ⟨RX0, "beginWith", "(II)Z"⟩
abbrev cX0_takeTurn : ByteArray := prog_2_method_19_code
def yX0_takeTurn : MethodName := ⟨RX0, "takeTurn", "()I"⟩
abbrev cX0_take : ByteArray := prog_2_method_20_code
def yX0_take : MethodName := ⟨RX0, "take", "(I)I"⟩
abbrev cX0_wanted : ByteArray := prog_2_method_21_code
def yX0_wanted : MethodName := ⟨RX0, "wanted", "()I"⟩
abbrev cX0_leastToPlease : ByteArray := prog_2_method_22_code
def yX0_leastToPlease : MethodName := ⟨RX0, "leastToPlease", "(II)I"⟩
abbrev cX0_numberInPlay : ByteArray := prog_2_method_23_code
def yX0_numberInPlay : MethodName := ⟨RX0, "numberInPlay", "()I"⟩
abbrev cX0_eatUp : ByteArray := prog_2_method_24_code
def yX0_eatUp : MethodName := ⟨RX0, "eatUp", "()I"⟩
def RX1 : String := "TinkerTailor$Games"
def TX1 : u_T := fun k => match k with
  | _ => ("TinkerTailor$Games", "outcomes", "[I", true)
def tyX1 : Nat → FieldType := fun k => match k with
  | _ => .array .int
abbrev wsX10 : List Cond := u_ws RX1 TX1 1
theorem nmX1 : ∀ a, a < 1 → ∀ b, b < 1 → a ≠ b → (TX1 a).2.1 ≠ (TX1 b).2.1 := by decide +kernel
theorem tyX1_ok : ∀ k, k < 1 → parseFieldDescriptor (TX1 k).2.2.1 = some (tyX1 k) := by decide +kernel
abbrev cX1_init : ByteArray := prog_3_method_1_code
def yX1_init : MethodName := ⟨RX1, "<init>", "()V"⟩
abbrev cX1_slot : ByteArray := prog_3_method_2_code
def yX1_slot : MethodName := ⟨RX1, "slot", "(III)I"⟩
abbrev cX1_outcomeNow : ByteArray := prog_3_method_3_code
def yX1_outcomeNow : MethodName := ⟨RX1, "outcomeNow", "(LTinkerTailor$Board;)I"⟩
abbrev cX1_behindOne : ByteArray := prog_3_method_4_code
def yX1_behindOne : MethodName := ⟨RX1, "behindOne", "(LTinkerTailor$Board;I)I"⟩
abbrev cX1_playAgainst : ByteArray := prog_3_method_5_code
def yX1_playAgainst : MethodName := ⟨RX1, "playAgainst", "(LTinkerTailor$Board;I)V"⟩
abbrev cX1_sureOutcome : ByteArray := prog_3_method_6_code
def yX1_sureOutcome : MethodName := ⟨RX1, "sureOutcome", "(LTinkerTailor$Board;IIII)I"⟩
abbrev cX1_firstSureNumber : ByteArray := prog_3_method_7_code
def yX1_firstSureNumber : MethodName := ⟨RX1, "firstSureNumber", "(LTinkerTailor$Board;I)I"⟩
abbrev cX1_playDuel : ByteArray := prog_3_method_8_code
def yX1_playDuel : MethodName := ⟨RX1, "playDuel", "(LTinkerTailor$Board;)V"⟩
abbrev cX1_duelOutcome : ByteArray := prog_3_method_9_code
def yX1_duelOutcome : MethodName := ⟨RX1, "duelOutcome", "(LTinkerTailor$Board;III)I"⟩
abbrev cX1_afterNumber : ByteArray := prog_3_method_10_code
def yX1_afterNumber : MethodName := ⟨RX1, "afterNumber", "(IIII)I"⟩
abbrev cX1_duelNumber : ByteArray := prog_3_method_11_code
def yX1_duelNumber : MethodName := ⟨RX1, "duelNumber", "(LTinkerTailor$Board;III)I"⟩
abbrev cX1_worthTo : ByteArray := prog_3_method_12_code
def yX1_worthTo : MethodName := ⟨RX1, "worthTo", "(II)I"⟩
abbrev cX1_moverLoses : ByteArray := prog_3_method_13_code
def yX1_moverLoses : MethodName := ⟨RX1, "moverLoses", "(LTinkerTailor$Board;IIZ)Z"⟩
def RX2 : String := "TinkerTailor$Letters"
def TX2 : u_T := fun k => match k with
  | 0 => ("TinkerTailor$Letters", "signs", "[I", true)
  | _ => ("TinkerTailor$Letters", "size", "I", false)
def tyX2 : Nat → FieldType := fun k => match k with
  | 0 => .array .int
  | _ => .int
abbrev wsX20 : List Cond := u_ws RX2 TX2 2
theorem nmX2 : ∀ a, a < 2 → ∀ b, b < 2 → a ≠ b → (TX2 a).2.1 ≠ (TX2 b).2.1 := by decide +kernel
theorem tyX2_ok : ∀ k, k < 2 → parseFieldDescriptor (TX2 k).2.2.1 = some (tyX2 k) := by decide +kernel
abbrev cX2_init : ByteArray := prog_4_method_1_code
def yX2_init : MethodName := ⟨RX2, "<init>", "()V"⟩
abbrev cX2_hasRoom : ByteArray := prog_4_method_2_code
def yX2_hasRoom : MethodName := ⟨RX2, "hasRoom", "()Z"⟩
abbrev cX2_add : ByteArray := prog_4_method_3_code
def yX2_add : MethodName := ⟨RX2, "add", "(I)V"⟩
abbrev cX2_signAt : ByteArray := prog_4_method_4_code
def yX2_signAt : MethodName := ⟨RX2, "signAt", "(I)I"⟩
abbrev cX2_isDigit : ByteArray := prog_4_method_5_code
def yX2_isDigit : MethodName := ⟨RX2, "isDigit", "(I)Z"⟩
abbrev cX2_formOf : ByteArray := prog_4_method_6_code
def yX2_formOf : MethodName := ⟨RX2, "formOf", "(I)Ljava/lang/String;"⟩
abbrev cX2_wrongPlace : ByteArray := prog_4_method_7_code
def yX2_wrongPlace : MethodName := ⟨RX2, "wrongPlace", "()I"⟩
abbrev cX2_endOf : ByteArray := prog_4_method_8_code
def yX2_endOf : MethodName := ⟨RX2, "endOf", "(I)I"⟩
abbrev cX2_digitsFrom : ByteArray := prog_4_method_9_code
def yX2_digitsFrom : MethodName := ⟨RX2, "digitsFrom", "(I)I"⟩
abbrev cX2_numberAt : ByteArray := prog_4_method_10_code
def yX2_numberAt : MethodName := ⟨RX2, "numberAt", "(II)I"⟩
abbrev cX2_bring : ByteArray := prog_4_method_11_code
def yX2_bring : MethodName := ⟨RX2, "bring", "(LTinkerTailor$Board;I)Z"⟩
def RX3 : String := "TinkerTailor$Past"
def TX3 : u_T := fun k => match k with
  | 0 => ("TinkerTailor$Past", "eaters", "[I", true)
  | 1 => ("TinkerTailor$Past", "fruits", "[I", true)
  | 2 => ("TinkerTailor$Past", "stones", "[I", true)
  | _ => ("TinkerTailor$Past", "size", "I", false)
def tyX3 : Nat → FieldType := fun k => match k with
  | 0 => .array .int
  | 1 => .array .int
  | 2 => .array .int
  | _ => .int
abbrev wsX30 : List Cond := u_ws RX3 TX3 4
theorem nmX3 : ∀ a, a < 4 → ∀ b, b < 4 → a ≠ b → (TX3 a).2.1 ≠ (TX3 b).2.1 := by decide +kernel
theorem tyX3_ok : ∀ k, k < 4 → parseFieldDescriptor (TX3 k).2.2.1 = some (tyX3 k) := by decide +kernel
abbrev cX3_init : ByteArray := prog_5_method_1_code
def yX3_init : MethodName := ⟨RX3, "<init>", "()V"⟩
abbrev cX3_forget : ByteArray := prog_5_method_2_code
def yX3_forget : MethodName := ⟨RX3, "forget", "()V"⟩
abbrev cX3_remember : ByteArray := prog_5_method_3_code
def yX3_remember : MethodName := ⟨RX3, "remember", "(LTinkerTailor$Board;)V"⟩
abbrev cX3_dropOldest : ByteArray := prog_5_method_4_code
def yX3_dropOldest : MethodName := ⟨RX3, "dropOldest", "()V"⟩
abbrev cX3_undo : ByteArray := prog_5_method_5_code
def yX3_undo : MethodName := ⟨RX3, "undo", "(LTinkerTailor$Board;)I"⟩
def RX4 : String := "TinkerTailor$Shares"
def TX4 : u_T := fun k => match k with
  | 0 => ("TinkerTailor$Shares", "ways", "[J", true)
  | _ => ("TinkerTailor$Shares", "costs", "[I", true)
def tyX4 : Nat → FieldType := fun k => match k with
  | 0 => .array .long
  | _ => .array .int
abbrev wsX40 : List Cond := u_ws RX4 TX4 2
theorem nmX4 : ∀ a, a < 2 → ∀ b, b < 2 → a ≠ b → (TX4 a).2.1 ≠ (TX4 b).2.1 := by decide +kernel
theorem tyX4_ok : ∀ k, k < 2 → parseFieldDescriptor (TX4 k).2.2.1 = some (tyX4 k) := by decide +kernel
abbrev cX4_init : ByteArray := prog_6_method_1_code
def yX4_init : MethodName := ⟨RX4, "<init>", "()V"⟩
abbrev cX4_waysToPleaseAll : ByteArray := prog_6_method_2_code
def yX4_waysToPleaseAll : MethodName := ⟨RX4, "waysToPleaseAll", "(LTinkerTailor$Board;I)J"⟩
abbrev cX4_waysWith : ByteArray := prog_6_method_3_code
def yX4_waysWith : MethodName := ⟨RX4, "waysWith", "(LTinkerTailor$Board;III)J"⟩
abbrev cX4_canPlease : ByteArray := prog_6_method_4_code
def yX4_canPlease : MethodName := ⟨RX4, "canPlease", "(LTinkerTailor$Board;I)Z"⟩
abbrev cX4_leastNeeded : ByteArray := prog_6_method_5_code
def yX4_leastNeeded : MethodName := ⟨RX4, "leastNeeded", "(LTinkerTailor$Board;I)I"⟩
abbrev cX4_fewestPushes : ByteArray := prog_6_method_6_code
def yX4_fewestPushes : MethodName := ⟨RX4, "fewestPushes", "(LTinkerTailor$Board;)I"⟩
abbrev cX4_costWith : ByteArray := prog_6_method_7_code
def yX4_costWith : MethodName := ⟨RX4, "costWith", "(LTinkerTailor$Board;III)I"⟩
def RX5 : String := "TinkerTailor"
def TX5 : u_T := fun k => match k with
  | 0 => ("TinkerTailor", "now", "LTinkerTailor$Board;", true)
  | 1 => ("TinkerTailor", "mind", "LTinkerTailor$Board;", true)
  | 2 => ("TinkerTailor", "kept", "LTinkerTailor$Board;", true)
  | 3 => ("TinkerTailor", "isKept", "Z", false)
  | 4 => ("TinkerTailor", "letters", "LTinkerTailor$Letters;", true)
  | 5 => ("TinkerTailor", "past", "LTinkerTailor$Past;", true)
  | 6 => ("TinkerTailor", "told", "[I", true)
  | 7 => ("TinkerTailor", "toldCount", "I", false)
  | 8 => ("TinkerTailor", "refused", "[I", true)
  | 9 => ("TinkerTailor", "games", "LTinkerTailor$Games;", true)
  | _ => ("TinkerTailor", "shares", "LTinkerTailor$Shares;", true)
def tyX5 : Nat → FieldType := fun k => match k with
  | 0 => .object "TinkerTailor$Board"
  | 1 => .object "TinkerTailor$Board"
  | 2 => .object "TinkerTailor$Board"
  | 3 => .boolean
  | 4 => .object "TinkerTailor$Letters"
  | 5 => .object "TinkerTailor$Past"
  | 6 => .array .int
  | 7 => .int
  | 8 => .array .int
  | 9 => .object "TinkerTailor$Games"
  | _ => .object "TinkerTailor$Shares"
abbrev wsX50 : List Cond := u_ws RX5 TX5 11
theorem nmX5 : ∀ a, a < 11 → ∀ b, b < 11 → a ≠ b → (TX5 a).2.1 ≠ (TX5 b).2.1 := by decide +kernel
theorem tyX5_ok : ∀ k, k < 11 → parseFieldDescriptor (TX5 k).2.2.1 = some (tyX5 k) := by decide +kernel
abbrev cX5_init : ByteArray := prog_1_method_1_code
def yX5_init : MethodName := ⟨RX5, "<init>", "()V"⟩
abbrev cX5_feed : ByteArray := prog_1_method_2_code
def yX5_feed : MethodName := ⟨RX5, "feed", "(I)I"⟩
abbrev cX5_table : ByteArray := prog_1_method_3_code
def yX5_table : MethodName := ⟨RX5, "table", "()I"⟩
abbrev cX5_rhyme : ByteArray := prog_1_method_4_code
def yX5_rhyme : MethodName := ⟨RX5, "rhyme", "(II)I"⟩
abbrev cX5_begins : ByteArray := prog_1_method_5_code
def yX5_begins : MethodName := ⟨RX5, "begins", "(II)I"⟩
abbrev cX5_says : ByteArray := prog_1_method_6_code
def yX5_says : MethodName := ⟨RX5, "says", "(II)I"⟩
abbrev cX5_both : ByteArray := prog_1_method_7_code
def yX5_both : MethodName := ⟨RX5, "both", "(I)I"⟩
abbrev cX5_leastSaidByAll : ByteArray := prog_1_method_8_code
def yX5_leastSaidByAll : MethodName := ⟨RX5, "leastSaidByAll", "()I"⟩
abbrev cX5_cycleOfTold : ByteArray := prog_1_method_9_code
def yX5_cycleOfTold : MethodName := ⟨RX5, "cycleOfTold", "()I"⟩
abbrev cX5_cycle : ByteArray := prog_1_method_10_code
def yX5_cycle : MethodName := ⟨RX5, "cycle", "()I"⟩
abbrev cX5_same : ByteArray := prog_1_method_11_code
def yX5_same : MethodName := ⟨RX5, "same", "(II)I"⟩
abbrev cX5_fair : ByteArray := prog_1_method_12_code
def yX5_fair : MethodName := ⟨RX5, "fair", "(I)I"⟩
abbrev cX5_rhymed : ByteArray := prog_1_method_13_code
def yX5_rhymed : MethodName := ⟨RX5, "rhymed", "(I)I"⟩
abbrev cX5_eater : ByteArray := prog_1_method_14_code
def yX5_eater : MethodName := ⟨RX5, "eater", "(II)I"⟩
abbrev cX5_lay : ByteArray := prog_1_method_15_code
def yX5_lay : MethodName := ⟨RX5, "lay", "(III)I"⟩
abbrev cX5_kind : ByteArray := prog_1_method_16_code
def yX5_kind : MethodName := ⟨RX5, "kind", "(III)I"⟩
abbrev cX5_set : ByteArray := prog_1_method_17_code
def yX5_set : MethodName := ⟨RX5, "set", "(II)I"⟩
abbrev cX5_refusalToSet : ByteArray := prog_1_method_18_code
def yX5_refusalToSet : MethodName := ⟨RX5, "refusalToSet", "(II)I"⟩
abbrev cX5_turn : ByteArray := prog_1_method_19_code
def yX5_turn : MethodName := ⟨RX5, "turn", "()I"⟩
abbrev cX5_back : ByteArray := prog_1_method_20_code
def yX5_back : MethodName := ⟨RX5, "back", "()I"⟩
abbrev cX5_supper : ByteArray := prog_1_method_21_code
def yX5_supper : MethodName := ⟨RX5, "supper", "(I)I"⟩
abbrev cX5_behind : ByteArray := prog_1_method_22_code
def yX5_behind : MethodName := ⟨RX5, "behind", "(I)I"⟩
abbrev cX5_best : ByteArray := prog_1_method_23_code
def yX5_best : MethodName := ⟨RX5, "best", "(I)I"⟩
abbrev cX5_rims : ByteArray := prog_1_method_24_code
def yX5_rims : MethodName := ⟨RX5, "rims", "()I"⟩
abbrev cX5_bringsTold : ByteArray := prog_1_method_25_code
def yX5_bringsTold : MethodName := ⟨RX5, "bringsTold", "(LTinkerTailor$Board;)Z"⟩
abbrev cX5_wished : ByteArray := prog_1_method_26_code
def yX5_wished : MethodName := ⟨RX5, "wished", "(I)I"⟩
abbrev cX5_seeds : ByteArray := prog_1_method_27_code
def yX5_seeds : MethodName := ⟨RX5, "seeds", "(IIII)I"⟩
abbrev cX5_nextSeed : ByteArray := prog_1_method_28_code
def yX5_nextSeed : MethodName := ⟨RX5, "nextSeed", "(I)I"⟩
abbrev cX5_drawBelow : ByteArray := prog_1_method_29_code
def yX5_drawBelow : MethodName := ⟨RX5, "drawBelow", "(II)I"⟩
abbrev cX5_judge : ByteArray := prog_1_method_30_code
def yX5_judge : MethodName := ⟨RX5, "judge", "()I"⟩
abbrev cX5_firstNotSo : ByteArray := prog_1_method_31_code
def yX5_firstNotSo : MethodName := ⟨RX5, "firstNotSo", "()I"⟩
abbrev cX5_planned : ByteArray := prog_1_method_32_code
def yX5_planned : MethodName := ⟨RX5, "planned", "(I)I"⟩
abbrev cX5_scheme : ByteArray := prog_1_method_33_code
def yX5_scheme : MethodName := ⟨RX5, "scheme", "(I)I"⟩
abbrev cX5_numberLeadsToWish : ByteArray := prog_1_method_34_code
def yX5_numberLeadsToWish : MethodName := ⟨RX5, "numberLeadsToWish", "(LTinkerTailor$Board;III)Z"⟩
abbrev cX5_leadsToWish : ByteArray := prog_1_method_35_code
def yX5_leadsToWish : MethodName := ⟨RX5, "leadsToWish", "(LTinkerTailor$Board;II)Z"⟩
abbrev cX5_aloneLeadsToWish : ByteArray := prog_1_method_36_code
def yX5_aloneLeadsToWish : MethodName := ⟨RX5, "aloneLeadsToWish", "(LTinkerTailor$Board;II)Z"⟩
abbrev cX5_shared : ByteArray := prog_1_method_37_code
def yX5_shared : MethodName := ⟨RX5, "shared", "(I)J"⟩
abbrev cX5_can : ByteArray := prog_1_method_38_code
def yX5_can : MethodName := ⟨RX5, "can", "(I)I"⟩
abbrev cX5_gift : ByteArray := prog_1_method_39_code
def yX5_gift : MethodName := ⟨RX5, "gift", "()I"⟩
abbrev cX5_pushes : ByteArray := prog_1_method_40_code
def yX5_pushes : MethodName := ⟨RX5, "pushes", "()I"⟩
abbrev cX5_sure : ByteArray := prog_1_method_41_code
def yX5_sure : MethodName := ⟨RX5, "sure", "(II)I"⟩
abbrev cX5_last : ByteArray := prog_1_method_42_code
def yX5_last : MethodName := ⟨RX5, "last", "(I)I"⟩
abbrev cX5_duel : ByteArray := prog_1_method_43_code
def yX5_duel : MethodName := ⟨RX5, "duel", "(I)I"⟩
abbrev cX5_pile : ByteArray := prog_1_method_44_code
def yX5_pile : MethodName := ⟨RX5, "pile", "(I)I"⟩
abbrev cX5_move : ByteArray := prog_1_method_45_code
def yX5_move : MethodName := ⟨RX5, "move", "(II)I"⟩
abbrev cX5_wins : ByteArray := prog_1_method_46_code
def yX5_wins : MethodName := ⟨RX5, "wins", "(I)I"⟩
abbrev cX5_spoons : ByteArray := prog_1_method_47_code
def yX5_spoons : MethodName := ⟨RX5, "spoons", "(IIIIII)J"⟩
abbrev cX5_unknown : ByteArray := prog_1_method_48_code
def yX5_unknown : MethodName := ⟨RX5, "unknown", "(IIII)J"⟩
abbrev cX5_petals : ByteArray := prog_1_method_49_code
def yX5_petals : MethodName := ⟨RX5, "petals", "(I)I"⟩
abbrev cX5_petal : ByteArray := prog_1_method_50_code
def yX5_petal : MethodName := ⟨RX5, "petal", "(II)J"⟩
abbrev cX5_likeliestWord : ByteArray := prog_1_method_51_code
def yX5_likeliestWord : MethodName := ⟨RX5, "likeliestWord", "(I)I"⟩
abbrev cX5_weightFor : ByteArray := prog_1_method_52_code
def yX5_weightFor : MethodName := ⟨RX5, "weightFor", "(II)I"⟩
abbrev cX5_row : ByteArray := prog_1_method_53_code
def yX5_row : MethodName := ⟨RX5, "row", "(I)I"⟩
abbrev cX5_clear : ByteArray := prog_1_method_54_code
def yX5_clear : MethodName := ⟨RX5, "clear", "()I"⟩
abbrev cX5_image : ByteArray := prog_1_method_55_code
def yX5_image : MethodName := ⟨RX5, "image", "()I"⟩
abbrev cX5_restore : ByteArray := prog_1_method_56_code
def yX5_restore : MethodName := ⟨RX5, "restore", "()I"⟩
abbrev cX5_count : ByteArray := prog_1_method_57_code
def yX5_count : MethodName := ⟨RX5, "count", "(I)I"⟩
abbrev cX5_refuse : ByteArray := prog_1_method_58_code
def yX5_refuse : MethodName := ⟨RX5, "refuse", "(I)I"⟩
abbrev cX5_refuseLong : ByteArray := prog_1_method_59_code
def yX5_refuseLong : MethodName := ⟨RX5, "refuseLong", "(I)J"⟩
abbrev cX5_spoken : ByteArray := prog_1_method_60_code
def yX5_spoken : MethodName := ⟨RX5, "spoken", "(III)I"⟩
abbrev cX5_commonDivisor : ByteArray := prog_1_method_61_code
def yX5_commonDivisor : MethodName := ⟨RX5, "commonDivisor", "(JJ)J"⟩
abbrev cX5_commonMultiple : ByteArray := prog_1_method_62_code
def yX5_commonMultiple : MethodName := ⟨RX5, "commonMultiple", "(II)I"⟩
abbrev cX5_partOf : ByteArray := prog_1_method_63_code
def yX5_partOf : MethodName := ⟨RX5, "partOf", "(JJI)J"⟩
def RX6 : String := "TinkerTailorModel"
def TX6 : u_T := fun k => match k with
  | 0 => ("TinkerTailorModel", "rhymes", "I", false)
  | 1 => ("TinkerTailorModel", "eaters", "I", false)
  | 2 => ("TinkerTailorModel", "fruits", "I", false)
  | 3 => ("TinkerTailorModel", "bunch", "I", false)
  | 4 => ("TinkerTailorModel", "most", "I", false)
  | 5 => ("TinkerTailorModel", "next", "I", false)
  | 6 => ("TinkerTailorModel", "lengths", "[I", true)
  | 7 => ("TinkerTailorModel", "begins", "[I", true)
  | 8 => ("TinkerTailorModel", "kinds", "[I", true)
  | 9 => ("TinkerTailorModel", "figures", "[I", true)
  | 10 => ("TinkerTailorModel", "wishes", "[I", true)
  | 11 => ("TinkerTailorModel", "stones", "[I", true)
  | 12 => ("TinkerTailorModel", "thrown", "I", false)
  | 13 => ("TinkerTailorModel", "refusals", "[I", true)
  | 14 => ("TinkerTailorModel", "kept", "[I", true)
  | 15 => ("TinkerTailorModel", "imaged", "[I", true)
  | 16 => ("TinkerTailorModel", "hasImage", "Z", false)
  | 17 => ("TinkerTailorModel", "place0", "I", false)
  | 18 => ("TinkerTailorModel", "isTaking", "Z", false)
  | 19 => ("TinkerTailorModel", "keptIn", "[I", false)
  | 20 => ("TinkerTailorModel", "letters", "[I", true)
  | 21 => ("TinkerTailorModel", "letterMany", "I", false)
  | 22 => ("TinkerTailorModel", "at", "I", false)
  | 23 => ("TinkerTailorModel", "isBad", "Z", false)
  | 24 => ("TinkerTailorModel", "statements", "I", false)
  | 25 => ("TinkerTailorModel", "placeIn", "[I", true)
  | 26 => ("TinkerTailorModel", "letterOf", "[I", true)
  | 27 => ("TinkerTailorModel", "told", "[I", true)
  | 28 => ("TinkerTailorModel", "backWho", "[I", true)
  | 29 => ("TinkerTailorModel", "backStones", "[I", true)
  | 30 => ("TinkerTailorModel", "backFruits", "[I", true)
  | 31 => ("TinkerTailorModel", "turned", "I", false)
  | 32 => ("TinkerTailorModel", "ways", "[J", true)
  | 33 => ("TinkerTailorModel", "waysThen", "[J", true)
  | 34 => ("TinkerTailorModel", "surely", "[Z", true)
  | 35 => ("TinkerTailorModel", "choose", "[I", true)
  | 36 => ("TinkerTailorModel", "given", "[I", true)
  | 37 => ("TinkerTailorModel", "givenThen", "[I", true)
  | 38 => ("TinkerTailorModel", "piles", "[I", true)
  | 39 => ("TinkerTailorModel", "pileMany", "I", false)
  | 40 => ("TinkerTailorModel", "winsBy", "[Z", true)
  | 41 => ("TinkerTailorModel", "ends", "[I", true)
  | 42 => ("TinkerTailorModel", "row", "[I", true)
  | 43 => ("TinkerTailorModel", "rowMany", "I", false)
  | _ => ("TinkerTailorModel", "seed", "I", false)
def tyX6 : Nat → FieldType := fun k => match k with
  | 0 => .int
  | 1 => .int
  | 2 => .int
  | 3 => .int
  | 4 => .int
  | 5 => .int
  | 6 => .array .int
  | 7 => .array .int
  | 8 => .array .int
  | 9 => .array .int
  | 10 => .array .int
  | 11 => .array .int
  | 12 => .int
  | 13 => .array .int
  | 14 => .array .int
  | 15 => .array .int
  | 16 => .boolean
  | 17 => .int
  | 18 => .boolean
  | 19 => .array .int
  | 20 => .array .int
  | 21 => .int
  | 22 => .int
  | 23 => .boolean
  | 24 => .int
  | 25 => .array .int
  | 26 => .array .int
  | 27 => .array .int
  | 28 => .array .int
  | 29 => .array .int
  | 30 => .array .int
  | 31 => .int
  | 32 => .array .long
  | 33 => .array .long
  | 34 => .array .boolean
  | 35 => .array .int
  | 36 => .array .int
  | 37 => .array .int
  | 38 => .array .int
  | 39 => .int
  | 40 => .array .boolean
  | 41 => .array .int
  | 42 => .array .int
  | 43 => .int
  | _ => .int
abbrev wsX60 : List Cond := u_ws RX6 TX6 45
theorem nmX6 : ∀ a, a < 45 → ∀ b, b < 45 → a ≠ b → (TX6 a).2.1 ≠ (TX6 b).2.1 := by decide +kernel
theorem tyX6_ok : ∀ k, k < 45 → parseFieldDescriptor (TX6 k).2.2.1 = some (tyX6 k) := by decide +kernel
abbrev cX6_init : ByteArray := prog_8_method_1_code
def yX6_init : MethodName := ⟨RX6, "<init>", "()V"⟩
abbrev cX6_in : ByteArray := prog_8_method_3_code
def yX6_in : MethodName := ⟨RX6, "in", "(JJJ)Z"⟩
abbrev cX6_refuse : ByteArray := prog_8_method_4_code
def yX6_refuse : MethodName := ⟨RX6, "refuse", "(I)I"⟩
abbrev cX6_isRhyme : ByteArray := prog_8_method_5_code
def yX6_isRhyme : MethodName := ⟨RX6, "isRhyme", "(I)Z"⟩
abbrev cX6_isEater : ByteArray := prog_8_method_6_code
def yX6_isEater : MethodName := ⟨RX6, "isEater", "(I)Z"⟩
abbrev cX6_wrongNumber : ByteArray := prog_8_method_7_code
def yX6_wrongNumber : MethodName := ⟨RX6, "wrongNumber", "(III)I"⟩
abbrev cX6_ones : ByteArray := prog_8_method_8_code
def yX6_ones : MethodName := ⟨RX6, "ones", "(I)I"⟩
abbrev cX6_saidBy : ByteArray := prog_8_method_9_code
def yX6_saidBy : MethodName := ⟨RX6, "saidBy", "(II)I"⟩
abbrev cX6_wordTo : ByteArray := prog_8_method_10_code
def yX6_wordTo : MethodName := ⟨RX6, "wordTo", "(I)I"⟩
abbrev cX6_wouldHave : ByteArray := prog_8_method_11_code
def yX6_wouldHave : MethodName := ⟨RX6, "wouldHave", "(II)Z"⟩
abbrev cX6_has : ByteArray := prog_8_method_12_code
def yX6_has : MethodName := ⟨RX6, "has", "(I)Z"⟩
abbrev cX6_leastFor : ByteArray := prog_8_method_13_code
def yX6_leastFor : MethodName := ⟨RX6, "leastFor", "(II)I"⟩
abbrev cX6_playful : ByteArray := prog_8_method_14_code
def yX6_playful : MethodName := ⟨RX6, "playful", "()I"⟩
abbrev cX6_wants : ByteArray := prog_8_method_15_code
def yX6_wants : MethodName := ⟨RX6, "wants", "(I)I"⟩
abbrev cX6_turnOne : ByteArray := prog_8_method_16_code
def yX6_turnOne : MethodName := ⟨RX6, "turnOne", "()I"⟩
abbrev cX6_supperNow : ByteArray := prog_8_method_17_code
def yX6_supperNow : MethodName := ⟨RX6, "supperNow", "()I"⟩
abbrev cX6_haveBits : ByteArray := prog_8_method_18_code
def yX6_haveBits : MethodName := ⟨RX6, "haveBits", "()I"⟩
abbrev cX6_carry : ByteArray := prog_8_method_19_code
def yX6_carry : MethodName := ⟨RX6, "carry", "(I)I"⟩
abbrev cX6_carryAll : ByteArray := prog_8_method_20_code
def yX6_carryAll : MethodName := ⟨RX6, "carryAll", "([IZ)V"⟩
abbrev cX6_open : ByteArray := prog_8_method_21_code
def yX6_open : MethodName := ⟨RX6, "open", "()V"⟩
abbrev cX6_putBack : ByteArray := prog_8_method_22_code
def yX6_putBack : MethodName := ⟨RX6, "putBack", "()V"⟩
abbrev cX6_image : ByteArray := prog_8_method_23_code
def yX6_image : MethodName := ⟨RX6, "image", "()I"⟩
abbrev cX6_restore : ByteArray := prog_8_method_24_code
def yX6_restore : MethodName := ⟨RX6, "restore", "()I"⟩
abbrev cX6_feed : ByteArray := prog_8_method_25_code
def yX6_feed : MethodName := ⟨RX6, "feed", "(I)I"⟩
abbrev cX6_here : ByteArray := prog_8_method_26_code
def yX6_here : MethodName := ⟨RX6, "here", "()I"⟩
abbrev cX6_readDigit : ByteArray := prog_8_method_27_code
def yX6_readDigit : MethodName := ⟨RX6, "readDigit", "()I"⟩
abbrev cX6_readOneOrTwo : ByteArray := prog_8_method_28_code
def yX6_readOneOrTwo : MethodName := ⟨RX6, "readOneOrTwo", "()I"⟩
abbrev cX6_readTwo : ByteArray := prog_8_method_29_code
def yX6_readTwo : MethodName := ⟨RX6, "readTwo", "()I"⟩
abbrev cX6_take : ByteArray := prog_8_method_30_code
def yX6_take : MethodName := ⟨RX6, "take", "(I)V"⟩
abbrev cX6_readStatement : ByteArray := prog_8_method_31_code
def yX6_readStatement : MethodName := ⟨RX6, "readStatement", "()V"⟩
abbrev cX6_rhymeComes : ByteArray := prog_8_method_32_code
def yX6_rhymeComes : MethodName := ⟨RX6, "rhymeComes", "(I)Z"⟩
abbrev cX6_eaterComes : ByteArray := prog_8_method_33_code
def yX6_eaterComes : MethodName := ⟨RX6, "eaterComes", "(I)Z"⟩
abbrev cX6_bowlComes : ByteArray := prog_8_method_34_code
def yX6_bowlComes : MethodName := ⟨RX6, "bowlComes", "(III)Z"⟩
abbrev cX6_wordComes : ByteArray := prog_8_method_35_code
def yX6_wordComes : MethodName := ⟨RX6, "wordComes", "(II)Z"⟩
abbrev cX6_comes : ByteArray := prog_8_method_36_code
def yX6_comes : MethodName := ⟨RX6, "comes", "(I)Z"⟩
abbrev cX6_table : ByteArray := prog_8_method_37_code
def yX6_table : MethodName := ⟨RX6, "table", "()I"⟩
abbrev cX6_rhyme : ByteArray := prog_8_method_38_code
def yX6_rhyme : MethodName := ⟨RX6, "rhyme", "(II)I"⟩
abbrev cX6_begins : ByteArray := prog_8_method_39_code
def yX6_begins : MethodName := ⟨RX6, "begins", "(II)I"⟩
abbrev cX6_says : ByteArray := prog_8_method_40_code
def yX6_says : MethodName := ⟨RX6, "says", "(II)I"⟩
abbrev cX6_eater : ByteArray := prog_8_method_41_code
def yX6_eater : MethodName := ⟨RX6, "eater", "(II)I"⟩
abbrev cX6_lay : ByteArray := prog_8_method_42_code
def yX6_lay : MethodName := ⟨RX6, "lay", "(III)I"⟩
abbrev cX6_kind : ByteArray := prog_8_method_43_code
def yX6_kind : MethodName := ⟨RX6, "kind", "(III)I"⟩
abbrev cX6_wrongSetting : ByteArray := prog_8_method_44_code
def yX6_wrongSetting : MethodName := ⟨RX6, "wrongSetting", "(II)I"⟩
abbrev cX6_set : ByteArray := prog_8_method_45_code
def yX6_set : MethodName := ⟨RX6, "set", "(II)I"⟩
abbrev cX6_turn : ByteArray := prog_8_method_46_code
def yX6_turn : MethodName := ⟨RX6, "turn", "()I"⟩
abbrev cX6_keepTurn : ByteArray := prog_8_method_47_code
def yX6_keepTurn : MethodName := ⟨RX6, "keepTurn", "()V"⟩
abbrev cX6_back : ByteArray := prog_8_method_48_code
def yX6_back : MethodName := ⟨RX6, "back", "()I"⟩
abbrev cX6_supper : ByteArray := prog_8_method_49_code
def yX6_supper : MethodName := ⟨RX6, "supper", "(I)I"⟩
abbrev cX6_behind : ByteArray := prog_8_method_50_code
def yX6_behind : MethodName := ⟨RX6, "behind", "(I)I"⟩
abbrev cX6_allSay : ByteArray := prog_8_method_51_code
def yX6_allSay : MethodName := ⟨RX6, "allSay", "(I)Z"⟩
abbrev cX6_both : ByteArray := prog_8_method_52_code
def yX6_both : MethodName := ⟨RX6, "both", "(I)I"⟩
abbrev cX6_beginWays : ByteArray := prog_8_method_53_code
def yX6_beginWays : MethodName := ⟨RX6, "beginWays", "()V"⟩
abbrev cX6_eatsToo : ByteArray := prog_8_method_54_code
def yX6_eatsToo : MethodName := ⟨RX6, "eatsToo", "(IZI)V"⟩
abbrev cX6_wrongShare : ByteArray := prog_8_method_55_code
def yX6_wrongShare : MethodName := ⟨RX6, "wrongShare", "(I)I"⟩
abbrev cX6_shared : ByteArray := prog_8_method_56_code
def yX6_shared : MethodName := ⟨RX6, "shared", "(I)J"⟩
abbrev cX6_canAll : ByteArray := prog_8_method_57_code
def yX6_canAll : MethodName := ⟨RX6, "canAll", "(I)Z"⟩
abbrev cX6_can : ByteArray := prog_8_method_58_code
def yX6_can : MethodName := ⟨RX6, "can", "(I)I"⟩
abbrev cX6_stateOf : ByteArray := prog_8_method_59_code
def yX6_stateOf : MethodName := ⟨RX6, "stateOf", "(III)I"⟩
abbrev cX6_isSure : ByteArray := prog_8_method_60_code
def yX6_isSure : MethodName := ⟨RX6, "isSure", "(IIII)Z"⟩
abbrev cX6_laySure : ByteArray := prog_8_method_61_code
def yX6_laySure : MethodName := ⟨RX6, "laySure", "(I)V"⟩
abbrev cX6_sureFirst : ByteArray := prog_8_method_62_code
def yX6_sureFirst : MethodName := ⟨RX6, "sureFirst", "(I)I"⟩
abbrev cX6_sure : ByteArray := prog_8_method_63_code
def yX6_sure : MethodName := ⟨RX6, "sure", "(II)I"⟩
abbrev cX6_last : ByteArray := prog_8_method_64_code
def yX6_last : MethodName := ⟨RX6, "last", "(I)I"⟩
abbrev cX6_divisor : ByteArray := prog_8_method_65_code
def yX6_divisor : MethodName := ⟨RX6, "divisor", "(II)I"⟩
abbrev cX6_partOf : ByteArray := prog_8_method_66_code
def yX6_partOf : MethodName := ⟨RX6, "partOf", "(III)J"⟩
abbrev cX6_wrongSpoons : ByteArray := prog_8_method_67_code
def yX6_wrongSpoons : MethodName := ⟨RX6, "wrongSpoons", "(IIIIII)I"⟩
abbrev cX6_spoons : ByteArray := prog_8_method_68_code
def yX6_spoons : MethodName := ⟨RX6, "spoons", "(IIIIII)J"⟩
abbrev cX6_haveBy : ByteArray := prog_8_method_69_code
def yX6_haveBy : MethodName := ⟨RX6, "haveBy", "(I)I"⟩
abbrev cX6_fair : ByteArray := prog_8_method_70_code
def yX6_fair : MethodName := ⟨RX6, "fair", "(I)I"⟩
abbrev cX6_haveAfter : ByteArray := prog_8_method_71_code
def yX6_haveAfter : MethodName := ⟨RX6, "haveAfter", "(III)I"⟩
abbrev cX6_gift : ByteArray := prog_8_method_72_code
def yX6_gift : MethodName := ⟨RX6, "gift", "()I"⟩
abbrev cX6_wrongPetals : ByteArray := prog_8_method_73_code
def yX6_wrongPetals : MethodName := ⟨RX6, "wrongPetals", "(I)I"⟩
abbrev cX6_weightBy : ByteArray := prog_8_method_74_code
def yX6_weightBy : MethodName := ⟨RX6, "weightBy", "(II)I"⟩
abbrev cX6_bestWord : ByteArray := prog_8_method_75_code
def yX6_bestWord : MethodName := ⟨RX6, "bestWord", "(I)I"⟩
abbrev cX6_petals : ByteArray := prog_8_method_76_code
def yX6_petals : MethodName := ⟨RX6, "petals", "(I)I"⟩
abbrev cX6_petal : ByteArray := prog_8_method_77_code
def yX6_petal : MethodName := ⟨RX6, "petal", "(II)J"⟩
abbrev cX6_best : ByteArray := prog_8_method_78_code
def yX6_best : MethodName := ⟨RX6, "best", "(I)I"⟩
abbrev cX6_areRims : ByteArray := prog_8_method_79_code
def yX6_areRims : MethodName := ⟨RX6, "areRims", "()Z"⟩
abbrev cX6_rims : ByteArray := prog_8_method_80_code
def yX6_rims : MethodName := ⟨RX6, "rims", "()I"⟩
abbrev cX6_wished : ByteArray := prog_8_method_81_code
def yX6_wished : MethodName := ⟨RX6, "wished", "(I)I"⟩
abbrev cX6_cycle : ByteArray := prog_8_method_82_code
def yX6_cycle : MethodName := ⟨RX6, "cycle", "()I"⟩
abbrev cX6_same : ByteArray := prog_8_method_83_code
def yX6_same : MethodName := ⟨RX6, "same", "(II)I"⟩
abbrev cX6_haveWith : ByteArray := prog_8_method_84_code
def yX6_haveWith : MethodName := ⟨RX6, "haveWith", "(II)I"⟩
abbrev cX6_rhymed : ByteArray := prog_8_method_85_code
def yX6_rhymed : MethodName := ⟨RX6, "rhymed", "(I)I"⟩
abbrev cX6_givesToo : ByteArray := prog_8_method_86_code
def yX6_givesToo : MethodName := ⟨RX6, "givesToo", "(I)V"⟩
abbrev cX6_pushes : ByteArray := prog_8_method_87_code
def yX6_pushes : MethodName := ⟨RX6, "pushes", "()I"⟩
abbrev cX6_unknown : ByteArray := prog_8_method_88_code
def yX6_unknown : MethodName := ⟨RX6, "unknown", "(IIII)J"⟩
abbrev cX6_takeSo : ByteArray := prog_8_method_89_code
def yX6_takeSo : MethodName := ⟨RX6, "takeSo", "(I)V"⟩
abbrev cX6_planned : ByteArray := prog_8_method_90_code
def yX6_planned : MethodName := ⟨RX6, "planned", "(I)I"⟩
abbrev cX6_bringsWish : ByteArray := prog_8_method_91_code
def yX6_bringsWish : MethodName := ⟨RX6, "bringsWish", "(III)Z"⟩
abbrev cX6_ownTurns : ByteArray := prog_8_method_92_code
def yX6_ownTurns : MethodName := ⟨RX6, "ownTurns", "(I)I"⟩
abbrev cX6_scheme : ByteArray := prog_8_method_93_code
def yX6_scheme : MethodName := ⟨RX6, "scheme", "(I)I"⟩
abbrev cX6_placeOf : ByteArray := prog_8_method_94_code
def yX6_placeOf : MethodName := ⟨RX6, "placeOf", "(I)I"⟩
abbrev cX6_layWins : ByteArray := prog_8_method_95_code
def yX6_layWins : MethodName := ⟨RX6, "layWins", "(Z)V"⟩
abbrev cX6_pileState : ByteArray := prog_8_method_96_code
def yX6_pileState : MethodName := ⟨RX6, "pileState", "()I"⟩
abbrev cX6_firstMove : ByteArray := prog_8_method_97_code
def yX6_firstMove : MethodName := ⟨RX6, "firstMove", "()I"⟩
abbrev cX6_pile : ByteArray := prog_8_method_98_code
def yX6_pile : MethodName := ⟨RX6, "pile", "(I)I"⟩
abbrev cX6_move : ByteArray := prog_8_method_99_code
def yX6_move : MethodName := ⟨RX6, "move", "(II)I"⟩
abbrev cX6_wins : ByteArray := prog_8_method_100_code
def yX6_wins : MethodName := ⟨RX6, "wins", "(I)I"⟩
abbrev cX6_duelState : ByteArray := prog_8_method_101_code
def yX6_duelState : MethodName := ⟨RX6, "duelState", "(III)I"⟩
abbrev cX6_worthTo : ByteArray := prog_8_method_102_code
def yX6_worthTo : MethodName := ⟨RX6, "worthTo", "(II)I"⟩
abbrev cX6_endBy : ByteArray := prog_8_method_103_code
def yX6_endBy : MethodName := ⟨RX6, "endBy", "(IIII)I"⟩
abbrev cX6_bestTake : ByteArray := prog_8_method_104_code
def yX6_bestTake : MethodName := ⟨RX6, "bestTake", "(III)I"⟩
abbrev cX6_layDuel : ByteArray := prog_8_method_105_code
def yX6_layDuel : MethodName := ⟨RX6, "layDuel", "()V"⟩
abbrev cX6_duel : ByteArray := prog_8_method_106_code
def yX6_duel : MethodName := ⟨RX6, "duel", "(I)I"⟩
abbrev cX6_row : ByteArray := prog_8_method_107_code
def yX6_row : MethodName := ⟨RX6, "row", "(I)I"⟩
abbrev cX6_judge : ByteArray := prog_8_method_108_code
def yX6_judge : MethodName := ⟨RX6, "judge", "()I"⟩
abbrev cX6_clear : ByteArray := prog_8_method_109_code
def yX6_clear : MethodName := ⟨RX6, "clear", "()I"⟩
abbrev cX6_draw : ByteArray := prog_8_method_110_code
def yX6_draw : MethodName := ⟨RX6, "draw", "(I)I"⟩
abbrev cX6_seeds : ByteArray := prog_8_method_111_code
def yX6_seeds : MethodName := ⟨RX6, "seeds", "(IIII)I"⟩
abbrev cX6_count : ByteArray := prog_8_method_112_code
def yX6_count : MethodName := ⟨RX6, "count", "(I)I"⟩
def RJ6 : String := "java/lang/Integer"
def TJ6 : u_T := fun k => match k with
  | _ => ("", "", "", false)
def tyJ6 : Nat → FieldType := fun k => match k with
  | _ => .int
abbrev wsJ60 : List Cond := u_ws RJ6 TJ6 0
abbrev cJ6_bitCount_0f7a4 : ByteArray := prog_9_method_49_code
def yJ6_bitCount_0f7a4 : MethodName := ⟨RJ6, "bitCount", "(I)I"⟩
def RJ9 : String := "java/lang/Math"
def TJ9 : u_T := fun k => match k with
  | _ => ("", "", "", false)
def tyJ9 : Nat → FieldType := fun k => match k with
  | _ => .int
abbrev wsJ90 : List Cond := u_ws RJ9 TJ9 0
abbrev cJ9_max_7cf53 : ByteArray := prog_10_method_65_code
def yJ9_max_7cf53 : MethodName := ⟨RJ9, "max", "(II)I"⟩
abbrev cJ9_min_7cf53 : ByteArray := prog_10_method_69_code
def yJ9_min_7cf53 : MethodName := ⟨RJ9, "min", "(II)I"⟩
def RJ0 : String := "java/lang/String"
def TJ0 : u_T := fun k => match k with
  | _ => ("", "", "", false)
def tyJ0 : Nat → FieldType := fun k => match k with
  | _ => .int
abbrev wsJ00 : List Cond := u_ws RJ0 TJ0 0
abbrev cJ0_length_8abf5 : ByteArray := prog_11_method_54_code
def yJ0_length_8abf5 : MethodName := ⟨RJ0, "length", "()I"⟩
abbrev cJ0_isEmpty_aae02 : ByteArray := prog_11_method_55_code
def yJ0_isEmpty_aae02 : MethodName := ⟨RJ0, "isEmpty", "()Z"⟩
abbrev cJ0_charAt_5068e : ByteArray := prog_11_method_56_code
def yJ0_charAt_5068e : MethodName := ⟨RJ0, "charAt", "(I)C"⟩
abbrev cJ0_coder_7d493 : ByteArray := prog_11_method_152_code
def yJ0_coder_7d493 : MethodName := ⟨RJ0, "coder", "()B"⟩
abbrev cJ0_isLatin1_aae02 : ByteArray := prog_11_method_154_code
def yJ0_isLatin1_aae02 : MethodName := ⟨RJ0, "isLatin1", "()Z"⟩
abbrev cJ0_checkIndex_df160 : ByteArray := prog_11_method_155_code
def yJ0_checkIndex_df160 : MethodName := ⟨RJ0, "checkIndex", "(II)V"⟩
def RJ1 : String := "java/lang/StringLatin1"
def TJ1 : u_T := fun k => match k with
  | _ => ("", "", "", false)
def tyJ1 : Nat → FieldType := fun k => match k with
  | _ => .int
abbrev wsJ10 : List Cond := u_ws RJ1 TJ1 0
abbrev cJ1_charAt_3b067 : ByteArray := prog_12_method_2_code
def yJ1_charAt_3b067 : MethodName := ⟨RJ1, "charAt", "([BI)C"⟩
def RJ2 : String := "java/lang/StringUTF16"
def TJ2 : u_T := fun k => match k with
  | _ => ("", "", "", false)
def tyJ2 : Nat → FieldType := fun k => match k with
  | _ => .int
abbrev wsJ20 : List Cond := u_ws RJ2 TJ2 0
abbrev cJ2_getChar_3b067 : ByteArray := prog_13_method_5_code
def yJ2_getChar_3b067 : MethodName := ⟨RJ2, "getChar", "([BI)C"⟩
abbrev cJ2_length_9d52b : ByteArray := prog_13_method_6_code
def yJ2_length_9d52b : MethodName := ⟨RJ2, "length", "([B)I"⟩
abbrev cJ2_charAt_3b067 : ByteArray := prog_13_method_83_code
def yJ2_charAt_3b067 : MethodName := ⟨RJ2, "charAt", "([BI)C"⟩
abbrev cJ2_checkIndex_2214a : ByteArray := prog_13_method_91_code
def yJ2_checkIndex_2214a : MethodName := ⟨RJ2, "checkIndex", "(I[B)V"⟩
def RJ10 : String := "java/lang/System"
def TJ10 : u_T := fun k => match k with
  | _ => ("", "", "", false)
def tyJ10 : Nat → FieldType := fun k => match k with
  | _ => .int
abbrev wsJ100 : List Cond := u_ws RJ10 TJ10 0
def RJ3 : String := "jdk/internal/util/Preconditions"
def TJ3 : u_T := fun k => match k with
  | _ => ("", "", "", false)
def tyJ3 : Nat → FieldType := fun k => match k with
  | _ => .int
abbrev wsJ30 : List Cond := u_ws RJ3 TJ3 0
abbrev cJ3_checkIndex_8e157 : ByteArray := prog_15_method_11_code
def yJ3_checkIndex_8e157 : MethodName := ⟨RJ3, "checkIndex", "(IILjava/util/function/BiFunction;)I"⟩
abbrev vwCl : List vw_C := [(RX0, TX0, 14), (RX1, TX1, 1), (RX2, TX2, 2), (RX3, TX3, 4), (RX4, TX4, 2), (RX5, TX5, 11), (RX6, TX6, 45)]
theorem inX0 : ∀ w ∈ wsX00, w ∈ lw_tbl := by decide +kernel
theorem inX1 : ∀ w ∈ wsX10, w ∈ lw_tbl := by decide +kernel
theorem inX2 : ∀ w ∈ wsX20, w ∈ lw_tbl := by decide +kernel
theorem inX3 : ∀ w ∈ wsX30, w ∈ lw_tbl := by decide +kernel
theorem inX4 : ∀ w ∈ wsX40, w ∈ lw_tbl := by decide +kernel
theorem inX5 : ∀ w ∈ wsX50, w ∈ lw_tbl := by decide +kernel
theorem inX6 : ∀ w ∈ wsX60, w ∈ lw_tbl := by decide +kernel
end
section
/-! ===== THE ABSTRACT MACHINE: predicate transformers over Int-valued cells; its soundness over W stands in the next part ===== -/
abbrev AV : Type := Int ⊕ (Int ⊕ Option Nat)
abbrev AH : Type := (Nat → Int → Int) × ((Nat → Int → Int) × (Nat → Int → Option Nat))
abbrev LL : Type := List (Option AV)
abbrev RI : Type := Instr × List Nat
abbrev AK : Type := Option AV → AH → Prop
abbrev AJ : Type := Nat → LL → List AV → AH → Prop
abbrev AT : Type := Nat → List AV → AH → AK → Prop
abbrev ABlk : Type := Nat × (List Bool × List RI)
abbrev vI (z : Int) : AV := Sum.inl z
abbrev vL (z : Int) : AV := Sum.inr (Sum.inl z)
abbrev vR (k : Nat) : AV := Sum.inr (Sum.inr (some k))
def inI (z : Int) : Prop := -2147483648 ≤ z ∧ z ≤ 2147483647
def inL (z : Int) : Prop := -9223372036854775808 ≤ z ∧ z ≤ 9223372036854775807
def upI (h : AH) (k : Nat) (j z : Int) : AH := (fun k' j' => if k' = k ∧ j' = j then z else h.1 k' j', h.2)
def upL (h : AH) (k : Nat) (j z : Int) : AH := (h.1, fun k' j' => if k' = k ∧ j' = j then z else h.2.1 k' j', h.2.2)
def upR (h : AH) (k : Nat) (j : Int) (r : Option Nat) : AH := (h.1, h.2.1, fun k' j' => if k' = k ∧ j' = j then r else h.2.2 k' j')
/-- System.arraycopy of ints -/
def cpI (h : AH) (a : Nat) (sp : Int) (b : Nat) (dp n : Int) : AH := (fun k' j' => if k' = b ∧ dp ≤ j' ∧ j' < dp + n then h.1 a (sp + (j' - dp)) else h.1 k' j', h.2)
def lcz (z y : Int) : Int := if z < y then -1 else if z = y then 0 else 1
def cmpP (c : ClassFile.Cond) (z y : Int) : Prop := match c with
  | .eq => z = y
  | .ne => ¬ z = y
  | .lt => z < y
  | .ge => y ≤ z
  | .gt => y < z
  | .le => z ≤ y
def isLg : Option AV → Bool
  | some (.inr (.inl _)) => true
  | _ => false
def setL : LL → Nat → AV → LL
  | [], _, _ => []
  | _ :: L, 0, v => some v :: L
  | x :: L, 1, v => (if isLg x = true then none else x) :: setL L 0 v
  | x :: L, n + 2, v => x :: setL L (n + 1) v
def setL2 : LL → Nat → AV → LL
  | [], _, _ => []
  | _ :: _ :: L, 0, v => some v :: none :: L
  | _ :: L, 0, v => some v :: L
  | x :: L, 1, v => (if isLg x = true then none else x) :: setL2 L 0 v
  | x :: L, n + 2, v => x :: setL2 L (n + 1) v
def entL : List AV → LL
  | [] => []
  | .inr (.inl z) :: vs => some (.inr (.inl z)) :: none :: entL vs
  | v :: vs => some v :: entL vs
def maskL : List Bool → LL → LL
  | [], _ => []
  | _ :: bs, [] => none :: maskL bs []
  | b :: bs, x :: L => (if b = true then x else none) :: maskL bs L
def popA : Nat → List AV → List AV → Option (List AV × List AV)
  | 0, acc, st => some (acc, st)
  | _ + 1, _, [] => none
  | n + 1, acc, v :: st => popA n (v :: acc) st
def catA : AV → Nat
  | .inr (.inl _) => 2
  | _ => 1
def catS : List AV → Nat
  | [] => 0
  | v :: st => catA v + catS st
def ldA (kd : Nat) (L : LL) (i : Nat) (k : AV → Prop) : Prop := match kd, L[i]? with
  | 0, some (some (.inl z)) => k (.inl z)
  | 1, some (some (.inr (.inl z))) => k (.inr (.inl z))
  | 2, some (some (.inr (.inr (some a)))) => k (.inr (.inr (some a)))
  | _, _ => False
def swA (z : Int) (J : Nat → Prop) : Int → List Nat → Prop
  | _, [] => True
  | lo, t :: ts => (z = lo → J t) ∧ swA z J (lo + 1) ts
def lkA (z : Int) (J : Nat → Prop) (d : Nat) : List (Int × Int) → List Nat → Prop
  | [], _ => J d
  | _, [] => False
  | (a, _) :: ps, t :: ts => (z = a → J t) ∧ (¬ z = a → lkA z J d ps ts)
def pushO : Option AV → List AV → List AV
  | some v, st => v :: st
  | none, st => st
def strS : List (List Int) := [[100, 68, 59], [100, 100, 100, 100, 100, 100, 59], [100, 68, 44, 100, 100, 59], [100, 100, 100, 59], [59], []]
/-- what each cell is: 0 .. 6 an object of that class, 10 ints, 11 longs, 12 booleans (how many); 13 a constant's bytes, 14 the script, 20 a constant; the reference's cells behind its object (38) -/
def shM : List (Nat × Nat) := [(10, 4), (10, 4), (10, 4), (10, 4), (10, 4), (10, 4), (10, 7), (10, 35), (10, 35), (10, 96), (10, 49), (10, 49), (10, 196), (10, 8), (10, 8), (10, 8), (11, 61), (11, 61), (12, 14884), (10, 21), (10, 397), (10, 397), (10, 4), (12, 28561), (10, 7442), (10, 12)]
def shT : List (Nat × Nat) := [(5, 0),
  (0, 0), (10, 4), (10, 4), (10, 4), (10, 4), (10, 4), (10, 4), (10, 4),
  (0, 0), (10, 4), (10, 4), (10, 4), (10, 4), (10, 4), (10, 4), (10, 4),
  (0, 0), (10, 4), (10, 4), (10, 4), (10, 4), (10, 4), (10, 4), (10, 4),
  (2, 0), (10, 96), (3, 0), (10, 8), (10, 8), (10, 8), (10, 12), (10, 7), (1, 0), (10, 1708), (4, 0), (11, 61), (10, 397),
  (6, 0)] ++ shM
def shA (k : Nat) : Nat × Nat := if k < 100 then (shT[k]?).getD (99, 0) else if 200 ≤ k ∧ k < 206 then (20, 0) else if 220 ≤ k ∧ k < 226 then (13, (strS.getD (k - 220) []).length) else if k = 300 then (14, 0) else (99, 0)
def exS (sc : Int → Int) (sl : Int) (T : AT) (J : AJ) (K : AK) (i : Instr) (x : List Nat) (L : LL) (st : List AV) (h : AH) (k : LL → List AV → AH → Prop) : Prop :=
  match i with
  | .nop => match x with
    | t :: _ => J t L st h
    | [] => False
  | .iconst n => k L (.inl n :: st) h
  | .bipush n => k L (.inl n :: st) h
  | .sipush n => k L (.inl n :: st) h
  | .lconst n => k L (.inr (.inl (n.val : Int)) :: st) h
  | .ldc _ => match x with
    | 0 :: a :: b :: _ => k L (.inl ((a : Int) - (b : Int)) :: st) h
    | [1, q] => k L (.inr (.inr (some (200 + q))) :: st) h
    | _ => False
  | .ldc_w _ => match x with
    | 0 :: a :: b :: _ => k L (.inl ((a : Int) - (b : Int)) :: st) h
    | _ => False
  | .ldc2_w _ => match x with
    | a :: b :: _ => k L (.inr (.inl ((a : Int) - (b : Int))) :: st) h
    | _ => False
  | .iload_n n => ldA 0 L n.val (fun v => k L (v :: st) h)
  | .iload n => ldA 0 L n (fun v => k L (v :: st) h)
  | .lload_n n => ldA 1 L n.val (fun v => k L (v :: st) h)
  | .lload n => ldA 1 L n (fun v => k L (v :: st) h)
  | .aload_n n => ldA 2 L n.val (fun v => k L (v :: st) h)
  | .aload n => ldA 2 L n (fun v => k L (v :: st) h)
  | .istore_n n => match st with
    | .inl z :: st => k (setL L n.val (.inl z)) st h
    | _ => False
  | .istore n => match st with
    | .inl z :: st => k (setL L n (.inl z)) st h
    | _ => False
  | .lstore_n n => match st with
    | .inr (.inl z) :: st => k (setL2 L n.val (.inr (.inl z))) st h
    | _ => False
  | .lstore n => match st with
    | .inr (.inl z) :: st => k (setL2 L n (.inr (.inl z))) st h
    | _ => False
  | .astore_n n => match st with
    | .inr (.inr (some a)) :: st => k (setL L n.val (.inr (.inr (some a)))) st h
    | _ => False
  | .astore n => match st with
    | .inr (.inr (some a)) :: st => k (setL L n (.inr (.inr (some a)))) st h
    | _ => False
  | .iinc n c => ldA 0 L n (fun v => match v with
    | .inl z => inI (z + c) ∧ k (setL L n (.inl (z + c))) st h
    | _ => False)
  | .iadd => match st with
    | .inl y :: .inl z :: st => match x with
      | [] => inI (z + y) ∧ k L (.inl (z + y) :: st) h
      | _ => k L (.inl (Int.bmod (z + y) 4294967296) :: st) h
    | _ => False
  | .isub => match st with
    | .inl y :: .inl z :: st => inI (z - y) ∧ k L (.inl (z - y) :: st) h
    | _ => False
  | .imul => match st with
    | .inl y :: .inl z :: st => match x with
      | [] => inI (z * y) ∧ k L (.inl (z * y) :: st) h
      | _ => k L (.inl (Int.bmod (z * y) 4294967296) :: st) h
    | _ => False
  | .idiv => match st with
    | .inl y :: .inl z :: st => 0 ≤ z ∧ 0 < y ∧ k L (.inl (z / y) :: st) h
    | _ => False
  | .irem => match st with
    | .inl y :: .inl z :: st => 0 ≤ z ∧ 0 < y ∧ k L (.inl (z % y) :: st) h
    | _ => False
  | .ineg => match st with
    | .inl z :: st => inI (-z) ∧ k L (.inl (-z) :: st) h
    | _ => False
  | .iand => match st with
    | .inl y :: .inl z :: st => match x with
      | [] => 0 ≤ z ∧ 0 ≤ y ∧ k L (.inl ((z.toNat &&& y.toNat : Nat) : Int) :: st) h
      | _ => y = 2147483647 ∧ k L (.inl (z % 2147483648) :: st) h
    | _ => False
  | .ior => match st with
    | .inl y :: .inl z :: st => 0 ≤ z ∧ 0 ≤ y ∧ k L (.inl ((z.toNat ||| y.toNat : Nat) : Int) :: st) h
    | _ => False
  | .ixor => match st with
    | .inl y :: .inl z :: st => 0 ≤ z ∧ 0 ≤ y ∧ k L (.inl ((z.toNat ^^^ y.toNat : Nat) : Int) :: st) h
    | _ => False
  | .ishl => match st with
    | .inl y :: .inl z :: st => 0 ≤ z ∧ 0 ≤ y ∧ y < 31 ∧ inI (z * 2 ^ y.toNat) ∧ k L (.inl (z * 2 ^ y.toNat) :: st) h
    | _ => False
  | .ishr => match st with
    | .inl y :: .inl z :: st => 0 ≤ z ∧ 0 ≤ y ∧ y < 31 ∧ k L (.inl (z / 2 ^ y.toNat) :: st) h
    | _ => False
  | .iushr => match st with
    | .inl y :: .inl z :: st => 0 ≤ z ∧ 0 ≤ y ∧ y < 31 ∧ k L (.inl (z / 2 ^ y.toNat) :: st) h
    | _ => False
  | .lshl => match st with
    | .inl y :: .inr (.inl z) :: st => 0 ≤ z ∧ 0 ≤ y ∧ y < 63 ∧ inL (z * 2 ^ y.toNat) ∧ k L (.inr (.inl (z * 2 ^ y.toNat)) :: st) h
    | _ => False
  | .ladd => match st with
    | .inr (.inl y) :: .inr (.inl z) :: st => inL (z + y) ∧ k L (.inr (.inl (z + y)) :: st) h
    | _ => False
  | .lsub => match st with
    | .inr (.inl y) :: .inr (.inl z) :: st => inL (z - y) ∧ k L (.inr (.inl (z - y)) :: st) h
    | _ => False
  | .lmul => match st with
    | .inr (.inl y) :: .inr (.inl z) :: st => inL (z * y) ∧ k L (.inr (.inl (z * y)) :: st) h
    | _ => False
  | .ldiv => match st with
    | .inr (.inl y) :: .inr (.inl z) :: st => 0 ≤ z ∧ 0 < y ∧ k L (.inr (.inl (z / y)) :: st) h
    | _ => False
  | .lrem => match st with
    | .inr (.inl y) :: .inr (.inl z) :: st => 0 ≤ z ∧ 0 < y ∧ k L (.inr (.inl (z % y)) :: st) h
    | _ => False
  | .lcmp => match st with
    | .inr (.inl y) :: .inr (.inl z) :: st => k L (.inl (lcz z y) :: st) h
    | _ => False
  | .i2l => match st with
    | .inl z :: st => k L (.inr (.inl z) :: st) h
    | _ => False
  | .l2i => match st with
    | .inr (.inl z) :: st => inI z ∧ k L (.inl z :: st) h
    | _ => False
  | .i2c => match st with
    | .inl z :: st => 0 ≤ z ∧ z < 65536 ∧ k L (.inl z :: st) h
    | _ => False
  | .pop => match st with
    | v :: st => catA v = 1 ∧ k L st h
    | _ => False
  | .dup => match st with
    | v :: st => catA v = 1 ∧ k L (v :: v :: st) h
    | _ => False
  | .dup2 => match st with
    | v :: w :: st => catA v = 1 ∧ catA w = 1 ∧ k L (v :: w :: v :: w :: st) h
    | _ => False
  | .dup_x1 => match st with
    | v :: w :: st => catA v = 1 ∧ catA w = 1 ∧ k L (v :: w :: v :: st) h
    | _ => False
  | .if_icmp c _ => match x, st with
    | t :: _, .inl y :: .inl z :: st => (cmpP c z y → J t L st h) ∧ (¬ cmpP c z y → k L st h)
    | _, _ => False
  | .ifCond c _ => match x, st with
    | t :: _, .inl z :: st => (cmpP c z 0 → J t L st h) ∧ (¬ cmpP c z 0 → k L st h)
    | _, _ => False
  | .goto _ => match x with
    | t :: _ => J t L st h
    | _ => False
  | .tableswitch _ lo hi _ => match x, st with
    | d :: ts, .inl z :: st => (z < lo ∨ hi < z → J d L st h) ∧ swA z (fun t => J t L st h) lo ts
    | _, _ => False
  | .lookupswitch _ ps => match x, st with
    | d :: ts, .inl z :: st => lkA z (fun t => J t L st h) d ps.toList ts
    | _, _ => False
  | .getstatic _ => match x with
    | 0 :: _ => k L (.inl 1 :: st) h
    | 1 :: _ => k L (.inr (.inr (some 240)) :: st) h
    | _ => False
  | .getfield _ => match x, st with
    | 0 :: c :: j :: _, .inr (.inr (some a)) :: st => (shA a).1 = c ∧ k L (.inl (h.1 a (j : Int)) :: st) h
    | 1 :: c :: _ :: o :: _, .inr (.inr (some a)) :: st => (shA a).1 = c ∧ k L (.inr (.inr (some (a + o))) :: st) h
    | 2 :: c :: j :: _, .inr (.inr (some a)) :: st => (shA a).1 = c ∧ k L (.inr (.inr (h.2.2 a (j : Int))) :: st) h
    | 3 :: _, .inr (.inr (some a)) :: st => (shA a).1 = 20 ∧ k L (.inl 0 :: st) h
    | _, _ => False
  | .putfield _ => match x, st with
    | 0 :: c :: j :: _, .inl z :: .inr (.inr (some a)) :: st => (shA a).1 = c ∧ k L st (upI h a (j : Int) z)
    | 2 :: c :: j :: _, .inr (.inr (some b)) :: .inr (.inr (some a)) :: st => (shA a).1 = c ∧ (shA b).1 = 10 ∧ k L st (upR h a (j : Int) (some b))
    | 3 :: c :: j :: _, .inl z :: .inr (.inr (some a)) :: st => (shA a).1 = c ∧ (z = 0 ∨ z = 1) ∧ k L st (upI h a (j : Int) z)
    | _, _ => False
  | .iaload => match x, st with
    | [], .inl i :: .inr (.inr (some a)) :: st => (shA a).1 = 10 ∧ 0 ≤ i ∧ i < ((shA a).2 : Int) ∧ k L (.inl (h.1 a i) :: st) h
    | _, .inl i :: .inr (.inr (some a)) :: st => (shA a).1 = 14 ∧ 0 ≤ i ∧ i < sl ∧ k L (.inl (sc i) :: st) h
    | _, _ => False
  | .iastore => match st with
    | .inl z :: .inl i :: .inr (.inr (some a)) :: st => (shA a).1 = 10 ∧ 0 ≤ i ∧ i < ((shA a).2 : Int) ∧ k L st (upI h a i z)
    | _ => False
  | .laload => match st with
    | .inl i :: .inr (.inr (some a)) :: st => (shA a).1 = 11 ∧ 0 ≤ i ∧ i < ((shA a).2 : Int) ∧ k L (.inr (.inl (h.2.1 a i)) :: st) h
    | _ => False
  | .lastore => match st with
    | .inr (.inl z) :: .inl i :: .inr (.inr (some a)) :: st => (shA a).1 = 11 ∧ 0 ≤ i ∧ i < ((shA a).2 : Int) ∧ k L st (upL h a i z)
    | _ => False
  | .baload => match x, st with
    | [], .inl i :: .inr (.inr (some a)) :: st => (shA a).1 = 12 ∧ 0 ≤ i ∧ i < ((shA a).2 : Int) ∧ k L (.inl (h.1 a i) :: st) h
    | _, .inl i :: .inr (.inr (some a)) :: st => (shA a).1 = 13 ∧ 0 ≤ i ∧ i < ((shA a).2 : Int) ∧ k L (.inl ((strS.getD (a - 220) []).getD i.toNat 0) :: st) h
    | _, _ => False
  | .bastore => match st with
    | .inl z :: .inl i :: .inr (.inr (some a)) :: st => (shA a).1 = 12 ∧ 0 ≤ i ∧ i < ((shA a).2 : Int) ∧ (z = 0 ∨ z = 1) ∧ k L st (upI h a i z)
    | _ => False
  | .arraylength => match x, st with
    | [], .inr (.inr (some a)) :: st => (shA a).1 = 13 ∧ k L (.inl ((shA a).2 : Int) :: st) h
    | _, .inr (.inr (some a)) :: st => (shA a).1 = 14 ∧ k L (.inl sl :: st) h
    | _, _ => False
  | .invokestatic _ => match x, st with
    | 0 :: _ :: [], .inl y :: .inl z :: st => catS st ≤ 8 ∧ k L (.inl (max z y) :: st) h
    | 1 :: _ :: [], .inl y :: .inl z :: st => catS st ≤ 8 ∧ k L (.inl (min z y) :: st) h
    | 2 :: _ :: [], .inl n :: .inl dp :: .inr (.inr (some b)) :: .inl sp :: .inr (.inr (some a)) :: st => catS st ≤ 8 ∧ (shA a).1 = 10 ∧ (shA b).1 = 10 ∧ 0 ≤ n ∧ 0 ≤ sp ∧ sp + n ≤ ((shA a).2 : Int) ∧ 0 ≤ dp ∧ dp + n ≤ ((shA b).2 : Int) ∧ k L st (cpI h a sp b dp n)
    | id :: n :: _ :: _, st => match popA n [] st with
      | some (as, st) => catS st ≤ 8 ∧ T id as h (fun r h' => k L (pushO r st) h')
      | none => False
    | _, _ => False
  | .invokevirtual _ => match x with
    | id :: n :: _ => match popA n [] st with
      | some (as, st) => catS st ≤ 8 ∧ T id as h (fun r h' => k L (pushO r st) h')
      | none => False
    | _ => False
  | .ireturn => match x, st with
    | [], .inl z :: [] => K (some (.inl z)) h
    | [1], .inl z :: [] => (z = 0 ∨ z = 1) ∧ K (some (.inl z)) h
    | [2], .inl z :: [] => (0 ≤ z ∧ z < 65536) ∧ K (some (.inl z)) h
    | [3], .inl z :: [] => z = 0 ∧ K (some (.inl z)) h
    | _, _ => False
  | .lreturn => match st with
    | .inr (.inl z) :: [] => K (some (.inr (.inl z))) h
    | _ => False
  | .areturn => match st with
    | .inr (.inr (some a)) :: [] => K (some (.inr (.inr (some a)))) h
    | _ => False
  | .return_ => match st with
    | [] => K none h
    | _ => False
  | _ => False
def ex (sc : Int → Int) (sl : Int) (T : AT) (J : AJ) (K : AK) : List RI → LL → List AV → AH → Prop
  | [], _, _, _ => False
  | r :: is, L, st, h => exS sc sl T J K r.1 r.2 L st h (fun L st h => ex sc sl T J K is L st h)
/-- from a block on: the least predicate closed under running a block -/
def Bx (sc : Int → Int) (sl : Int) (T : AT) (bs : List ABlk) (K : AK) (b : Nat) (L : LL) (st : List AV) (h : AH) : Prop :=
  ∀ P : AJ, (∀ (b : Nat) (q : ABlk) (L : LL) (st : List AV) (h : AH), bs[b]? = some q → ex sc sl T P K q.2.2 (maskL q.2.1 L) st h → P b L st h) → P b L st h
end
section
/-! ===== ints as Int: what the machine's operations do to Int32.ofInt, Int64.ofInt in range ===== -/
theorem am_t {z : Int} (h : inI z) : (Int32.ofInt z).toInt = z := Int32.toInt_ofInt_of_le h.1 (by have := h.2; omega)
theorem am_T {z : Int} (h : inL z) : (Int64.ofInt z).toInt = z := Int64.toInt_ofInt_of_le h.1 (by have := h.2; omega)
theorem am_r (x : Int32) : inI x.toInt := ⟨Int32.le_toInt x, by have := Int32.toInt_lt x; omega⟩
theorem am_R (x : Int64) : inL x.toInt := ⟨Int64.le_toInt x, by have := Int64.toInt_lt x; omega⟩
theorem am_oi (x : Int32) : Int32.ofInt x.toInt = x := Int32.ofInt_toInt x
theorem am_add (z y : Int) : Int32.ofInt z + Int32.ofInt y = Int32.ofInt (z + y) := (Int32.ofInt_add z y).symm
theorem am_sub (z y : Int) : Int32.ofInt z - Int32.ofInt y = Int32.ofInt (z - y) := (Int32.ofInt_sub z y).symm
theorem am_mul (z y : Int) : Int32.ofInt z * Int32.ofInt y = Int32.ofInt (z * y) := (Int32.ofInt_mul z y).symm
theorem am_neg (z : Int) : -Int32.ofInt z = Int32.ofInt (-z) := (Int32.ofInt_neg z).symm
theorem am_wrap (z : Int) : Int32.ofInt (Int.bmod z 4294967296) = Int32.ofInt z := by
  apply Int32.toInt_inj.mp
  rw [Int32.toInt_ofInt, Int32.toInt_ofInt]
  simp
theorem am_wrapI (z : Int) : inI (Int.bmod z 4294967296) := by
  have h1 := Int.le_bmod (x := z) (m := 4294967296) (by decide)
  have h2 := Int.bmod_lt (x := z) (m := 4294967296) (by decide)
  constructor <;> omega
theorem am_lt {z y : Int} (hz : inI z) (hy : inI y) : Int32.ofInt z < Int32.ofInt y ↔ z < y := by
  rw [Int32.lt_iff_toInt_lt, am_t hz, am_t hy]
theorem am_le {z y : Int} (hz : inI z) (hy : inI y) : Int32.ofInt z ≤ Int32.ofInt y ↔ z ≤ y := by
  rw [Int32.le_iff_toInt_le, am_t hz, am_t hy]
theorem am_eq {z y : Int} (hz : inI z) (hy : inI y) : Int32.ofInt z = Int32.ofInt y ↔ z = y := by
  rw [← Int32.toInt_inj, am_t hz, am_t hy]
theorem am_divI {z y : Int} (hz : inI z) (h0 : 0 ≤ z) (h1 : 0 < y) : inI (z / y) := by
  have a := Int.ediv_nonneg h0 (Int.le_of_lt h1)
  have b := Int.ediv_le_self y h0
  have := hz.2
  constructor <;> omega
theorem am_modI {z y : Int} (hy : inI y) (h1 : 0 < y) : inI (z % y) := by
  have a := Int.emod_nonneg z (show y ≠ 0 by omega)
  have b := Int.emod_lt_of_pos z h1
  have := hy.2
  constructor <;> omega
theorem am_div {z y : Int} (hz : inI z) (hy : inI y) (h0 : 0 ≤ z) (h1 : 0 < y) : Int32.ofInt z / Int32.ofInt y = Int32.ofInt (z / y) := by
  apply Int32.toInt_inj.mp
  have hq := am_divI hz h0 h1
  rw [Int32.toInt_div, am_t hz, am_t hy, am_t hq, Int.tdiv_eq_ediv_of_nonneg h0]
  exact Int.bmod_eq_of_le (by have := hq.1; omega) (by have := hq.2; omega)
theorem am_ne0 {y : Int} (hy : inI y) (h1 : 0 < y) : ¬ Int32.ofInt y = 0 := fun h => by
  have := (am_eq hy (⟨by decide, by decide⟩ : inI 0)).mp h
  omega
theorem am_rem {z y : Int} (hz : inI z) (hy : inI y) (h0 : 0 ≤ z) (h1 : 0 < y) : Int32.ofInt z - Int32.ofInt z / Int32.ofInt y * Int32.ofInt y = Int32.ofInt (z % y) := by
  rw [am_div hz hy h0 h1, am_mul, am_sub]
  congr 1
  have := Int.emod_def z y
  rw [this, Int.mul_comm y]
theorem am_nat (n : Nat) : Int32.ofInt (n : Int) = nI n := by
  show Int32.ofInt (n : Int) = Int32.ofNat n
  exact Int32.ofInt_eq_ofNat
theorem am_nn {z : Int} (h : 0 ≤ z) : Int32.ofInt z = nI z.toNat := by
  conv => lhs; rw [← Int.toNat_of_nonneg h]
  exact am_nat _
theorem am_natI {z : Int} (n : Nat) (hz : inI z) (h : (n : Int) ≤ z) : inI (n : Int) := by
  have := hz.2
  constructor <;> omega
theorem am_bnd (a b : Nat) (ha : a < 2 ^ 31) (hb : b < 2 ^ 31) : (a &&& b) < 2 ^ 31 ∧ (a ||| b) < 2 ^ 31 ∧ (a ^^^ b) < 2 ^ 31 := ⟨Nat.lt_of_le_of_lt Nat.and_le_left ha, Nat.or_lt_two_pow ha hb, Nat.xor_lt_two_pow ha hb⟩
theorem am_nlt {z : Int} (hz : inI z) (h : 0 ≤ z) : z.toNat < 2 ^ 31 := by have := hz.2; omega
theorem am_lti {n : Nat} (h : n < 2 ^ 31) : inI (n : Int) := by constructor <;> omega
theorem am_nbv (n : Nat) : (nI n).toBitVec = BitVec.ofNat 32 n := rfl
theorem am_and {z y : Int} (h0 : 0 ≤ z) (h1 : 0 ≤ y) : Int32.ofInt z &&& Int32.ofInt y = Int32.ofInt ((z.toNat &&& y.toNat : Nat) : Int) := by
  rw [am_nn h0, am_nn h1, am_nat]
  apply Int32.toBitVec_inj.mp
  rw [Int32.toBitVec_and, am_nbv, am_nbv, am_nbv, BitVec.ofNat_and]
theorem am_or {z y : Int} (h0 : 0 ≤ z) (h1 : 0 ≤ y) : Int32.ofInt z ||| Int32.ofInt y = Int32.ofInt ((z.toNat ||| y.toNat : Nat) : Int) := by
  rw [am_nn h0, am_nn h1, am_nat]
  apply Int32.toBitVec_inj.mp
  rw [Int32.toBitVec_or, am_nbv, am_nbv, am_nbv, BitVec.ofNat_or]
theorem am_xor {z y : Int} (h0 : 0 ≤ z) (h1 : 0 ≤ y) : Int32.ofInt z ^^^ Int32.ofInt y = Int32.ofInt ((z.toNat ^^^ y.toNat : Nat) : Int) := by
  rw [am_nn h0, am_nn h1, am_nat]
  apply Int32.toBitVec_inj.mp
  rw [Int32.toBitVec_xor, am_nbv, am_nbv, am_nbv, BitVec.ofNat_xor]
theorem am_mask (z : Int) : Int32.ofInt z &&& Int32.ofInt 2147483647 = Int32.ofInt (z % 2147483648) := by
  rw [pk_and (Int32.ofInt z) (m := Int32.ofInt 2147483647) 31 (by decide +kernel), am_nn (z := z % 2147483648) (by omega)]
  congr 1
  show (BitVec.ofInt 32 z).toNat % 2 ^ 31 = _
  rw [BitVec.toNat_ofInt]
  omega
theorem am_sh (m : Nat) (h : m < 31) : ((nI m &&& 31).toBitVec.smod 32).toNat = m ∧ (((nI m).toUInt32 &&& Int32.toUInt32 31).toBitVec % 32).toNat = m := by
  have : ∀ m : Fin 31, ((nI m.val &&& 31).toBitVec.smod 32).toNat = m.val ∧ (((nI m.val).toUInt32 &&& Int32.toUInt32 31).toBitVec % 32).toNat = m.val := by decide +kernel
  exact this ⟨m, h⟩
theorem am_shl {z y : Int} (h0 : 0 ≤ z) (h1 : 0 ≤ y) (h2 : y < 31) (hr : inI (z * 2 ^ y.toNat)) : Int32.ofInt z <<< (Int32.ofInt y &&& 31) = Int32.ofInt (z * 2 ^ y.toNat) := by
  have hp : 0 ≤ z * 2 ^ y.toNat := Int.mul_nonneg h0 (Int.pow_nonneg (by decide))
  have e : (z * 2 ^ y.toNat).toNat = z.toNat * 2 ^ y.toNat := by
    rw [Int.toNat_mul h0 (Int.pow_nonneg (by decide))]
    congr 1
  rw [am_nn h0, am_nn h1, am_nn hp, e]
  exact pk_shlN _ y.toNat (am_sh y.toNat (by omega)).1 (by rw [← e]; have := hr.2; omega)
theorem am_dn {z : Int} (h0 : 0 ≤ z) (k : Nat) : (z / 2 ^ k).toNat = z.toNat / 2 ^ k := by
  obtain ⟨n, rfl⟩ := Int.eq_ofNat_of_zero_le h0
  rw [show ((2 : Int) ^ k) = ((2 ^ k : Nat) : Int) from by simp, ← Int.natCast_ediv, Int.toNat_natCast, Int.toNat_natCast]
theorem am_shr {z y : Int} (hz : inI z) (h0 : 0 ≤ z) (h1 : 0 ≤ y) (h2 : y < 31) : Int32.ofInt z >>> (Int32.ofInt y &&& 31) = Int32.ofInt (z / 2 ^ y.toNat) := by
  have hp : 0 ≤ z / 2 ^ y.toNat := Int.ediv_nonneg h0 (Int.pow_nonneg (by decide))
  have e : (z / 2 ^ y.toNat).toNat = z.toNat / 2 ^ y.toNat := am_dn h0 _
  rw [am_nn h0, am_nn h1, am_nn hp, e]
  exact pk_shrN (am_nlt hz h0) _ y.toNat (am_sh y.toNat (by omega)).1
theorem am_ushr {z y : Int} (hz : inI z) (h0 : 0 ≤ z) (h1 : 0 ≤ y) (h2 : y < 31) : ((Int32.ofInt z).toUInt32 >>> ((Int32.ofInt y).toUInt32 &&& Int32.toUInt32 31)).toInt32 = Int32.ofInt (z / 2 ^ y.toNat) := by
  have hp : 0 ≤ z / 2 ^ y.toNat := Int.ediv_nonneg h0 (Int.pow_nonneg (by decide))
  have e : (z / 2 ^ y.toNat).toNat = z.toNat / 2 ^ y.toNat := am_dn h0 _
  rw [am_nn h0, am_nn h1, am_nn hp, e]
  exact pk_ushrN (Nat.lt_trans (am_nlt hz h0) (by decide)) _ y.toNat (am_sh y.toNat (by omega)).2
theorem am_shrI {z y : Int} (hz : inI z) (h0 : 0 ≤ z) : inI (z / 2 ^ y.toNat) := am_divI hz h0 (Int.pow_pos (by decide))
theorem am_Add (z y : Int) : Int64.ofInt z + Int64.ofInt y = Int64.ofInt (z + y) := (Int64.ofInt_add z y).symm
theorem am_Sub (z y : Int) : Int64.ofInt z - Int64.ofInt y = Int64.ofInt (z - y) := (Int64.ofInt_sub z y).symm
theorem am_Mul (z y : Int) : Int64.ofInt z * Int64.ofInt y = Int64.ofInt (z * y) := (Int64.ofInt_mul z y).symm
theorem am_Lt {z y : Int} (hz : inL z) (hy : inL y) : Int64.ofInt z < Int64.ofInt y ↔ z < y := by
  rw [Int64.lt_iff_toInt_lt, am_T hz, am_T hy]
theorem am_Eq {z y : Int} (hz : inL z) (hy : inL y) : Int64.ofInt z = Int64.ofInt y ↔ z = y := by
  rw [← Int64.toInt_inj, am_T hz, am_T hy]
theorem am_DivI {z y : Int} (hz : inL z) (h0 : 0 ≤ z) (h1 : 0 < y) : inL (z / y) := by
  have a := Int.ediv_nonneg h0 (Int.le_of_lt h1)
  have b := Int.ediv_le_self y h0
  have := hz.2
  constructor <;> omega
theorem am_ModI {z y : Int} (hy : inL y) (h1 : 0 < y) : inL (z % y) := by
  have a := Int.emod_nonneg z (show y ≠ 0 by omega)
  have b := Int.emod_lt_of_pos z h1
  have := hy.2
  constructor <;> omega
theorem am_Div {z y : Int} (hz : inL z) (hy : inL y) (h0 : 0 ≤ z) (h1 : 0 < y) : Int64.ofInt z / Int64.ofInt y = Int64.ofInt (z / y) := by
  apply Int64.toInt_inj.mp
  have hq := am_DivI hz h0 h1
  rw [Int64.toInt_div, am_T hz, am_T hy, am_T hq, Int.tdiv_eq_ediv_of_nonneg h0]
  exact Int.bmod_eq_of_le (by have := hq.1; omega) (by have := hq.2; omega)
theorem am_Ne0 {y : Int} (hy : inL y) (h1 : 0 < y) : ¬ Int64.ofInt y = 0 := fun h => by
  have := (am_Eq hy (⟨by decide, by decide⟩ : inL 0)).mp h
  omega
theorem am_Rem {z y : Int} (hz : inL z) (hy : inL y) (h0 : 0 ≤ z) (h1 : 0 < y) : Int64.ofInt z - Int64.ofInt z / Int64.ofInt y * Int64.ofInt y = Int64.ofInt (z % y) := by
  rw [am_Div hz hy h0 h1, am_Mul, am_Sub]
  congr 1
  have := Int.emod_def z y
  rw [this, Int.mul_comm y]
theorem am_cmp {z y : Int} (hz : inL z) (hy : inL y) : lg_cmp (Int64.ofInt z) (Int64.ofInt y) = Int32.ofInt (lcz z y) := by
  unfold lg_cmp lcz
  simp only [am_Lt hz hy, am_Lt hy hz, am_Eq hz hy]
  by_cases h1 : z < y
  · have : ¬ y < z := by omega
    have h3 : ¬ z = y := by omega
    simp [h1, this, h3]
  · by_cases h2 : z = y
    · subst h2; simp
    · have : y < z := by omega
      simp [h1, this, h2]
theorem am_lczI (z y : Int) : inI (lcz z y) := by
  unfold lcz inI
  split
  · decide
  · split <;> decide
theorem am_il {z : Int} (h : inI z) : (Int32.ofInt z).toInt64 = Int64.ofInt z := by
  apply Int64.toInt_inj.mp
  have : inL z := ⟨by have := h.1; omega, by have := h.2; omega⟩
  rw [Int32.toInt_toInt64, am_t h, am_T this]
theorem am_li {z : Int} : (Int64.ofInt z).toInt32 = Int32.ofInt z := by
  apply Int32.toInt_inj.mp
  rw [Int64.toInt_toInt32, Int64.toInt_ofInt, Int32.toInt_ofInt]
  exact Int.bmod_bmod_of_dvd (by decide)
theorem am_i2c {z : Int} (h0 : 0 ≤ z) (h1 : z < 65536) : ((Int32.ofInt z).toUInt32 % 65536).toInt32 = Int32.ofInt z := by
  rw [pk_char, am_nn h0]
  congr 1
  rw [am_nbv, BitVec.toNat_ofNat]
  omega
theorem am_Lsh (m : Nat) (h : m < 63) : ((nI m).toInt64 &&& 63).toBitVec.smod 64 = BitVec.ofNat 64 m := by
  have : ∀ m : Fin 63, ((nI m.val).toInt64 &&& 63).toBitVec.smod 64 = BitVec.ofNat 64 m.val := by decide +kernel
  exact this ⟨m, h⟩
theorem am_Nat (n : Nat) : Int64.ofInt (n : Int) = lN n := by
  show Int64.ofInt (n : Int) = Int64.ofNat n
  exact Int64.ofInt_eq_ofNat
theorem am_Nn {z : Int} (h : 0 ≤ z) : Int64.ofInt z = lN z.toNat := by
  conv => lhs; rw [← Int.toNat_of_nonneg h]
  exact am_Nat _
theorem am_Shl {z y : Int} (h0 : 0 ≤ z) (h1 : 0 ≤ y) (h2 : y < 63) (hz : inL z) (hr : inL (z * 2 ^ y.toNat)) : Int64.ofInt z <<< ((Int32.ofInt y).toInt64 &&& 63) = Int64.ofInt (z * 2 ^ y.toNat) := by
  have hp : 0 ≤ z * 2 ^ y.toNat := Int.mul_nonneg h0 (Int.pow_nonneg (by decide))
  have e : (z * 2 ^ y.toNat).toNat = z.toNat * 2 ^ y.toNat := by
    rw [Int.toNat_mul h0 (Int.pow_nonneg (by decide))]
    congr 1
  rw [am_Nn h0, am_nn h1, am_Nn hp, e]
  apply Int64.toBitVec_inj.mp
  rw [Int64.toBitVec_shiftLeft, am_Lsh y.toNat (by omega)]
  apply BitVec.eq_of_toNat_eq
  rw [BitVec.shiftLeft_eq', BitVec.toNat_shiftLeft, BitVec.toNat_ofNat, Nat.mod_eq_of_lt (show y.toNat < 2 ^ 64 by omega)]
  show (z.toNat % 2 ^ 64) <<< y.toNat % 2 ^ 64 = (z.toNat * 2 ^ y.toNat) % 2 ^ 64
  rw [Nat.shiftLeft_eq, Nat.mod_mul_mod]
theorem am_byte (b : Int) (h : 0 ≤ b) (h1 : b < 128) : narrow .byte (.int (Int32.ofInt b)) = .int (Int32.ofInt b) := by
  have : ∀ m : Fin 128, narrow .byte (.int (nI m.val)) = .int (nI m.val) := by decide +kernel
  rw [am_nn h]
  exact this ⟨b.toNat, by omega⟩
theorem am_bool {z : Int} (h : z = 0 ∨ z = 1) : narrow .boolean (.int (Int32.ofInt z)) = .int (Int32.ofInt z) := by
  rcases h with rfl | rfl <;> rfl
theorem am_char {z : Int} (h0 : 0 ≤ z) (h1 : z < 65536) : narrow .char (.int (Int32.ofInt z)) = .int (Int32.ofInt z) := by
  rw [am_nn h0]
  exact (pk_charN (by omega)).1
end
section
/-! ===== the abstract cells as cells of the machine ===== -/
def cv (ad : Nat → Nat) : AV → Value
  | .inl z => .int (Int32.ofInt z)
  | .inr (.inl z) => .long (Int64.ofInt z)
  | .inr (.inr none) => .null
  | .inr (.inr (some k)) => .ref (ad k)
def vOK : AV → Prop
  | .inl z => inI z
  | .inr (.inl z) => inL z
  | .inr (.inr _) => True
def hOK (h : AH) : Prop := (∀ k j, inI (h.1 k j)) ∧ ∀ k j, inL (h.2.1 k j)
theorem hOK.upI {h : AH} (hh : hOK h) {z : Int} (hz : inI z) (k : Nat) (j : Int) : hOK (upI h k j z) := by
  refine ⟨fun k' j' => ?_, hh.2⟩
  show inI (if k' = k ∧ j' = j then z else h.1 k' j')
  split
  · exact hz
  · exact hh.1 _ _
theorem hOK.upL {h : AH} (hh : hOK h) {z : Int} (hz : inL z) (k : Nat) (j : Int) : hOK (upL h k j z) := by
  refine ⟨hh.1, fun k' j' => ?_⟩
  show inL (if k' = k ∧ j' = j then z else h.2.1 k' j')
  split
  · exact hz
  · exact hh.2 _ _
theorem hOK.upR {h : AH} (hh : hOK h) (k : Nat) (j : Int) (r : Option Nat) : hOK (upR h k j r) := hh
theorem hOK.cpI {h : AH} (hh : hOK h) (a : Nat) (sp : Int) (b : Nat) (dp n : Int) : hOK (cpI h a sp b dp n) := by
  refine ⟨fun k' j' => ?_, hh.2⟩
  show inI (if k' = b ∧ dp ≤ j' ∧ j' < dp + n then h.1 a (sp + (j' - dp)) else h.1 k' j')
  split <;> exact hh.1 _ _
/-- the fields: 0 a number, 1 a final reference to the cell so far behind, 2 a reference that changes -/
def fdT : List (List (Nat × Nat)) := [
  [(0, 0), (1, 1), (1, 2), (0, 0), (1, 3), (1, 4), (1, 5), (1, 6), (0, 0), (0, 0), (0, 0), (0, 0), (0, 0), (1, 7)],
  [(1, 1)],
  [(1, 1), (0, 0)],
  [(1, 1), (1, 2), (1, 3), (0, 0)],
  [(1, 1), (1, 2)],
  [(1, 1), (1, 9), (1, 17), (0, 0), (1, 25), (1, 27), (1, 31), (0, 0), (1, 32), (1, 33), (1, 35)],
  [(0, 0), (0, 0), (0, 0), (0, 0), (0, 0), (0, 0), (1, 1), (1, 2), (1, 3), (1, 4), (1, 5), (1, 6), (0, 0), (1, 7), (1, 8), (1, 9), (0, 0), (0, 0), (0, 0), (2, 0), (1, 10), (0, 0), (0, 0), (0, 0), (0, 0), (1, 11), (1, 12), (1, 13), (1, 14), (1, 15), (1, 16), (0, 0), (1, 17), (1, 18), (1, 19), (1, 20), (1, 21), (1, 22), (1, 23), (0, 0), (1, 24), (1, 25), (1, 26), (0, 0), (0, 0)]]
def fdK (c j : Nat) : Nat × Nat := (fdT.getD c []).getD j (9, 0)
def cN (c : Nat) : Nat := (fdT.getD c []).length
def fv (ad : Nat → Nat) (h : AH) (k c j : Nat) : Value := match fdK c j with
  | (0, _) => .int (Int32.ofInt (h.1 k (j : Int)))
  | (1, o) => .ref (ad (k + o))
  | _ => cv ad (.inr (.inr (h.2.2 k (j : Int))))
def cellE (ad : Nat → Nat) (G : ClassId × (ClassId × ClassId)) (h : AH) (k : Nat) : va_E := match (shA k).1 with
  | 10 => .inl (G.1, (shA k).2, .inl (fun j => Int32.ofInt (h.1 k (j : Int))))
  | 11 => .inl (G.2.1, (shA k).2, .inr (.inl (fun j => Int64.ofInt (h.2.1 k (j : Int)))))
  | 12 => .inl (G.2.2, (shA k).2, .inl (fun j => Int32.ofInt (h.1 k (j : Int))))
  | c => .inr (c, (List.range (cN c)).map (fun j => fv ad h k c j))
def wl (ad : Nat → Nat) (G : ClassId × (ClassId × ClassId)) (h : AH) : va_W := (List.range 65).map (fun k => (ad k, cellE ad G h k))
theorem wl_get {ad : Nat → Nat} {G : ClassId × (ClassId × ClassId)} {h : AH} {k : Nat} (hk : k < 65) : (wl ad G h)[k]? = some (ad k, cellE ad G h k) := by
  unfold wl
  rw [List.getElem?_map, List.getElem?_range hk]
  rfl
theorem map_set {α : Type} {n j : Nat} {f f' : Nat → α} (hf : ∀ i, i ≠ j → f' i = f i) : ((List.range n).map f).set j (f' j) = (List.range n).map f' := by
  apply List.ext_getElem?
  intro i
  rw [List.getElem?_set, List.getElem?_map, List.getElem?_map]
  by_cases hij : j = i
  · subst hij
    simp only [List.length_map, List.length_range, if_true]
    by_cases hn : j < n
    · rw [List.getElem?_range hn]; simp [hn]
    · rw [List.getElem?_eq_none (by simp; omega)]; simp [hn]
  · rw [if_neg hij]
    by_cases hn : i < n
    · rw [List.getElem?_range hn]; simp [hf i (Ne.symm hij)]
    · rw [List.getElem?_eq_none (by simp; omega)]; rfl
theorem wl_set {ad : Nat → Nat} {G : ClassId × (ClassId × ClassId)} {h h' : AH} {k : Nat} (hf : ∀ i, i ≠ k → cellE ad G h' i = cellE ad G h i) : (wl ad G h).set k (ad k, cellE ad G h' k) = wl ad G h' :=
  map_set (f := fun k => (ad k, cellE ad G h k)) (f' := fun k => (ad k, cellE ad G h' k)) (fun i hi => by rw [hf i hi])
theorem fv_congr {ad : Nat → Nat} {h h' : AH} {k c j : Nat} (h1 : h'.1 k (j : Int) = h.1 k (j : Int)) (h3 : h'.2.2 k (j : Int) = h.2.2 k (j : Int)) : fv ad h' k c j = fv ad h k c j := by
  unfold fv
  rw [h1, h3]
theorem cellE_congr {ad : Nat → Nat} {G : ClassId × (ClassId × ClassId)} {h h' : AH} {k : Nat} (h1 : h'.1 k = h.1 k) (h2 : h'.2.1 k = h.2.1 k) (h3 : h'.2.2 k = h.2.2 k) : cellE ad G h' k = cellE ad G h k := by
  unfold cellE
  simp only [h1, h2, fv, h3]
theorem shA_lt {k c : Nat} (h : (shA k).1 = c) (hc : c < 13) : k < 65 := by
  unfold shA at h
  by_cases h1 : k < 100
  · rw [if_pos h1] at h
    by_cases h2 : k < 65
    · exact h2
    · rw [List.getElem?_eq_none (show shT.length ≤ k from by show 65 ≤ k; omega)] at h
      simp at h
      omega
  · rw [if_neg h1] at h
    by_cases h2 : 200 ≤ k ∧ k < 206
    · rw [if_pos h2] at h; simp at h; omega
    · rw [if_neg h2] at h
      by_cases h3 : 220 ≤ k ∧ k < 226
      · rw [if_pos h3] at h; simp at h; omega
      · rw [if_neg h3] at h
        by_cases h4 : k = 300
        · rw [if_pos h4] at h; simp at h; omega
        · rw [if_neg h4] at h; simp at h; omega
theorem cell10 {ad : Nat → Nat} {G : ClassId × (ClassId × ClassId)} {h : AH} {k : Nat} (hs : (shA k).1 = 10) : cellE ad G h k = .inl (G.1, (shA k).2, .inl (fun j => Int32.ofInt (h.1 k (j : Int)))) := by
  unfold cellE; rw [hs]; rfl
theorem cell11 {ad : Nat → Nat} {G : ClassId × (ClassId × ClassId)} {h : AH} {k : Nat} (hs : (shA k).1 = 11) : cellE ad G h k = .inl (G.2.1, (shA k).2, .inr (.inl (fun j => Int64.ofInt (h.2.1 k (j : Int))))) := by
  unfold cellE; rw [hs]; rfl
theorem cell12 {ad : Nat → Nat} {G : ClassId × (ClassId × ClassId)} {h : AH} {k : Nat} (hs : (shA k).1 = 12) : cellE ad G h k = .inl (G.2.2, (shA k).2, .inl (fun j => Int32.ofInt (h.1 k (j : Int)))) := by
  unfold cellE; rw [hs]; rfl
theorem cellO {ad : Nat → Nat} {G : ClassId × (ClassId × ClassId)} {h : AH} {k c : Nat} (hs : (shA k).1 = c) (hc : c < 7) : cellE ad G h k = .inr (c, (List.range (cN c)).map (fun j => fv ad h k c j)) := by
  unfold cellE; rw [hs]
  split
  · omega
  · omega
  · omega
  · rfl
theorem fld_get {ad : Nat → Nat} {h : AH} {k c j : Nat} (hj : j < cN c) : ((List.range (cN c)).map (fun j => fv ad h k c j))[j]? = some (fv ad h k c j) := by
  rw [List.getElem?_map, List.getElem?_range hj]; rfl
theorem upI_ne {h : AH} {k i : Nat} {j z : Int} (hi : i ≠ k) : (upI h k j z).1 i = h.1 i := by
  funext j'
  show (if i = k ∧ j' = j then z else h.1 i j') = _
  rw [if_neg (fun q => hi q.1)]
theorem upI_nej {h : AH} {k : Nat} {j j' z : Int} (hi : j' ≠ j) : (upI h k j z).1 k j' = h.1 k j' := by
  show (if k = k ∧ j' = j then z else h.1 k j') = _
  rw [if_neg (fun q => hi q.2)]
theorem upI_at {h : AH} {k : Nat} {j z : Int} : (upI h k j z).1 k j = z := by
  show (if k = k ∧ j = j then z else h.1 k j) = _
  rw [if_pos ⟨rfl, rfl⟩]
theorem wl_upI {ad : Nat → Nat} {G : ClassId × (ClassId × ClassId)} {h : AH} {k c j : Nat} {z : Int} (hs : (shA k).1 = c) (hc : c < 7) (hj : (fdK c j).1 = 0) : (wl ad G h).set k (ad k, .inr (c, ((List.range (cN c)).map (fun j => fv ad h k c j)).set j (.int (Int32.ofInt z)))) = wl ad G (upI h k (j : Int) z) := by
  rw [← wl_set (h := h) (h' := upI h k (j : Int) z) (k := k) (fun i hi => cellE_congr (upI_ne hi) rfl rfl), cellO hs hc]
  congr 3
  have e : fv ad (upI h k (j : Int) z) k c j = .int (Int32.ofInt z) := by
    unfold fv
    split
    · rw [upI_at]
    · next o ho => rw [ho] at hj; simp at hj
    · next h0 h1 => 
      exfalso
      exact h0 (fdK c j).2 (by rw [← hj])
  congr 1
  rw [← e]
  exact map_set (j := j) (f := fun i => fv ad h k c i) (f' := fun i => fv ad (upI h k (j : Int) z) k c i) (fun i hi => fv_congr (upI_nej (j := (j : Int)) (j' := (i : Int)) (by omega)) rfl)
theorem upR_ne {h : AH} {k i : Nat} {j : Int} {r : Option Nat} (hi : i ≠ k) : (upR h k j r).2.2 i = h.2.2 i := by
  funext j'
  show (if i = k ∧ j' = j then r else h.2.2 i j') = _
  rw [if_neg (fun q => hi q.1)]
theorem upR_nej {h : AH} {k : Nat} {j j' : Int} {r : Option Nat} (hi : j' ≠ j) : (upR h k j r).2.2 k j' = h.2.2 k j' := by
  show (if k = k ∧ j' = j then r else h.2.2 k j') = _
  rw [if_neg (fun q => hi q.2)]
theorem upR_at {h : AH} {k : Nat} {j : Int} {r : Option Nat} : (upR h k j r).2.2 k j = r := by
  show (if k = k ∧ j = j then r else h.2.2 k j) = _
  rw [if_pos ⟨rfl, rfl⟩]
theorem upL_ne {h : AH} {k i : Nat} {j z : Int} (hi : i ≠ k) : (upL h k j z).2.1 i = h.2.1 i := by
  funext j'
  show (if i = k ∧ j' = j then z else h.2.1 i j') = _
  rw [if_neg (fun q => hi q.1)]
theorem upL_nej {h : AH} {k : Nat} {j j' z : Int} (hi : j' ≠ j) : (upL h k j z).2.1 k j' = h.2.1 k j' := by
  show (if k = k ∧ j' = j then z else h.2.1 k j') = _
  rw [if_neg (fun q => hi q.2)]
theorem upL_at {h : AH} {k : Nat} {j z : Int} : (upL h k j z).2.1 k j = z := by
  show (if k = k ∧ j = j then z else h.2.1 k j) = _
  rw [if_pos ⟨rfl, rfl⟩]
theorem wl_upR {ad : Nat → Nat} {G : ClassId × (ClassId × ClassId)} {h : AH} {k c j : Nat} {r : Option Nat} (hs : (shA k).1 = c) (hc : c < 7) (hj : (fdK c j).1 = 2) : (wl ad G h).set k (ad k, .inr (c, ((List.range (cN c)).map (fun j => fv ad h k c j)).set j (cv ad (.inr (.inr r))))) = wl ad G (upR h k (j : Int) r) := by
  rw [← wl_set (h := h) (h' := upR h k (j : Int) r) (k := k) (fun i hi => cellE_congr rfl rfl (upR_ne hi)), cellO hs hc]
  congr 3
  have e : fv ad (upR h k (j : Int) r) k c j = cv ad (.inr (.inr r)) := by
    unfold fv
    split
    · next o ho => rw [ho] at hj; simp at hj
    · next o ho => rw [ho] at hj; simp at hj
    · rw [upR_at]
  rw [← e]
  congr 1
  exact map_set (j := j) (f := fun i => fv ad h k c i) (f' := fun i => fv ad (upR h k (j : Int) r) k c i) (fun i hi => fv_congr rfl (upR_nej (j := (j : Int)) (j' := (i : Int)) (by omega)))
theorem tn_clamp {i : Int} (hi : inI i) : (Int32.ofInt i).toNatClampNeg = i.toNat := by
  rw [Int32.toNatClampNeg, am_t hi]
theorem upd_eq {f : Nat → Int → Int} {k : Nat} {i z : Int} (h0 : 0 ≤ i) (hi : inI i) : upd (fun j => Int32.ofInt (f k (j : Int))) (Int32.ofInt i).toNatClampNeg (Int32.ofInt z) = fun j : Nat => Int32.ofInt (if k = k ∧ (j : Int) = i then z else f k (j : Int)) := by
  funext j
  rw [tn_clamp hi]
  by_cases hj : j = i.toNat
  · rw [hj, pk_us, if_pos ⟨rfl, by omega⟩]
  · rw [pk_un hj, if_neg (fun q => hj (by omega))]
theorem updL_eq {f : Nat → Int → Int} {k : Nat} {i z : Int} (h0 : 0 ≤ i) (hi : inI i) : vp_updL (fun j => Int64.ofInt (f k (j : Int))) (Int32.ofInt i).toNatClampNeg (Int64.ofInt z) = fun j : Nat => Int64.ofInt (if k = k ∧ (j : Int) = i then z else f k (j : Int)) := by
  funext j
  rw [tn_clamp hi]
  by_cases hj : j = i.toNat
  · rw [hj, pk_uLs, if_pos ⟨rfl, by omega⟩]
  · rw [pk_uLn hj, if_neg (fun q => hj (by omega))]
theorem wl_ai {ad : Nat → Nat} {G : ClassId × (ClassId × ClassId)} {h : AH} {k : Nat} {i z : Int} (hs : (shA k).1 = 10) (h0 : 0 ≤ i) (hi : inI i) : (wl ad G h).set k (ad k, .inl (G.1, (shA k).2, .inl (upd (fun j => Int32.ofInt (h.1 k (j : Int))) (Int32.ofInt i).toNatClampNeg (Int32.ofInt z)))) = wl ad G (upI h k i z) := by
  rw [← wl_set (h := h) (h' := upI h k i z) (k := k) (fun i hi => cellE_congr (upI_ne hi) rfl rfl), cell10 hs, upd_eq (f := h.1) h0 hi]
  rfl
theorem wl_az {ad : Nat → Nat} {G : ClassId × (ClassId × ClassId)} {h : AH} {k : Nat} {i z : Int} (hs : (shA k).1 = 12) (h0 : 0 ≤ i) (hi : inI i) : (wl ad G h).set k (ad k, .inl (G.2.2, (shA k).2, .inl (upd (fun j => Int32.ofInt (h.1 k (j : Int))) (Int32.ofInt i).toNatClampNeg (Int32.ofInt z)))) = wl ad G (upI h k i z) := by
  rw [← wl_set (h := h) (h' := upI h k i z) (k := k) (fun i hi => cellE_congr (upI_ne hi) rfl rfl), cell12 hs, upd_eq (f := h.1) h0 hi]
  rfl
theorem wl_al {ad : Nat → Nat} {G : ClassId × (ClassId × ClassId)} {h : AH} {k : Nat} {i z : Int} (hs : (shA k).1 = 11) (h0 : 0 ≤ i) (hi : inI i) : (wl ad G h).set k (ad k, .inl (G.2.1, (shA k).2, .inr (.inl (vp_updL (fun j => Int64.ofInt (h.2.1 k (j : Int))) (Int32.ofInt i).toNatClampNeg (Int64.ofInt z))))) = wl ad G (upL h k i z) := by
  rw [← wl_set (h := h) (h' := upL h k i z) (k := k) (fun i hi => cellE_congr rfl (upL_ne hi) rfl), cell11 hs, updL_eq (f := h.2.1) h0 hi]
  rfl
theorem wl_cp {ad : Nat → Nat} {G : ClassId × (ClassId × ClassId)} {h : AH} {a b : Nat} {sp dp n : Int} (hs : (shA b).1 = 10) (h1 : 0 ≤ sp) (h2 : 0 ≤ dp) (h3 : 0 ≤ n) : (wl ad G h).set b (ad b, .inl (G.1, (shA b).2, .inl (va_cpy (fun j => Int32.ofInt (h.1 a (j : Int))) (fun j => Int32.ofInt (h.1 b (j : Int))) sp.toNat dp.toNat n.toNat))) = wl ad G (cpI h a sp b dp n) := by
  have hne : ∀ i, i ≠ b → (cpI h a sp b dp n).1 i = h.1 i := fun i hi => by
    funext j'
    show (if i = b ∧ dp ≤ j' ∧ j' < dp + n then h.1 a (sp + (j' - dp)) else h.1 i j') = _
    rw [if_neg (fun q => hi q.1)]
  rw [← wl_set (h := h) (h' := cpI h a sp b dp n) (k := b) (fun i hi => cellE_congr (hne i hi) rfl rfl), cell10 hs]
  have e : va_cpy (fun j => Int32.ofInt (h.1 a (j : Int))) (fun j => Int32.ofInt (h.1 b (j : Int))) sp.toNat dp.toNat n.toNat = fun j : Nat => Int32.ofInt ((cpI h a sp b dp n).1 b (j : Int)) := by
    funext j
    show (if dp.toNat ≤ j ∧ j < dp.toNat + n.toNat then Int32.ofInt (h.1 a ((sp.toNat + (j - dp.toNat) : Nat) : Int)) else Int32.ofInt (h.1 b (j : Int))) = Int32.ofInt (if b = b ∧ dp ≤ (j : Int) ∧ (j : Int) < dp + n then h.1 a (sp + ((j : Int) - dp)) else h.1 b (j : Int))
    by_cases hj : dp.toNat ≤ j ∧ j < dp.toNat + n.toNat
    · rw [if_pos hj, if_pos ⟨rfl, by omega, by omega⟩, show ((sp.toNat + (j - dp.toNat) : Nat) : Int) = sp + ((j : Int) - dp) from by omega]
    · rw [if_neg hj, if_neg (fun q => hj (by omega))]
  rw [e]
theorem vp_inO {i : Int} {n : Nat} (hi : inI i) (h0 : 0 ≤ i) (h1 : i < (n : Int)) : vp_in (Int32.ofInt i) n := vp_in_iff.mpr ⟨by rw [am_t hi]; exact h0, by rw [am_t hi]; exact h1⟩
theorem rd_eq {f : Nat → Int → Int} {k : Nat} {i : Int} (h0 : 0 ≤ i) (hi : inI i) : f k (((Int32.ofInt i).toNatClampNeg : Nat) : Int) = f k i := by
  rw [tn_clamp hi, Int.toNat_of_nonneg h0]
/-! locals -/
def LH (ad : Nat → Nat) (ls : Array Slot) (nL : Nat) (L : LL) : Prop := ls.size = nL ∧ lv_wf ls ∧ ∀ (i : Nat) (v : AV), L[i]? = some (some v) → ls[i]? = some (.val (cv ad v))
def lvOf (ad : Nat → Nat) (L : LL) : List (Nat × Value) := (List.range L.length).filterMap (fun i => match L[i]? with
  | some (some v) => some (i, cv ad v)
  | _ => none)
theorem lvOf_mem {ad : Nat → Nat} {L : LL} {i : Nat} {v : AV} (h : L[i]? = some (some v)) : (i, cv ad v) ∈ lvOf ad L :=
  List.mem_filterMap.mpr ⟨i, List.mem_range.mpr (List.getElem?_eq_some_iff.mp h).1, by simp only [h]⟩
theorem LH.has {ad : Nat → Nat} {ls : Array Slot} {nL : Nat} {L : LL} (h : LH ad ls nL L) : lv_has ls nL (lvOf ad L) := by
  refine ⟨h.1, h.2.1, fun q hq => ?_⟩
  obtain ⟨i, hi, h1⟩ := List.mem_filterMap.mp hq
  revert h1
  split
  · next v hv => intro h1; cases h1; exact h.2.2 i v hv
  · intro h1; cases h1
theorem cat_cv {ad : Nat → Nat} (v : AV) : (cv ad v).category = catA v := by
  match v with
  | .inl z => rfl
  | .inr (.inl z) => rfl
  | .inr (.inr none) => rfl
  | .inr (.inr (some k)) => rfl
theorem setL_get : ∀ (L : LL) (n : Nat) (v : AV) (i : Nat) (w : AV), (setL L n v)[i]? = some (some w) → (i = n ∧ w = v) ∨ (i ≠ n ∧ L[i]? = some (some w) ∧ (i + 1 = n → catA w = 1))
  | [], n, v, i, w, h => by simp [setL] at h
  | x :: L, 0, v, i, w, h => by
    cases i with
    | zero => simp [setL] at h; exact Or.inl ⟨rfl, h.symm⟩
    | succ i => simp [setL] at h; exact Or.inr ⟨by omega, by simpa using h, fun q => by omega⟩
  | x :: L, 1, v, i, w, h => by
    cases i with
    | zero =>
      simp only [setL, List.getElem?_cons_zero, Option.some.injEq] at h
      split at h
      · cases h
      · next hn =>
        subst h
        refine Or.inr ⟨by omega, rfl, fun _ => ?_⟩
        match w with
        | .inl z => rfl
        | .inr (.inl z) => simp [isLg] at hn
        | .inr (.inr r) => rfl
    | succ i =>
      simp only [setL, List.getElem?_cons_succ] at h
      rcases setL_get L 0 v i w h with ⟨a, b⟩ | ⟨a, b, c⟩
      · exact Or.inl ⟨by omega, b⟩
      · exact Or.inr ⟨by omega, by simpa using b, fun q => by omega⟩
  | x :: L, n + 2, v, i, w, h => by
    cases i with
    | zero =>
      simp only [setL, List.getElem?_cons_zero] at h
      exact Or.inr ⟨by omega, by simpa using h, fun q => by omega⟩
    | succ i =>
      simp only [setL, List.getElem?_cons_succ] at h
      rcases setL_get L (n + 1) v i w h with ⟨a, b⟩ | ⟨a, b, c⟩
      · exact Or.inl ⟨by omega, b⟩
      · exact Or.inr ⟨by omega, by simpa using b, fun q => c (by omega)⟩
theorem setL2_get : ∀ (L : LL) (n : Nat) (v : AV) (i : Nat) (w : AV), (setL2 L n v)[i]? = some (some w) → (i = n ∧ w = v) ∨ (i ≠ n ∧ i ≠ n + 1 ∧ L[i]? = some (some w) ∧ (i + 1 = n → catA w = 1))
  | [], n, v, i, w, h => by simp [setL2] at h
  | [x], 0, v, i, w, h => by
    cases i with
    | zero => simp [setL2] at h; exact Or.inl ⟨rfl, h.symm⟩
    | succ i => simp [setL2] at h
  | x :: y :: L, 0, v, i, w, h => by
    match i with
    | 0 => simp [setL2] at h; exact Or.inl ⟨rfl, h.symm⟩
    | 1 => simp [setL2] at h
    | i + 2 => simp [setL2] at h; exact Or.inr ⟨by omega, by omega, by simpa using h, fun q => by omega⟩
  | x :: L, 1, v, i, w, h => by
    cases i with
    | zero =>
      simp only [setL2, List.getElem?_cons_zero, Option.some.injEq] at h
      split at h
      · cases h
      · next hn =>
        subst h
        refine Or.inr ⟨by omega, by omega, rfl, fun _ => ?_⟩
        match w with
        | .inl z => rfl
        | .inr (.inl z) => simp [isLg] at hn
        | .inr (.inr r) => rfl
    | succ i =>
      simp only [setL2, List.getElem?_cons_succ] at h
      rcases setL2_get L 0 v i w h with ⟨a, b⟩ | ⟨a, a2, b, c⟩
      · exact Or.inl ⟨by omega, b⟩
      · exact Or.inr ⟨by omega, by omega, by simpa using b, fun q => by omega⟩
  | x :: L, n + 2, v, i, w, h => by
    cases i with
    | zero =>
      simp only [setL2, List.getElem?_cons_zero] at h
      exact Or.inr ⟨by omega, by omega, by simpa using h, fun q => by omega⟩
    | succ i =>
      simp only [setL2, List.getElem?_cons_succ] at h
      rcases setL2_get L (n + 1) v i w h with ⟨a, b⟩ | ⟨a, a2, b, c⟩
      · exact Or.inl ⟨by omega, b⟩
      · exact Or.inr ⟨by omega, by omega, by simpa using b, fun q => c (by omega)⟩
theorem LH.set {ad : Nat → Nat} {ls ls' : Array Slot} {nL n : Nat} {L : LL} {v : AV} (h : lv_has ls' nL ((n, cv ad v) :: (lvOf ad L).filter (fun q => !(q.1 == n) && !(q.1 + 1 == n && q.2.category == 2)))) : LH ad ls' nL (setL L n v) := by
  refine ⟨h.1, h.2.1, fun i w hw => ?_⟩
  rcases setL_get L n v i w hw with ⟨a, b⟩ | ⟨a, b, c⟩
  · subst a; subst b
    exact h.2.2 _ List.mem_cons_self
  · refine h.2.2 (i, cv ad w) (List.mem_cons_of_mem _ (List.mem_filter.mpr ⟨lvOf_mem b, ?_⟩))
    by_cases hc : i + 1 = n
    · have h2 := c hc
      simp [a, cat_cv, h2]
    · simp [a, hc]
theorem LH.set2 {ad : Nat → Nat} {ls ls' : Array Slot} {nL n : Nat} {L : LL} {v : AV} (h : lv_has ls' nL ((n, cv ad v) :: (lvOf ad L).filter (fun q => !(q.1 == n) && (!(q.1 == n + 1) && !(q.1 + 1 == n && q.2.category == 2))))) : LH ad ls' nL (setL2 L n v) := by
  refine ⟨h.1, h.2.1, fun i w hw => ?_⟩
  rcases setL2_get L n v i w hw with ⟨a, b⟩ | ⟨a, a2, b, c⟩
  · subst a; subst b
    exact h.2.2 _ List.mem_cons_self
  · refine h.2.2 (i, cv ad w) (List.mem_cons_of_mem _ (List.mem_filter.mpr ⟨lvOf_mem b, ?_⟩))
    by_cases hc : i + 1 = n
    · have h2 := c hc
      simp [a, a2, cat_cv, h2]
    · simp [a, a2, hc]
theorem maskL_get : ∀ (bs : List Bool) (L : LL) (i : Nat) (w : AV), (maskL bs L)[i]? = some (some w) → L[i]? = some (some w)
  | [], L, i, w, h => by simp [maskL] at h
  | b :: bs, [], i, w, h => by
    cases i with
    | zero => simp [maskL] at h
    | succ i =>
      simp only [maskL, List.getElem?_cons_succ] at h
      exact absurd (maskL_get bs [] i w h) (by simp)
  | b :: bs, x :: L, i, w, h => by
    cases i with
    | zero =>
      simp only [maskL, List.getElem?_cons_zero, Option.some.injEq] at h
      split at h
      · subst h; rfl
      · cases h
    | succ i =>
      simp only [maskL, List.getElem?_cons_succ] at h
      simpa using maskL_get bs L i w h
theorem LH.mask {ad : Nat → Nat} {ls : Array Slot} {nL : Nat} {L : LL} (h : LH ad ls nL L) (bs : List Bool) : LH ad ls nL (maskL bs L) := ⟨h.1, h.2.1, fun i v hv => h.2.2 i v (maskL_get bs L i v hv)⟩
theorem entL_get {ad : Nat → Nat} : ∀ (vs : List AV) (i : Nat) (w : AV) (j : Nat), (entL vs)[i]? = some (some w) → (j + i, cv ad w) ∈ lv_args j (vs.map (cv ad))
  | [], i, w, j, h => by simp [entL] at h
  | .inr (.inl z) :: vs, i, w, j, h => by
    match i with
    | 0 => simp [entL] at h; subst h; exact List.mem_cons_self
    | 1 => simp [entL] at h
    | i + 2 =>
      simp only [entL, List.getElem?_cons_succ] at h
      have := entL_get (ad := ad) vs i w (j + 2) h
      refine List.mem_cons_of_mem _ ?_
      rw [if_pos (show (cv ad (.inr (.inl z))).category = 2 from rfl), show j + (i + 2) = j + 2 + i from by omega]
      exact this
  | .inl z :: vs, i, w, j, h => by
    match i with
    | 0 => simp [entL] at h; subst h; exact List.mem_cons_self
    | i + 1 =>
      simp only [entL, List.getElem?_cons_succ] at h
      have := entL_get (ad := ad) vs i w (j + 1) h
      refine List.mem_cons_of_mem _ ?_
      rw [if_neg (by rw [cat_cv]; show ¬ 1 = 2; decide), show j + (i + 1) = j + 1 + i from by omega]
      exact this
  | .inr (.inr r) :: vs, i, w, j, h => by
    match i with
    | 0 => simp [entL] at h; subst h; exact List.mem_cons_self
    | i + 1 =>
      simp only [entL, List.getElem?_cons_succ] at h
      have := entL_get (ad := ad) vs i w (j + 1) h
      refine List.mem_cons_of_mem _ ?_
      rw [if_neg (by rw [cat_cv]; show ¬ 1 = 2; decide), show j + (i + 1) = j + 1 + i from by omega]
      exact this
theorem entL_len {ad : Nat → Nat} : ∀ (vs : List AV), (lg_sl (vs.map (cv ad))).length = (entL vs).length
  | [] => rfl
  | .inr (.inl z) :: vs => by
    have := entL_len (ad := ad) vs
    simp only [List.map_cons, lg_sl, List.flatMap_cons, List.length_append] at this ⊢
    rw [if_pos (show (cv ad (.inr (.inl z))).category = 2 from rfl)]
    simp only [entL, List.length_cons]
    rw [← this]
    simp [lg_sl]; omega
  | .inl z :: vs => by
    have := entL_len (ad := ad) vs
    simp only [List.map_cons, lg_sl, List.flatMap_cons, List.length_append] at this ⊢
    rw [if_neg (by rw [cat_cv]; show ¬ 1 = 2; decide)]
    simp only [entL, List.length_cons]
    rw [← this]
    simp [lg_sl]; omega
  | .inr (.inr r) :: vs => by
    have := entL_len (ad := ad) vs
    simp only [List.map_cons, lg_sl, List.flatMap_cons, List.length_append] at this ⊢
    rw [if_neg (by rw [cat_cv]; show ¬ 1 = 2; decide)]
    simp only [entL, List.length_cons]
    rw [← this]
    simp [lg_sl]; omega
theorem LH.entry {ad : Nat → Nat} {vs : List AV} {n : Nat} (h : (entL vs).length ≤ n) : LH ad ((lg_sl (vs.map (cv ad)) ++ List.replicate (n - (lg_sl (vs.map (cv ad))).length) Slot.unset).toArray) n (entL vs) := by
  have h1 := lv_entry (vs.map (cv ad)) (n := n) (by rw [entL_len]; exact h)
  refine ⟨h1.1, h1.2.1, fun i v hv => ?_⟩
  have := h1.2.2 _ (entL_get (ad := ad) vs i v 0 hv)
  simpa using this
theorem entL_mem : ∀ (vs : List AV) (i : Nat) (w : AV), (entL vs)[i]? = some (some w) → w ∈ vs
  | [], i, w, h => by simp [entL] at h
  | .inr (.inl z) :: vs, i, w, h => by
    match i with
    | 0 => simp [entL] at h; subst h; exact List.mem_cons_self
    | 1 => simp [entL] at h
    | i + 2 =>
      simp only [entL, List.getElem?_cons_succ] at h
      exact List.mem_cons_of_mem _ (entL_mem vs i w h)
  | .inl z :: vs, i, w, h => by
    match i with
    | 0 => simp [entL] at h; subst h; exact List.mem_cons_self
    | i + 1 =>
      simp only [entL, List.getElem?_cons_succ] at h
      exact List.mem_cons_of_mem _ (entL_mem vs i w h)
  | .inr (.inr r) :: vs, i, w, h => by
    match i with
    | 0 => simp [entL] at h; subst h; exact List.mem_cons_self
    | i + 1 =>
      simp only [entL, List.getElem?_cons_succ] at h
      exact List.mem_cons_of_mem _ (entL_mem vs i w h)
end
section
/-! ===== SOUNDNESS: what the abstract machine says of a method, the machine does ===== -/
def tb : List Cond := lw_tbl.filter goodWord
theorem tb_mem {w : Cond} {pos : Nat} (h : lw_tbl[pos]? = some w) (hg : goodWord w = true) : w ∈ tb := List.mem_filter.mpr ⟨List.mem_of_getElem? h, hg⟩
theorem tb_sub {ws : List Cond} (h : ∀ w ∈ ws, w ∈ lw_tbl) (hg : ws.all goodWord = true) : ∀ w ∈ ws, w ∈ tb := fun w hw => List.mem_filter.mpr ⟨h w hw, List.all_eq_true.mp hg w hw⟩
theorem tb_good {w : Cond} (h : w ∈ tb) : goodWord w = true := (List.mem_filter.mp h).2
abbrev MDat : Type := MethodName × (ByteArray × (Nat × (Option FieldType × (Bool × (Nat × (Nat × (List Nat × List ABlk)))))))
def mdN (q : MDat) : MethodName := q.1
def mdB (q : MDat) : ByteArray := q.2.1
def mdL (q : MDat) : Nat := q.2.2.1
def mdR (q : MDat) : Option FieldType := q.2.2.2.1
def mdS (q : MDat) : Bool := q.2.2.2.2.1
def mdP (q : MDat) : Nat := q.2.2.2.2.2.1
def mdC (q : MDat) : Nat := q.2.2.2.2.2.2.1
def mdW (q : MDat) : List Nat := q.2.2.2.2.2.2.2.1
def mdK (q : MDat) : List ABlk := q.2.2.2.2.2.2.2.2
def rcv (c : Nat) : List AV → Prop
  | .inr (.inr (some a)) :: _ => (shA a).1 = c
  | _ => False
def z0 : Int → Int := fun _ => 0
def tx (mt : List MDat) : Nat → AT
  | 0 => fun _ _ _ _ => False
  | d + 1 => fun id as h K => match mt[id]? with
    | none => False
    | some md => (mdS md = true ∨ rcv (mdC md) as) ∧ (entL as).length ≤ mdL md ∧ Bx z0 0 (tx mt d) (mdK md) K 0 (entL as) [] h
def ilen : Instr → Nat
  | .bipush _ | .ldc _ | .iload _ | .lload _ | .aload _ | .istore _ | .lstore _ | .astore _ => 2
  | .sipush _ | .ldc_w _ | .ldc2_w _ | .iinc _ _ | .if_icmp _ _ | .ifCond _ _ | .goto _ | .getstatic _ | .getfield _ | .putfield _ | .invokestatic _ | .invokevirtual _ => 3
  | _ => 1
def okW (pos : Nat) (w : Cond) : Bool := decide (lw_tbl[pos]? = some w) && goodWord w
def fWord (own : String) (idx c j nest : Nat) : Option Cond := (vwCl[c]?).map (fun q => if nest = 0 then .fieldLink own idx (q.2.1 j).1 (q.2.1 j).2.1 (q.2.1 j).2.2.1 else .fieldLinkNest own idx (q.2.1 j).1 (q.2.1 j).2.1 (q.2.1 j).2.2.1 "TinkerTailor")
def okF (own : String) (idx c j nest pos : Nat) : Bool := match fWord own idx c j nest with
  | some w => decide (c < 7) && (decide (j < cN c) && okW pos w)
  | none => false
def fTy (c j : Nat) : Option FieldType := match vwCl[c]? with
  | some q => if (q.2.1 j).2.2.2 = true then none else parseFieldDescriptor (q.2.1 j).2.2.1
  | none => none
def okT (bs : List ABlk) (t : Nat) (pc : Int) : Bool := match bs[t]? with
  | some q => decide ((q.1 : Int) = pc)
  | none => false
def okTs (bs : List ABlk) (pc : Int) : List Nat → List Int → Bool
  | [], [] => true
  | t :: ts, o :: os => okT bs t (pc + o) && okTs bs pc ts os
  | _, _ => false
def strT : List String := ["dD;", "dddddd;", "dD,dd;", "ddd;", ";", ""]
def okI (mt : List MDat) (lawq : Bool) (nL : Nat) (own : String) (bs : List ABlk) (rt : Option FieldType) (pc : Nat) (i : Instr) (x : List Nat) : Bool := match i with
  | .nop => match x with
    | t :: _ => okT bs t pc
    | [] => false
  | .iconst n => decide (-1 ≤ n) && decide (n ≤ 5)
  | .bipush n => decide (-128 ≤ n) && decide (n < 128)
  | .sipush n => decide (-32768 ≤ n) && decide (n < 32768)
  | .ldc idx => match x with
    | 0 :: a :: b :: pos :: _ => decide (a < 2147483648) && (decide (b ≤ 2147483648) && okW pos (.constant own idx (Int32.ofInt ((a : Int) - (b : Int)))))
    | [1, q] => decide (own = RX2) && (decide (q < 6) && decide (idx = 23 + 2 * q))
    | _ => false
  | .ldc_w idx => match x with
    | 0 :: a :: b :: pos :: _ => decide (a < 2147483648) && (decide (b ≤ 2147483648) && okW pos (.constant own idx (Int32.ofInt ((a : Int) - (b : Int)))))
    | _ => false
  | .ldc2_w idx => match x with
    | a :: b :: pos :: _ => decide (a < 9223372036854775808) && (decide (b ≤ 9223372036854775808) && okW pos (.constantLong own idx (Int64.ofInt ((a : Int) - (b : Int)))))
    | _ => false
  | .if_icmp _ off => match x with
    | t :: _ => okT bs t ((pc : Int) + off)
    | _ => false
  | .ifCond _ off => match x with
    | t :: _ => okT bs t ((pc : Int) + off)
    | _ => false
  | .goto off => match x with
    | t :: _ => okT bs t ((pc : Int) + off)
    | _ => false
  | .tableswitch d lo hi offs => match x with
    | t :: ts => okT bs t ((pc : Int) + d) && (okTs bs pc ts offs.toList && decide (hi = lo + (offs.toList.length : Int) - 1))
    | _ => false
  | .lookupswitch d ps => match x with
    | t :: ts => okT bs t ((pc : Int) + d) && (okTs bs pc ts (ps.toList.map (fun q => q.2)) && ((ps.toList.zip (ps.toList.drop 1)).all (fun (a, next) => decide (a.1 < next.1)) && ps.toList.all (fun q => decide (-2147483648 ≤ q.1) && decide (q.1 ≤ 2147483647))))
    | _ => false
  | .getstatic idx => match x with
    | 0 :: pos :: _ => okW pos (.fieldLink own idx "java/lang/String" "COMPACT_STRINGS" "Z")
    | 1 :: pos :: _ => okW pos (.fieldLink own idx "jdk/internal/util/Preconditions" "SIOOBE_FORMATTER" "Ljava/util/function/BiFunction;")
    | _ => false
  | .getfield idx => match x with
    | 0 :: c :: j :: nest :: pos :: _ => okF own idx c j nest pos && decide ((fdK c j).1 = 0)
    | 1 :: c :: j :: o :: nest :: pos :: _ => if c = 20 then decide (o = 20) && okW pos (.fieldLink own idx "java/lang/String" "value" "[B") else okF own idx c j nest pos && decide (fdK c j = (1, o))
    | 2 :: c :: j :: nest :: pos :: _ => okF own idx c j nest pos && decide ((fdK c j).1 = 2)
    | 3 :: pos :: _ => okW pos (.fieldLink own idx "java/lang/String" "coder" "B")
    | _ => false
  | .putfield idx => match x with
    | 0 :: c :: j :: nest :: pos :: _ => okF own idx c j nest pos && (decide ((fdK c j).1 = 0) && decide (fTy c j = some .int))
    | 2 :: c :: j :: nest :: pos :: _ => okF own idx c j nest pos && (decide ((fdK c j).1 = 2) && decide (fTy c j = some (.array .int)))
    | 3 :: c :: j :: nest :: pos :: _ => okF own idx c j nest pos && (decide ((fdK c j).1 = 0) && decide (fTy c j = some .boolean))
    | _ => false
  | .istore_n n => decide (n.val < nL)
  | .istore n => decide (n < nL)
  | .astore_n n => decide (n.val < nL)
  | .astore n => decide (n < nL)
  | .lstore_n n => decide (n.val + 1 < nL)
  | .lstore n => decide (n + 1 < nL)
  | .iinc n _ => decide (n < nL)
  | .iaload => decide (x = []) || lawq
  | .arraylength => decide (x = []) || lawq
  | .invokestatic idx => match x with
    | 0 :: pos :: [] => okW pos (.methodLink own idx Lib.Math.max.name)
    | 1 :: pos :: [] => okW pos (.methodLink own idx Lib.Math.min.name)
    | 2 :: pos :: [] => okW pos (.methodLink own idx arraycopyName)
    | id :: n :: nest :: pos :: _ => match mt[id]? with
      | some md => mdS md && (decide (n = mdP md) && okW pos (if nest = 0 then .methodLink own idx (mdN md) else .methodLinkNest own idx (mdN md) "TinkerTailor"))
      | none => false
    | _ => false
  | .invokevirtual idx => match x with
    | id :: n :: nest :: pos :: _ => match mt[id]? with
      | some md => !mdS md && (decide (n = mdP md + 1) && okW pos (if nest = 0 then .methodLink own idx (mdN md) else .methodLinkNest own idx (mdN md) "TinkerTailor"))
      | none => false
    | _ => false
  | .ireturn => match x with
    | [] => decide (rt = some .int)
    | [1] => decide (rt = some .boolean)
    | [2] => decide (rt = some .char)
    | [3] => decide (rt = some .byte)
    | _ => false
  | .lreturn => decide (rt = some .long)
  | .areturn => match rt with
    | some (.object _) => true
    | _ => false
  | .return_ => decide (rt = none)
  | _ => true
def okD (cc : ByteArray) (pc : Nat) (i : Instr) : Bool := match i with
  | .nop => true
  | .tableswitch .. => match decode cc pc with
    | .ok (i', _) => decide (i' = i)
    | _ => false
  | .lookupswitch .. => match decode cc pc with
    | .ok (i', _) => decide (i' = i)
    | _ => false
  | _ => match decode cc pc with
    | .ok (i', n) => decide (i' = i) && decide (n = ilen i)
    | _ => false
def okB (mt : List MDat) (lawq : Bool) (nL : Nat) (own : String) (cc : ByteArray) (bs : List ABlk) (rt : Option FieldType) : Nat → List RI → Bool
  | _, [] => true
  | pc, r :: is => okD cc pc r.1 && (okI mt lawq nL own bs rt pc r.1 r.2 && okB mt lawq nL own cc bs rt (pc + ilen r.1) is)
def okM (mt : List MDat) (q : MDat) : Bool :=
  (match mdW q with
    | a :: b :: c :: d :: _ => okW a (.code (mdN q) (mdB q) (mdL q) (mdR q)) && (okW b (if mdS q = true then .static (mdN q) else .instanceMethod (mdN q)) && (okW d (.initialized (mdN q).cls) && (mdS q || okW c (.selects (mdN q).cls (mdN q) (mdN q)))))
    | _ => false) &&
  (decide ((mdN q).cls ≠ "java/lang/invoke/MethodHandle") && (decide ((mdN q).cls ≠ "java/lang/invoke/VarHandle") && (decide ((parseMethodDescriptor (mdN q).desc).map (fun d => d.parameters.length) = some (mdP q)) &&
  (plainName (mdN q).cls && (decide (mdL q ≤ 45) && ((match (mdK q)[0]? with | some b => decide (b.1 = 0) | none => false) &&
  ((mdS q || (if mdC q = 20 then decide ((mdN q).cls = "java/lang/String") else (match vwCl[mdC q]? with | some v => decide (v.1 = (mdN q).cls) && decide (mdC q < 7) | none => false))) &&
  (mdK q).all (fun b => okB mt false (mdL q) (mdN q).cls (mdB q) (mdK q) (mdR q) b.1 b.2.2))))))))
end
section
/-! ===== soundness of an instruction ===== -/
def ClsOK (c : Nat) (C : String) (T : u_T) (N : Nat) (ty : Nat → FieldType) : Prop := vwCl[c]? = some (C, T, N) ∧ (∀ w ∈ u_ws C T N, w ∈ tb) ∧ (∀ k, k < N → parseFieldDescriptor (T k).2.2.1 = some (ty k)) ∧ (∀ a, a < N → ∀ b, b < N → a ≠ b → (T a).2.1 ≠ (T b).2.1) ∧ N = cN c
theorem cls_ok (c : Nat) (hc : c < 7) : ∃ C T N ty, ClsOK c C T N ty := by
  rcases (show c = 0 ∨ c = 1 ∨ c = 2 ∨ c = 3 ∨ c = 4 ∨ c = 5 ∨ c = 6 by omega) with rfl | rfl | rfl | rfl | rfl | rfl | rfl
  · exact ⟨_, _, _, tyX0, rfl, tb_sub inX0 (by decide +kernel), tyX0_ok, nmX0, rfl⟩
  · exact ⟨_, _, _, tyX1, rfl, tb_sub inX1 (by decide +kernel), tyX1_ok, nmX1, rfl⟩
  · exact ⟨_, _, _, tyX2, rfl, tb_sub inX2 (by decide +kernel), tyX2_ok, nmX2, rfl⟩
  · exact ⟨_, _, _, tyX3, rfl, tb_sub inX3 (by decide +kernel), tyX3_ok, nmX3, rfl⟩
  · exact ⟨_, _, _, tyX4, rfl, tb_sub inX4 (by decide +kernel), tyX4_ok, nmX4, rfl⟩
  · exact ⟨_, _, _, tyX5, rfl, tb_sub inX5 (by decide +kernel), tyX5_ok, nmX5, rfl⟩
  · exact ⟨_, _, _, tyX6, rfl, tb_sub inX6 (by decide +kernel), tyX6_ok, nmX6, rfl⟩
/-- what the Statement gives of things that nobody writes: the text constants, two statics -/
def XT (ad : Nat → Nat) (A : Nat → Prop) (U : State) (H : Heap) : Prop :=
  vk_S 6 (strS.map List.length) (strS.map (fun l => l.map Int32.ofInt)) (fun i => ad (200 + i)) (fun i => ad (220 + i)) A U H ∧
  va_Z "java/lang/String" "COMPACT_STRINGS" "Z" (.int 1) A U H ∧
  va_Z "jdk/internal/util/Preconditions" "SIOOBE_FORMATTER" "Ljava/util/function/BiFunction;" (.ref (ad 240)) A U H ∧
  ∀ i, i < 6 → vk_R "TinkerTailor$Letters" (23 + 2 * i) (strT.getD i "") (ad (200 + i)) U
theorem XT.moved {ad : Nat → Nat} {A : Nat → Prop} {u U : State} {H : Heap} (hW : u.WarmedH U.vm) (h : XT ad A u H) : XT ad A U H :=
  ⟨h.1.moved hW.alike, h.2.1.moved hW.alike, h.2.2.1.moved hW.alike, fun i hi => (h.2.2.2 i hi).warm hW⟩
theorem XT.kept {ad : Nat → Nat} {A : Nat → Prop} {U : State} {H H1 : Heap} (h : XT ad A U H) (hq : ∀ a : Nat, a < H.size → ¬ A a → H1[a]? = H[a]?) : XT ad A U H1 :=
  ⟨h.1.kept hq, h.2.1.kept hq, h.2.2.1.kept hq, h.2.2.2⟩
theorem XT.narrow {ad : Nat → Nat} {A B : Nat → Prop} {U : State} {H : Heap} (h : XT ad A U H) (hAB : ∀ q, B q → A q) : XT ad B U H :=
  ⟨h.1.narrow hAB, h.2.1.narrow hAB, h.2.2.1.narrow hAB, h.2.2.2⟩
theorem XT.same {ad : Nat → Nat} {A : Nat → Prop} {u U : State} {H : Heap} (hv : U.vm = u.vm) (ha : u.vm.Alike U.vm) (h : XT ad A u H) : XT ad A U H :=
  ⟨h.1.moved ha, h.2.1.moved ha, h.2.2.1.moved ha, fun i hi => (h.2.2.2 i hi).same hv⟩
section IS
variable {mt : List MDat} {lawq : Bool} {p : Program} {l : Launch} {e : Env} {R : Room} {s : State} {m : MethodId} {args : Array Value} {below : List Frame} {meth : Method} {c : Code} {cells slots : Nat} {Q : State → Prop} {cc : ByteArray} {nL : Nat} {own : String} {ad : Nat → Nat} {G : ClassId × (ClassId × ClassId)} {dC : Nat → ClassId} {dI : Nat → Nat → Nat} {A : Nat → Prop} {sc : Int → Int} {sl : Int} {d : Nat}
/-- what holds all through a method -/
def FX (lawq : Bool) (p : Program) (R : Room) (s : State) (m : MethodId) (args : Array Value) (c : Code) (cells slots : Nat) (cc : ByteArray) (nL : Nat) (own : String) (ad : Nat → Nat) (G : ClassId × (ClassId × ClassId)) (dC : Nat → ClassId) (dI : Nat → Nat → Nat) (A : Nat → Prop) (sc : Int → Int) (sl : Int) (d : Nat) : Prop :=
  p.tables.exec = Jvm.exec ∧ c.code = cc ∧ c.maxLocals = nL ∧ s.vm.findClass own = some m.cls ∧ (∀ w ∈ tb, w.before args s = true) ∧
  va_K (dC, dI) vwCl [(G.1, .int), (G.2.1, .long), (G.2.2, .boolean)] s ∧ XT ad A s s.heap ∧ (∀ q, s.heap.size ≤ q → A q) ∧
  (d + 1 ≤ R.frames ∧ 64 * (d + 1) ≤ R.locals ∧ cells ≤ R.cells ∧ slots ≤ R.slots) ∧
  (lawq = true → ∃ (L : Nat) (xs : Nat → Int32), va_X (ad 300) L xs s s.heap ∧ ad 300 < s.heap.size ∧ ¬ A (ad 300) ∧ sl = (L : Int) ∧ L < 2 ^ 31 ∧ ∀ i : Nat, i < L → inI (sc i) ∧ xs i = Int32.ofInt (sc i))
/-- the state between two instructions -/
def SS (s : State) (ad : Nat → Nat) (G : ClassId × (ClassId × ClassId)) (dC : Nat → ClassId) (dI : Nat → Nat → Nat) (A : Nat → Prop) (nL : Nat) (ls : Array Slot) (L : LL) (st : List AV) (h : AH) (H : Heap) (locs : List Loc) : Prop :=
  LH ad ls nL L ∧ (∀ v ∈ st, vOK v) ∧ (∀ (i : Nat) (v : AV), L[i]? = some (some v) → vOK v) ∧ hOK h ∧ va_P (dC, dI) vwCl (wl ad G h) H ∧ va_D A (wl ad G h) ∧ va_S A s.heap H locs
theorem fWord_of {idx cl j nest pos : Nat} {C : String} {T : u_T} {N : Nat} (hc : vwCl[cl]? = some (C, T, N)) (hf : okF own idx cl j nest pos = true) :
    cl < 7 ∧ j < cN cl ∧ ((.fieldLink own idx (T j).1 (T j).2.1 (T j).2.2.1) ∈ tb ∨ (.fieldLinkNest own idx (T j).1 (T j).2.1 (T j).2.2.1 "TinkerTailor") ∈ tb) := by
  unfold okF fWord at hf
  rw [hc] at hf
  simp only [Option.map_some, Bool.and_eq_true, decide_eq_true_eq, okW] at hf
  obtain ⟨h1, h2, h3, h4⟩ := hf
  refine ⟨h1, h2, ?_⟩
  by_cases hn : nest = 0
  · rw [if_pos hn] at h3 h4
    exact Or.inl (tb_mem h3 h4)
  · rw [if_neg hn] at h3 h4
    exact Or.inr (tb_mem h3 h4)
theorem is_get (F : FX lawq p R s m args c cells slots cc nL own ad G dC dI A sc sl d) {h : AH} {H : Heap} {locs : List Loc} (hP : va_P (dC, dI) vwCl (wl ad G h) H) {a cl j idx nest pos pc : Nat} {ls : Array Slot} {rest : List Value} (hs : (shA a).1 = cl) (hf : okF own idx cl j nest pos = true) (hdg : decode cc pc = .ok (.getfield idx, 3))
    (kk : W p l e R s m args below meth c H locs cells slots Q (F0 m (pc + 3) ls (fv ad h a cl j :: rest))) : W p l e R s m args below meth c H locs cells slots Q (F0 m pc ls (.ref (ad a) :: rest)) := by
  obtain ⟨hx, hb, hml, hown, hts, hK, -⟩ := F
  have hcl : cl < 7 := by
    unfold okF at hf
    split at hf
    · simp only [Bool.and_eq_true, decide_eq_true_eq] at hf; exact hf.1
    · cases hf
  obtain ⟨C, T, N, ty, h1, h2, h3, h4, h5⟩ := cls_ok cl hcl
  obtain ⟨-, hj, hw⟩ := fWord_of h1 hf
  have hget := wl_get (ad := ad) (G := G) (h := h) (shA_lt hs (by omega))
  rw [cellO hs hcl] at hget
  rcases hw with hw | hw
  · exact va_get hx hb hts h2 hown hK hP a hget h1 j (by rw [h5]; exact hj) (hts _ hw) (fun _ h9 => h9) (fld_get hj) hdg kk
  · exact va_getN hx hb hts h2 hown hK hP a hget h1 j (by rw [h5]; exact hj) (hts _ hw) (fun _ h9 => h9) (fld_get hj) hdg kk
theorem is_put (F : FX lawq p R s m args c cells slots cc nL own ad G dC dI A sc sl d) {h h' : AH} {H : Heap} {locs : List Loc} (hP : va_P (dC, dI) vwCl (wl ad G h) H) (hD : va_D A (wl ad G h)) (hS : va_S A s.heap H locs) {a cl j idx nest pos pc : Nat} {ls : Array Slot} {rest : List Value} {v : Value} {ty : FieldType} (hs : (shA a).1 = cl) (hf : okF own idx cl j nest pos = true) (hty : fTy cl j = some ty) (hn : narrow ty v = v) (hfit : fits ty v = true)
    (hset : cl < 7 → (wl ad G h).set a (ad a, .inr (cl, ((List.range (cN cl)).map (fun j => fv ad h a cl j)).set j v)) = wl ad G h') (hdg : decode cc pc = .ok (.putfield idx, 3))
    (kk : ∀ (H1 : Heap) (locs1 : List Loc), va_P (dC, dI) vwCl (wl ad G h') H1 → va_D A (wl ad G h') → va_S A s.heap H1 locs1 → W p l e R s m args below meth c H1 locs1 cells slots Q (F0 m (pc + 3) ls rest)) : W p l e R s m args below meth c H locs cells slots Q (F0 m pc ls (v :: .ref (ad a) :: rest)) := by
  obtain ⟨hx, hb, hml, hown, hts, hK, -⟩ := F
  have hcl : cl < 7 := by
    unfold okF at hf
    split at hf
    · simp only [Bool.and_eq_true, decide_eq_true_eq] at hf; exact hf.1
    · cases hf
  obtain ⟨C, T, N, ty0, h1, h2, h3, h4, h5⟩ := cls_ok cl hcl
  obtain ⟨-, hj, hw⟩ := fWord_of h1 hf
  have hget := wl_get (ad := ad) (G := G) (h := h) (shA_lt hs (by omega))
  rw [cellO hs hcl] at hget
  have hty' : (T j).2.2.2 = false ∧ parseFieldDescriptor (T j).2.2.1 = some ty := by
    unfold fTy at hty
    rw [h1] at hty
    dsimp only at hty
    split at hty
    · cases hty
    · next hq => exact ⟨by simpa using hq, hty⟩
  rcases hw with hw | hw
  · exact va_put hx hb hts h2 ty0 h3 h4 hown hK hP hD hS a hget h1 j (by rw [h5]; exact hj) (hts _ hw) (fun _ h9 => h9) hty'.1 hty'.2 hn hfit (by simp; exact hj) hdg (fun H1 locs1 a1 a2 a3 => by rw [hset hcl] at a1 a2; exact kk H1 locs1 a1 a2 a3)
  · exact va_putN hx hb hts h2 ty0 h3 h4 hown hK hP hD hS a hget h1 j (by rw [h5]; exact hj) (hts _ hw) (fun _ h9 => h9) hty'.1 hty'.2 hn hfit (by simp; exact hj) hdg (fun H1 locs1 a1 a2 a3 => by rw [hset hcl] at a1 a2; exact kk H1 locs1 a1 a2 a3)
theorem is_cmp (F : FX lawq p R s m args c cells slots cc nL own ad G dC dI A sc sl d) {cd : ClassFile.Cond} {z y off : Int} {tgt pc : Nat} {ls : Array Slot} {rest : List Value} {H : Heap} {locs : List Loc} (hz : inI z) (hy : inI y) (hdg : decode cc pc = .ok (.if_icmp cd off, 3)) (ht : (pc : Int) + off = (tgt : Int))
    (kt : cmpP cd z y → W p l e R s m args below meth c H locs cells slots Q (F0 m tgt ls rest)) (kf : ¬ cmpP cd z y → W p l e R s m args below meth c H locs cells slots Q (F0 m (pc + 3) ls rest)) : W p l e R s m args below meth c H locs cells slots Q (F0 m pc ls (.int (Int32.ofInt y) :: .int (Int32.ofInt z) :: rest)) := by
  obtain ⟨hx, hb, -⟩ := F
  cases cd with
  | eq => exact lv_icmp_eq hx hb hdg ht (fun q => kt ((am_eq hz hy).mp q)) (fun q => kf (fun q2 => q ((am_eq hz hy).mpr q2)))
  | ne => exact lv_icmp_ne hx hb hdg ht (fun q => kt (fun q2 => q ((am_eq hz hy).mpr q2))) (fun q => kf (fun q2 => q2 ((am_eq hz hy).mp q)))
  | lt => exact lv_icmp_lt hx hb hdg ht (fun q => kt ((am_lt hz hy).mp q)) (fun q => kf (fun q2 => q ((am_lt hz hy).mpr q2)))
  | ge => exact lv_icmp_ge hx hb hdg ht (fun q => kt ((am_le hy hz).mp q)) (fun q => kf (fun q2 => q ((am_le hy hz).mpr q2)))
  | gt => exact lv_icmp_gt hx hb hdg ht (fun q => kt ((am_lt hy hz).mp q)) (fun q => kf (fun q2 => q ((am_lt hy hz).mpr q2)))
  | le => exact lv_icmp_le hx hb hdg ht (fun q => kt ((am_le hz hy).mp q)) (fun q => kf (fun q2 => q ((am_le hz hy).mpr q2)))
theorem is_if (F : FX lawq p R s m args c cells slots cc nL own ad G dC dI A sc sl d) {cd : ClassFile.Cond} {z off : Int} {tgt pc : Nat} {ls : Array Slot} {rest : List Value} {H : Heap} {locs : List Loc} (hz : inI z) (hdg : decode cc pc = .ok (.ifCond cd off, 3)) (ht : (pc : Int) + off = (tgt : Int))
    (kt : cmpP cd z 0 → W p l e R s m args below meth c H locs cells slots Q (F0 m tgt ls rest)) (kf : ¬ cmpP cd z 0 → W p l e R s m args below meth c H locs cells slots Q (F0 m (pc + 3) ls rest)) : W p l e R s m args below meth c H locs cells slots Q (F0 m pc ls (.int (Int32.ofInt z) :: rest)) := by
  obtain ⟨hx, hb, -⟩ := F
  have hy : inI 0 := ⟨by decide, by decide⟩
  have e0 : (Int32.ofInt 0) = 0 := rfl
  cases cd with
  | eq => exact lv_if_eq hx hb hdg ht (fun q => kt ((am_eq hz hy).mp q)) (fun q => kf (fun q2 => q ((am_eq hz hy).mpr q2)))
  | ne => exact lv_if_ne hx hb hdg ht (fun q => kt (fun q2 => q ((am_eq hz hy).mpr q2))) (fun q => kf (fun q2 => q2 ((am_eq hz hy).mp q)))
  | lt => exact lv_if_lt hx hb hdg ht (fun q => kt ((am_lt hz hy).mp q)) (fun q => kf (fun q2 => q ((am_lt hz hy).mpr q2)))
  | ge => exact lv_if_ge hx hb hdg ht (fun q => kt ((am_le hy hz).mp q)) (fun q => kf (fun q2 => q ((am_le hy hz).mpr q2)))
  | gt => exact lv_if_gt hx hb hdg ht (fun q => kt ((am_lt hy hz).mp q)) (fun q => kf (fun q2 => q ((am_lt hy hz).mpr q2)))
  | le => exact lv_if_le hx hb hdg ht (fun q => kt ((am_le hz hy).mp q)) (fun q => kf (fun q2 => q ((am_le hz hy).mpr q2)))

theorem okT_pc {bs : List ABlk} {t : Nat} {pc : Int} (h : okT bs t pc = true) : ∃ q, bs[t]? = some q ∧ (q.1 : Int) = pc := by
  unfold okT at h
  split at h
  · next q hq => exact ⟨q, hq, by simpa using h⟩
  · cases h
def isRet : Instr → List Nat → Option AV → Prop
  | .ireturn, x, some (.inl z) => x = [] ∨ (x = [1] ∧ (z = 0 ∨ z = 1)) ∨ (x = [2] ∧ 0 ≤ z ∧ z < 65536) ∨ (x = [3] ∧ z = 0)
  | .lreturn, _, some (.inr (.inl _)) => True
  | .areturn, _, some (.inr (.inr (some _))) => True
  | .return_, _, none => True
  | _, _, _ => False
theorem vOK_st {v : AV} {st : List AV} (h : ∀ w ∈ v :: st, vOK w) : vOK v ∧ ∀ w ∈ st, vOK w := ⟨h v List.mem_cons_self, fun w hw => h w (List.mem_cons_of_mem _ hw)⟩
theorem vOK_cons {v : AV} {st : List AV} (h : vOK v) (h2 : ∀ w ∈ st, vOK w) : ∀ w ∈ v :: st, vOK w := fun w hw => (List.mem_cons.mp hw).elim (fun q => q ▸ h) (h2 w)
theorem LOK.set {L : LL} {n : Nat} {v : AV} (h : ∀ (i : Nat) (v : AV), L[i]? = some (some v) → vOK v) (hv : vOK v) : ∀ (i : Nat) (w : AV), (setL L n v)[i]? = some (some w) → vOK w := fun i w hw => by
  rcases setL_get L n v i w hw with ⟨-, b⟩ | ⟨-, b, -⟩
  · rw [b]; exact hv
  · exact h i w b
theorem LOK.set2 {L : LL} {n : Nat} {v : AV} (h : ∀ (i : Nat) (v : AV), L[i]? = some (some v) → vOK v) (hv : vOK v) : ∀ (i : Nat) (w : AV), (setL2 L n v)[i]? = some (some w) → vOK w := fun i w hw => by
  rcases setL2_get L n v i w hw with ⟨-, b⟩ | ⟨-, -, b, -⟩
  · rw [b]; exact hv
  · exact h i w b
theorem lk_0 {L : LL} {i : Nat} {k : AV → Prop} (h : ldA 0 L i k) : ∃ z, L[i]? = some (some (.inl z)) ∧ k (.inl z) := by
  unfold ldA at h
  generalize L[i]? = o at h ⊢
  match o with
  | some (some (.inl z)) => exact ⟨z, rfl, h⟩
  | some (some (.inr (.inl z))) => exact h.elim
  | some (some (.inr (.inr (some a)))) => exact h.elim
  | some (some (.inr (.inr none))) => exact h.elim
  | some none => exact h.elim
  | none => exact h.elim
theorem lk_1 {L : LL} {i : Nat} {k : AV → Prop} (h : ldA 1 L i k) : ∃ z, L[i]? = some (some (.inr (.inl z))) ∧ k (.inr (.inl z)) := by
  unfold ldA at h
  generalize L[i]? = o at h ⊢
  match o with
  | some (some (.inl z)) => exact h.elim
  | some (some (.inr (.inl z))) => exact ⟨z, rfl, h⟩
  | some (some (.inr (.inr (some a)))) => exact h.elim
  | some (some (.inr (.inr none))) => exact h.elim
  | some none => exact h.elim
  | none => exact h.elim
theorem lk_2 {L : LL} {i : Nat} {k : AV → Prop} (h : ldA 2 L i k) : ∃ a, L[i]? = some (some (.inr (.inr (some a)))) ∧ k (.inr (.inr (some a))) := by
  unfold ldA at h
  generalize L[i]? = o at h ⊢
  match o with
  | some (some (.inl z)) => exact h.elim
  | some (some (.inr (.inl z))) => exact h.elim
  | some (some (.inr (.inr (some a)))) => exact ⟨a, rfl, h⟩
  | some (some (.inr (.inr none))) => exact h.elim
  | some none => exact h.elim
  | none => exact h.elim
theorem okD_1 {cc : ByteArray} {pc n : Nat} {i : Instr} (h : (match decode cc pc with
    | .ok (i', n') => decide (i' = i) && decide (n' = n)
    | _ => false) = true) : decode cc pc = .ok (i, n) := by
  split at h
  · next i' n' hq =>
    simp only [Bool.and_eq_true, decide_eq_true_eq] at h
    rw [hq, h.1, h.2]
  · cases h
theorem catS_eq {ad : Nat → Nat} : ∀ (st : List AV), ((st.map (cv ad)).map fun v => v.category).sum = catS st
  | [] => rfl
  | v :: st => by
    have := catS_eq (ad := ad) st
    simp only [List.map_cons, List.sum_cons, catS, cat_cv] at this ⊢
    rw [this]
theorem popA_eq : ∀ (n : Nat) (acc st as st' : List AV), popA n acc st = some (as, st') → ∃ as0 : List AV, as0.length = n ∧ st = as0 ++ st' ∧ as = as0.reverse ++ acc
  | 0, acc, st, as, st', h => by cases h; exact ⟨[], rfl, rfl, rfl⟩
  | n + 1, acc, [], as, st', h => by simp [popA] at h
  | n + 1, acc, v :: st, as, st', h => by
    obtain ⟨a0, b1, b2, b3⟩ := popA_eq n (v :: acc) st as st' h
    exact ⟨v :: a0, by simp [b1], by rw [b2]; rfl, by rw [b3]; simp⟩
theorem popA_0 {n : Nat} {st as st' : List AV} (h : popA n [] st = some (as, st')) : as.length = n ∧ st = as.reverse ++ st' := by
  obtain ⟨a0, b1, b2, b3⟩ := popA_eq n [] st as st' h
  rw [List.append_nil] at b3
  subst b3
  exact ⟨by simp [b1], by rw [List.reverse_reverse]; exact b2⟩
end IS
end
section
/-! ===== calls, and an instruction whole ===== -/
def tys (G : ClassId × (ClassId × ClassId)) : List (ClassId × FieldType) := [(G.1, .int), (G.2.1, .long), (G.2.2, .boolean)]
def wsy (q : MDat) : List Cond := .code (mdN q) (mdB q) (mdL q) (mdR q) :: tb
def rmd (d : Nat) : Room := { frames := d, cells := 0, slots := 0, locals := 64 * d }
def QQ (ad : Nat → Nat) (G : ClassId × (ClassId × ClassId)) (dC : Nat → ClassId) (dI : Nat → Nat → Nat) (K : AK) (A : Nat → Prop) : Array Value → State → Outcome → State → Prop := fun _ st oc t =>
  (∃ (r : Option AV) (h' : AH), oc = .returned (r.map (cv ad)) ∧ K r h' ∧ hOK h' ∧ (∀ v, r = some v → vOK v) ∧ va_P (dC, dI) vwCl (wl ad G h') t.heap ∧ va_K (dC, dI) vwCl (tys G) t ∧ va_D A (wl ad G h')) ∧ va_F A st t
def PB (ad : Nat → Nat) (G : ClassId × (ClassId × ClassId)) (dC : Nat → ClassId) (dI : Nat → Nat → Nat) (h : AH) (sz : Nat) : State → Prop := fun U =>
  U.heap.size = sz ∧ va_P (dC, dI) vwCl (wl ad G h) U.heap ∧ va_K (dC, dI) vwCl (tys G) U ∧ va_D (fun _ => True) (wl ad G h) ∧ XT ad (va_A (wl ad G h) sz) U U.heap
theorem PB_blind {ad : Nat → Nat} {G : ClassId × (ClassId × ClassId)} {dC : Nat → ClassId} {dI : Nat → Nat → Nat} {h : AH} {sz : Nat} {av : List Value} : FrameBlind (va_Pc av (PB ad G dC dI h sz)) := fun a U g mk q => by
  obtain ⟨q0, q1, qP, qK, qD, qX⟩ := q
  exact ⟨q0, q1, qP, va_K.moved (u := U) (U := U.calling g mk a) (Vm.Alike.refl U.vm) qK, qD, qX.same (U := U.calling g mk a) rfl (Vm.Alike.refl U.vm)⟩
theorem wl_some {ad : Nat → Nat} {G : ClassId × (ClassId × ClassId)} {h : AH} {k : Nat} {q : Nat × va_E} (hq : (wl ad G h)[k]? = some q) : k < 65 ∧ q = (ad k, cellE ad G h k) := by
  have hk : k < 65 := by
    have := (List.getElem?_eq_some_iff.mp hq).1
    simpa [wl] using this
  rw [wl_get hk] at hq
  exact ⟨hk, (Option.some.inj hq).symm⟩
theorem wl_D {ad : Nat → Nat} {G : ClassId × (ClassId × ClassId)} {h h' : AH} {A : Nat → Prop} (hD : va_D A (wl ad G h)) : va_D A (wl ad G h') := by
  refine ⟨fun i j p q hi hj hpq => ?_, fun k q hk => ?_⟩
  · obtain ⟨i1, rfl⟩ := wl_some hi
    obtain ⟨j1, rfl⟩ := wl_some hj
    exact hD.1 i j _ _ (wl_get i1) (wl_get j1) hpq
  · obtain ⟨i1, rfl⟩ := wl_some hk
    exact hD.2 k (ad k, cellE ad G h k) (wl_get i1)
theorem wl_A {ad : Nat → Nat} {G : ClassId × (ClassId × ClassId)} {h : AH} {A : Nat → Prop} {sz q : Nat} (hD : va_D A (wl ad G h)) (hA : ∀ q, sz ≤ q → A q) (hq : va_A (wl ad G h) sz q) : A q := by
  rcases hq with ⟨k, e, hk⟩ | hq
  · exact hD.2 k _ hk
  · exact hA q hq
section IS
variable {mt : List MDat} {lawq : Bool} {p : Program} {l : Launch} {e : Env} {R : Room} {s : State} {m : MethodId} {args : Array Value} {below : List Frame} {meth : Method} {c : Code} {cells slots : Nat} {Q : State → Prop} {cc : ByteArray} {nL : Nat} {own : String} {ad : Nat → Nat} {G : ClassId × (ClassId × ClassId)} {dC : Nat → ClassId} {dI : Nat → Nat → Nat} {A : Nat → Prop} {sc : Int → Int} {sl : Int} {d : Nat}
theorem is_back {h : AH} {H : Heap} {locs : List Loc} {pc : Nat} {ls : Array Slot} {st0 rest : List Value} {K : AK} {a : Array Value} (hD : va_D A (wl ad G h)) (hS : va_S A s.heap H locs) (hA : ∀ q, s.heap.size ≤ q → A q)
    (hr : va_Run p l e R s m args below meth c H locs cells slots 0 0 (F0 m pc ls st0) rest (QQ ad G dC dI K (va_A (wl ad G h) H.size) a) (va_A (wl ad G h) H.size))
    (kk : ∀ (r : Option AV) (h' : AH) (H1 : Heap) (locs1 : List Loc), K r h' → hOK h' → (∀ v, r = some v → vOK v) → va_P (dC, dI) vwCl (wl ad G h') H1 → va_D A (wl ad G h') → va_S A s.heap H1 locs1 → W p l e R s m args below meth c H1 locs1 cells slots Q (F0 m (pc + 3) ls ((r.map (cv ad)).toList ++ rest))) : W p l e R s m args below meth c H locs cells slots Q (F0 m pc ls st0) := by
  have hA1 : ∀ q, va_A (wl ad G h) H.size q → A q := fun q hq => wl_A hD (fun q h2 => hA q (Nat.le_trans hS.1 h2)) hq
  intro T hT X
  obtain ⟨v, st₀, t, T', L, h0, X', hL, e1, e2, ⟨⟨r, h', hv, hK, hh, hvo, hP', hK', hD'⟩, hz, hk⟩, st⟩ := hr T hT X
  cases hv
  rw [h0] at hz hk
  obtain ⟨t2, a1, b1⟩ := kk r h' T'.heap (locs ++ L) hK hh hvo (by rw [e1]; exact hP') (wl_D hD)
    ⟨Nat.le_trans hS.1 (by rw [e1]; exact hz), fun q h1 h2 => by rw [e1, hk q (Nat.lt_of_lt_of_le h1 hS.1) (fun z => h2 (hA1 q z))]; exact hS.2.1 q h1 h2, fun q hq => by
      rcases List.mem_append.mp hq with h | h
      · exact hS.2.2 q h
      · exact hA1 _ (hL q h)⟩ T' rfl X'
  exact ⟨t2, st t2 a1, b1⟩
theorem XT.at (F : FX lawq p R s m args c cells slots cc nL own ad G dC dI A sc sl d) {h : AH} {H : Heap} {locs : List Loc} {U : State} (hD : va_D A (wl ad G h)) (hS : va_S A s.heap H locs) (hU : U.heap = H) (hW : s.WarmedH U.vm) : XT ad (va_A (wl ad G h) H.size) U U.heap := by
  obtain ⟨-, -, -, -, -, -, hX, hA, -⟩ := F
  rw [hU]
  exact ((hX.kept (fun a h1 h2 => hS.2.1 a h1 h2)).narrow (fun q hq => wl_A hD (fun q h2 => hA q (Nat.le_trans hS.1 h2)) hq)).moved hW
theorem okM_1 {q : MDat} (h : okM mt q = true) : (Cond.code (mdN q) (mdB q) (mdL q) (mdR q)) ∈ tb ∧ (Cond.initialized (mdN q).cls) ∈ tb ∧ (mdS q = true → (Cond.static (mdN q)) ∈ tb) ∧ (mdS q = false → (Cond.instanceMethod (mdN q)) ∈ tb ∧ (Cond.selects (mdN q).cls (mdN q) (mdN q)) ∈ tb) := by
  unfold okM at h
  rw [Bool.and_eq_true] at h
  obtain ⟨h, -⟩ := h
  split at h
  · next a b c d _ _ =>
    simp only [Bool.and_eq_true, okW, decide_eq_true_eq] at h
    obtain ⟨⟨h1, h2⟩, ⟨h3, h4⟩, ⟨h5, h6⟩, h7⟩ := h
    refine ⟨tb_mem h1 h2, tb_mem h5 h6, fun hs => ?_, fun hs => ?_⟩
    · rw [if_pos hs] at h3 h4; exact tb_mem h3 h4
    · rw [if_neg (by simp [hs])] at h3 h4
      rw [hs] at h7
      simp only [Bool.false_or, Bool.and_eq_true, decide_eq_true_eq] at h7
      exact ⟨tb_mem h3 h4, tb_mem h7.1 h7.2⟩
  · cases h
theorem okM_2 {q : MDat} (h : okM mt q = true) : ((mdN q).cls ≠ "java/lang/invoke/MethodHandle" ∧ (mdN q).cls ≠ "java/lang/invoke/VarHandle") ∧ (parseMethodDescriptor (mdN q).desc).map (fun d => d.parameters.length) = some (mdP q) ∧ plainName (mdN q).cls = true ∧ mdL q ≤ 45 ∧ (∃ b, (mdK q)[0]? = some b ∧ b.1 = 0) ∧ (mdS q = false → (mdC q = 20 ∧ (mdN q).cls = "java/lang/String") ∨ (mdC q < 7 ∧ ∃ T N, vwCl[mdC q]? = some ((mdN q).cls, T, N))) ∧ ∀ b ∈ mdK q, okB mt false (mdL q) (mdN q).cls (mdB q) (mdK q) (mdR q) b.1 b.2.2 = true := by
  unfold okM at h
  simp only [Bool.and_eq_true, decide_eq_true_eq] at h
  obtain ⟨-, h1, h2, h3, h4, h5, h6, h7, h8⟩ := h
  refine ⟨⟨h1, h2⟩, h3, h4, h5, ?_, fun hs => ?_, fun b hb => List.all_eq_true.mp h8 b hb⟩
  · split at h6
    · next b hb => exact ⟨b, hb, by simpa using h6⟩
    · cases h6
  · rw [hs] at h7
    simp only [Bool.false_or] at h7
    split at h7
    · next hq => exact Or.inl ⟨hq, by simpa using h7⟩
    · split at h7
      · next v hv =>
        simp only [Bool.and_eq_true, decide_eq_true_eq] at h7
        obtain ⟨C, T, N⟩ := v
        exact Or.inr ⟨h7.2, T, N, by rw [hv]; simp only at h7; rw [h7.1]⟩
      · cases h7
theorem pay_tb (F : FX lawq p R s m args c cells slots cc nL own ad G dC dI A sc sl d) {q : MDat} (hq : (Cond.code (mdN q) (mdB q) (mdL q) (mdR q)) ∈ tb) : ∀ w ∈ wsy q, ∀ (a' : Array Value) (U : State), s.WarmedH U.vm → w.before a' U = true := by
  refine pay_in F.2.2.2.2.1 (fun w hw => ?_)
  rcases List.mem_cons.mp hw with rfl | hw
  · exact ⟨hq, good_of_word (tb_good hq)⟩
  · exact ⟨hw, good_of_word (tb_good hw)⟩
theorem is_callS (F : FX lawq p R s m args c cells slots cc nL own ad G dC dI A sc sl d) {q : MDat} (hq : okM mt q = true) (hst : mdS q = true) {h : AH} {H : Heap} {locs : List Loc} {idx nest pos pc : Nat} {ls : Array Slot} {as st : List AV} {K : AK}
    (hn : as.length = mdP q) (hlink : okW pos (if nest = 0 then .methodLink own idx (mdN q) else .methodLinkNest own idx (mdN q) "TinkerTailor") = true)
    (hM : Met l (mdN q) (wsy q) (rmd d) (va_Pc (as.map (cv ad)) (PB ad G dC dI h H.size)) (QQ ad G dC dI K (va_A (wl ad G h) H.size)) 0 0 (va_A (wl ad G h) H.size))
    (hP : va_P (dC, dI) vwCl (wl ad G h) H) (hD : va_D A (wl ad G h)) (hS : va_S A s.heap H locs) (hls : ls.size = nL) (hcat : catS st ≤ 8) (hdg : decode cc pc = .ok (.invokestatic idx, 3)) :
    va_Run p l e R s m args below meth c H locs cells slots 0 0 (F0 m pc ls ((as.reverse ++ st).map (cv ad))) (st.map (cv ad)) (QQ ad G dC dI K (va_A (wl ad G h) H.size) (as.map (cv ad)).toArray) (va_A (wl ad G h) H.size) := by
  obtain ⟨w1, w2, w3, -⟩ := okM_1 hq
  obtain ⟨g1, g2, g3, g4, -⟩ := okM_2 hq
  have hpay := pay_tb F w1
  have hXT := fun (U : State) (hU : U.heap = H) (hW : s.WarmedH U.vm) => XT.at F (U := U) hD hS hU hW
  obtain ⟨hx, hb, hml, hown, hts, hK, -, -, hR, -⟩ := F
  simp only [okW, Bool.and_eq_true, decide_eq_true_eq] at hlink
  have hw := tb_mem hlink.1 hlink.2
  have hpre : PreS s H (va_Pc (as.map (cv ad)) (PB ad G dC dI h H.size)) (as.map (cv ad)) := ⟨PB_blind, fun U hU hW => ⟨rfl, by rw [hU], by rw [hU]; exact hP, va_K.moved hW.alike hK, hD.weaken (fun _ _ _ _ => trivial), hXT U hU hW⟩⟩
  have hpn : ∀ sig, parseMethodDescriptor (mdN q).desc = some sig → mdP q = sig.parameters.length := fun sig hsig => by rw [hsig] at g2; exact (Option.some.inj g2).symm
  have hlo : 8 + (mdL q + 11) + (rmd d).locals ≤ R.locals := by show 8 + (mdL q + 11) + 64 * d ≤ R.locals; omega
  have hstk : ((as.reverse ++ st).map (cv ad)) = (as.map (cv ad)).reverse ++ st.map (cv ad) := by simp
  by_cases hnz : nest = 0
  · rw [if_pos hnz] at hw
    exact va_runS ⟨hx, hb, hml, hown, hts⟩ hM ⟨⟨rfl, rfl, hR.1, hlo, hpay, List.mem_cons_self, hts _ w1, hts _ w2, g1, hpn, hts _ hw⟩, hts _ (w3 hst)⟩ hpre rfl (by simpa using hn) hls hstk (lv_room (by rw [catS_eq]; exact hcat)) hdg ⟨hR.2.2.1, hR.2.2.2⟩
  · rw [if_neg hnz] at hw
    exact va_runSN ⟨hx, hb, hml, hown, hts⟩ hM ⟨⟨⟨rfl, rfl, hR.1, hlo, hpay, List.mem_cons_self⟩, hts _ w1, hts _ w2, g1, hpn, hts _ hw⟩, hts _ (w3 hst), trivial⟩ hpre rfl (by simpa using hn) hls hstk (lv_room (by rw [catS_eq]; exact hcat)) hdg ⟨hR.2.2.1, hR.2.2.2⟩
theorem is_callV (F : FX lawq p R s m args c cells slots cc nL own ad G dC dI A sc sl d) {q : MDat} (hq : okM mt q = true) (hst : mdS q = false) {h : AH} {H : Heap} {locs : List Loc} {idx nest pos pc : Nat} {ls : Array Slot} {as st : List AV} {K : AK} (hrc : rcv (mdC q) as)
    (hn : as.length = mdP q + 1) (hlink : okW pos (if nest = 0 then .methodLink own idx (mdN q) else .methodLinkNest own idx (mdN q) "TinkerTailor") = true)
    (hM : Met l (mdN q) (wsy q) (rmd d) (va_Pc (as.map (cv ad)) (PB ad G dC dI h H.size)) (QQ ad G dC dI K (va_A (wl ad G h) H.size)) 0 0 (va_A (wl ad G h) H.size))
    (hP : va_P (dC, dI) vwCl (wl ad G h) H) (hD : va_D A (wl ad G h)) (hS : va_S A s.heap H locs) (hls : ls.size = nL) (hcat : catS st ≤ 8) (hdg : decode cc pc = .ok (.invokevirtual idx, 3)) :
    va_Run p l e R s m args below meth c H locs cells slots 0 0 (F0 m pc ls ((as.reverse ++ st).map (cv ad))) (st.map (cv ad)) (QQ ad G dC dI K (va_A (wl ad G h) H.size) (as.map (cv ad)).toArray) (va_A (wl ad G h) H.size) := by
  obtain ⟨w1, w2, -, w3⟩ := okM_1 hq
  obtain ⟨w3, w4⟩ := w3 hst
  obtain ⟨g1, g2, g3, g4, -, g5, -⟩ := okM_2 hq
  have hpay := pay_tb F w1
  have hXT := fun (U : State) (hU : U.heap = H) (hW : s.WarmedH U.vm) => XT.at F (U := U) hD hS hU hW
  obtain ⟨hx, hb, hml, hown, hts, hK, hXs, hA, hR, -⟩ := F
  simp only [okW, Bool.and_eq_true, decide_eq_true_eq] at hlink
  have hw := tb_mem hlink.1 hlink.2
  obtain ⟨a, as', rfl⟩ : ∃ a as', as = .inr (.inr (some a)) :: as' := by
    unfold rcv at hrc
    split at hrc
    · exact ⟨_, _, rfl⟩
    · exact hrc.elim
  have hsh : (shA a).1 = mdC q := hrc
  have hcell : ∃ cellB : Cell, H[ad a]? = some cellB ∧ cellB.vm.isStatics = false ∧ s.vm.findClass (mdN q).cls = some cellB.cls := by
    rcases g5 hst with ⟨hc, hcl⟩ | ⟨hc, T, N, hcl⟩
    · rw [hcl]
      have ha : ∃ i, i < 6 ∧ a = 200 + i := by
        rw [hc] at hsh
        unfold shA at hsh
        by_cases h1 : a < 100
        · rw [if_pos h1] at hsh
          exfalso
          have : ∀ a : Fin 100, ¬ ((shT[a.val]?).getD (99, 0)).1 = 20 := by decide +kernel
          exact this ⟨a, h1⟩ hsh
        · rw [if_neg h1] at hsh
          by_cases h2 : 200 ≤ a ∧ a < 206
          · exact ⟨a - 200, by omega, by omega⟩
          · rw [if_neg h2] at hsh
            by_cases h3 : 220 ≤ a ∧ a < 226
            · rw [if_pos h3] at hsh; simp at hsh
            · rw [if_neg h3] at hsh
              by_cases h4 : a = 300
              · rw [if_pos h4] at hsh; simp at hsh
              · rw [if_neg h4] at hsh; simp at hsh
      obtain ⟨i, hi, rfl⟩ := ha
      exact vk_recv (adK := fun i => ad (200 + i)) (i := i) hXs.1 hi hS
    · have hget := wl_get (ad := ad) (G := G) (h := h) (shA_lt hsh (by omega))
      rw [cellO hsh hc] at hget
      exact va_recv hK hP hcl hget
  have hpre : PreV s H (mdN q).cls (ad a) (va_Pc ((.inr (.inr (some a)) :: as').map (cv ad)) (PB ad G dC dI h H.size)) (as'.map (cv ad)) := ⟨PB_blind, hcell, fun U hU hW => ⟨rfl, by rw [hU], by rw [hU]; exact hP, va_K.moved hW.alike hK, hD.weaken (fun _ _ _ _ => trivial), hXT U hU hW⟩⟩
  have hpn : ∀ sig, parseMethodDescriptor (mdN q).desc = some sig → mdP q = sig.parameters.length := fun sig hsig => by rw [hsig] at g2; exact (Option.some.inj g2).symm
  have hlo : 8 + (mdL q + 11) + (rmd d).locals ≤ R.locals := by show 8 + (mdL q + 11) + 64 * d ≤ R.locals; omega
  have hstk : ((((.inr (.inr (some a)) :: as' : List AV)).reverse ++ st).map (cv ad)) = (as'.map (cv ad)).reverse ++ .ref (ad a) :: st.map (cv ad) := by simp [cv]
  by_cases hnz : nest = 0
  · rw [if_pos hnz] at hw
    exact va_runV ⟨hx, hb, hml, hown, hts⟩ hM ⟨⟨rfl, rfl, hR.1, hlo, hpay, List.mem_cons_self, hts _ w1, hts _ w2, g1, hpn, hts _ hw⟩, hts _ w3, hts _ w4⟩ hpre rfl (by simpa using hn) hls hstk (lv_room (by rw [catS_eq]; exact hcat)) hdg ⟨hR.2.2.1, hR.2.2.2⟩
  · rw [if_neg hnz] at hw
    exact va_runVN ⟨hx, hb, hml, hown, hts⟩ hM ⟨⟨⟨rfl, rfl, hR.1, hlo, hpay, List.mem_cons_self⟩, hts _ w1, hts _ w2, g1, hpn, hts _ hw⟩, hts _ w3, hts _ w4⟩ hpre rfl (by simpa using hn) hls hstk (lv_room (by rw [catS_eq]; exact hcat)) hdg ⟨hR.2.2.1, hR.2.2.2⟩
end IS
end
section
/-! ===== one instruction ===== -/
theorem vOK_c (k : Nat) (h : k ≤ 2147483647) : vOK (.inl (k : Int)) := ⟨by omega, by omega⟩
theorem mx_t1 : (Cond.static Lib.Math.max.name) ∈ tb ∧ (Cond.static Lib.Math.min.name) ∈ tb ∧ (Cond.initialized "java/lang/Math") ∈ tb ∧ (Cond.native arraycopyName) ∈ tb ∧ (Cond.static arraycopyName) ∈ tb ∧ (Cond.initialized "java/lang/System") ∈ tb := by decide +kernel
theorem mx_cmin : (Cond.code Lib.Math.min.name Lib.Math.min.code 2 (some .int)) ∈ tb := tb_mem (pos := 465) (by decide +kernel) (by decide +kernel)
theorem mx_cmax : (Cond.code Lib.Math.max.name Lib.Math.max.code 2 (some .int)) ∈ tb := tb_mem (pos := 475) (by decide +kernel) (by decide +kernel)
theorem nfw : nativeFrameWords "java/lang/System" "arraycopy" 5 ≤ 40 := by decide +kernel
theorem mx_code (i : Nat) {w : Cond} (h : lw_tbl[i]? = some w) (hg : goodWord w = true) : w ∈ tb := tb_mem h hg
theorem bi_c (n : Int) (h0 : -128 ≤ n) (h1 : n < 128) : (Int8.ofInt n).toInt32 = Int32.ofInt n := by
  apply Int32.toInt_inj.mp
  rw [Int8.toInt_toInt32, Int8.toInt_ofInt_of_le (by omega) (by omega), am_t ⟨by omega, by omega⟩]
theorem si_c (n : Int) (h0 : -32768 ≤ n) (h1 : n < 32768) : (Int16.ofInt n).toInt32 = Int32.ofInt n := by
  apply Int32.toInt_inj.mp
  rw [Int16.toInt_toInt32, Int16.toInt_ofInt_of_le (by omega) (by omega), am_t ⟨by omega, by omega⟩]
theorem sh_lt100 (a : Nat) (h : a < 100) : ((shT[a]?).getD (99, 0)).1 ≠ 20 ∧ ((shT[a]?).getD (99, 0)).1 ≠ 13 ∧ ((shT[a]?).getD (99, 0)).1 ≠ 14 := by
  have : ∀ a : Fin 100, ((shT[a.val]?).getD (99, 0)).1 ≠ 20 ∧ ((shT[a.val]?).getD (99, 0)).1 ≠ 13 ∧ ((shT[a.val]?).getD (99, 0)).1 ≠ 14 := by decide +kernel
  exact this ⟨a, h⟩
theorem sh_cases {a c n : Nat} (h : shA a = (c, n)) : a < 100 ∨ (200 ≤ a ∧ a < 206 ∧ c = 20) ∨ (220 ≤ a ∧ a < 226 ∧ c = 13 ∧ n = (strS.getD (a - 220) []).length) ∨ (a = 300 ∧ c = 14) ∨ c = 99 := by
  unfold shA at h
  by_cases h1 : a < 100
  · exact Or.inl h1
  · rw [if_neg h1] at h
    by_cases h2 : 200 ≤ a ∧ a < 206
    · rw [if_pos h2] at h; cases h; exact Or.inr (Or.inl ⟨h2.1, h2.2, rfl⟩)
    · rw [if_neg h2] at h
      by_cases h3 : 220 ≤ a ∧ a < 226
      · rw [if_pos h3] at h; cases h; exact Or.inr (Or.inr (Or.inl ⟨h3.1, h3.2, rfl, rfl⟩))
      · rw [if_neg h3] at h
        by_cases h4 : a = 300
        · rw [if_pos h4] at h; cases h; exact Or.inr (Or.inr (Or.inr (Or.inl ⟨h4, rfl⟩)))
        · rw [if_neg h4] at h; cases h; exact Or.inr (Or.inr (Or.inr (Or.inr rfl)))
theorem sh20 {a : Nat} (h : (shA a).1 = 20) : ∃ i, i < 6 ∧ a = 200 + i := by
  have e : shA a = (20, (shA a).2) := by rw [← h]
  rcases sh_cases e with q | ⟨q1, q2, -⟩ | ⟨-, -, q, -⟩ | ⟨-, q⟩ | q
  · have := (sh_lt100 a q).1
    unfold shA at h; rw [if_pos q] at h; exact absurd h this
  · exact ⟨a - 200, by omega, by omega⟩
  · omega
  · omega
  · omega
theorem sh13 {a : Nat} (h : (shA a).1 = 13) : ∃ i, i < 6 ∧ a = 220 + i ∧ (shA a).2 = (strS.getD i []).length := by
  have e : shA a = (13, (shA a).2) := by rw [← h]
  rcases sh_cases e with q | ⟨-, -, q⟩ | ⟨q1, q2, -, q3⟩ | ⟨-, q⟩ | q
  · have := (sh_lt100 a q).2.1
    unfold shA at h; rw [if_pos q] at h; exact absurd h this
  · omega
  · exact ⟨a - 220, by omega, by omega, q3⟩
  · omega
  · omega
theorem sh14 {a : Nat} (h : (shA a).1 = 14) : a = 300 := by
  have e : shA a = (14, (shA a).2) := by rw [← h]
  rcases sh_cases e with q | ⟨-, -, q⟩ | ⟨-, -, q, -⟩ | ⟨q, -⟩ | q
  · have := (sh_lt100 a q).2.2
    unfold shA at h; rw [if_pos q] at h; exact absurd h this
  · omega
  · omega
  · exact q
  · omega
theorem strS_ok (j : Nat) (hj : j < 6) (i : Nat) (hi : i < (strS.getD j []).length) : (strS.map List.length).getD j 0 = (strS.getD j []).length ∧ ((strS.map (fun l => l.map Int32.ofInt)).getD j []).getD i 0 = Int32.ofInt ((strS.getD j []).getD i 0) ∧ inI ((strS.getD j []).getD i 0) := by
  have h7 : (strS.getD j []).length ≤ 7 := by
    have : ∀ j : Fin 6, (strS.getD j.val []).length ≤ 7 := by decide +kernel
    exact this ⟨j, hj⟩
  have : ∀ (j : Fin 6) (i : Fin 7), i.val < (strS.getD j.val []).length → (strS.map List.length).getD j.val 0 = (strS.getD j.val []).length ∧ ((strS.map (fun l => l.map Int32.ofInt)).getD j.val []).getD i.val 0 = Int32.ofInt ((strS.getD j.val []).getD i.val 0) ∧ (-2147483648 ≤ (strS.getD j.val []).getD i.val 0 ∧ (strS.getD j.val []).getD i.val 0 ≤ 2147483647) := by decide +kernel
  exact this ⟨j, hj⟩ ⟨i, by omega⟩ hi
theorem strS_len (j : Nat) (hj : j < 6) : inI ((strS.getD j []).length : Int) := by
  have : ∀ j : Fin 6, (strS.getD j.val []).length ≤ 7 := by decide +kernel
  have := this ⟨j, hj⟩
  have h7 : (strS.getD j []).length ≤ 7 := this
  exact ⟨by omega, by omega⟩
theorem strS_l2 (j : Nat) (hj : j < 6) : (strS.map List.length).getD j 0 = (strS.getD j []).length := by
  have : ∀ j : Fin 6, (strS.map List.length).getD j.val 0 = (strS.getD j.val []).length := by decide +kernel
  exact this ⟨j, hj⟩
section IS
variable {mt : List MDat} {lawq : Bool} {p : Program} {l : Launch} {e : Env} {R : Room} {s : State} {m : MethodId} {args : Array Value} {below : List Frame} {meth : Method} {c : Code} {cells slots : Nat} {Q : State → Prop} {cc : ByteArray} {nL : Nat} {own : String} {ad : Nat → Nat} {G : ClassId × (ClassId × ClassId)} {dC : Nat → ClassId} {dI : Nat → Nat → Nat} {A : Nat → Prop} {sc : Int → Int} {sl : Int} {d : Nat}
theorem is_swA {z : Int} {J : Nat → Prop} : ∀ (ts : List Nat) (lo : Int) (i : Nat) (t : Nat), swA z J lo ts → ts[i]? = some t → z = lo + (i : Int) → J t
  | [], lo, i, t, h, ht, hz => by simp at ht
  | t0 :: ts, lo, 0, t, h, ht, hz => by
    simp at ht
    subst ht
    exact h.1 (by omega)
  | t0 :: ts, lo, i + 1, t, h, ht, hz => is_swA ts (lo + 1) i t h.2 (by simpa using ht) (by omega)
theorem okTs_get {bs : List ABlk} {pc : Int} : ∀ (ts : List Nat) (os : List Int) (i : Nat) (o : Int), okTs bs pc ts os = true → os[i]? = some o → ∃ t, ts[i]? = some t ∧ okT bs t (pc + o) = true
  | [], [], i, o, h, ho => by simp at ho
  | [], _ :: _, i, o, h, ho => by cases h
  | _ :: _, [], i, o, h, ho => by cases h
  | t :: ts, o0 :: os, i, o, h, ho => by
    unfold okTs at h
    rw [Bool.and_eq_true] at h
    cases i with
    | zero => simp at ho; subst ho; exact ⟨t, rfl, h.1⟩
    | succ i =>
      obtain ⟨t', a, b⟩ := okTs_get ts os i o h.2 (by simpa using ho)
      exact ⟨t', by simpa using a, b⟩
theorem is_lkA {bs : List ABlk} {pc : Int} {z : Int} {J : Nat → Prop} {d0 : Nat} {dflt : Int} : ∀ (ps : List (Int × Int)) (ts : List Nat), lkA z J d0 ps ts → okT bs d0 (pc + dflt) = true → okTs bs pc ts (ps.map (fun q => q.2)) = true → ∃ t, J t ∧ okT bs t (pc + Op.lookupswitch.offset ps dflt z) = true
  | [], [], h, hd, ht => ⟨d0, h, hd⟩
  | [], _ :: _, h, hd, ht => by simp [okTs] at ht
  | (a, o) :: ps, [], h, hd, ht => h.elim
  | (a, o) :: ps, t :: ts, h, hd, ht => by
    simp only [List.map_cons, okTs, Bool.and_eq_true] at ht
    by_cases hz : z = a
    · refine ⟨t, h.1 hz, ?_⟩
      have : Op.lookupswitch.offset ((a, o) :: ps) dflt z = o := by
        unfold Op.lookupswitch.offset
        simp [hz]
      rw [this]; exact ht.1
    · have : Op.lookupswitch.offset ((a, o) :: ps) dflt z = Op.lookupswitch.offset ps dflt z := by
        conv => lhs; unfold Op.lookupswitch.offset
        simp [hz, Ne.symm hz]
      rw [this]
      exact is_lkA ps ts (h.2 hz) hd ht.2
/-- what a callee gives -/
def TOK (mt : List MDat) (l : Launch) (d : Nat) (T : AT) : Prop := ∀ (id : Nat) (as : List AV) (h : AH) (K : AK), T id as h K → ∀ q, mt[id]? = some q → (mdS q = true ∨ rcv (mdC q) as) ∧ (hOK h → (∀ v ∈ as, vOK v) → ∀ (ad : Nat → Nat) (G : ClassId × (ClassId × ClassId)) (dC : Nat → ClassId) (dI : Nat → Nat → Nat) (sz : Nat), Met l (mdN q) (wsy q) (rmd d) (va_Pc (as.map (cv ad)) (PB ad G dC dI h sz)) (QQ ad G dC dI K (va_A (wl ad G h) sz)) 0 0 (va_A (wl ad G h) sz))
/-- what a block gives -/
def JOK (p : Program) (l : Launch) (e : Env) (R : Room) (s : State) (m : MethodId) (args : Array Value) (below : List Frame) (meth : Method) (c : Code) (cells slots : Nat) (Q : State → Prop) (nL : Nat) (ad : Nat → Nat) (G : ClassId × (ClassId × ClassId)) (dC : Nat → ClassId) (dI : Nat → Nat → Nat) (A : Nat → Prop) (bs : List ABlk) (J : AJ) : Prop :=
  ∀ (t : Nat) (q : ABlk) (L : LL) (st : List AV) (h : AH) (H : Heap) (locs : List Loc) (ls : Array Slot), bs[t]? = some q → J t L st h → SS s ad G dC dI A nL ls L st h H locs → W p l e R s m args below meth c H locs cells slots Q (F0 m q.1 ls (st.map (cv ad)))
theorem exS_sound {T : AT} {J : AJ} {K : AK} {bs : List ABlk} {rt : Option FieldType} (F : FX lawq p R s m args c cells slots cc nL own ad G dC dI A sc sl d) (hmt : ∀ (id : Nat) (q : MDat), mt[id]? = some q → okM mt q = true) (hT : TOK mt l d T)
    (hJ : JOK p l e R s m args below meth c cells slots Q nL ad G dC dI A bs J)
    (hRet : ∀ (i : Instr) (x : List Nat) (pc : Nat) (r : Option AV) (h : AH) (H : Heap) (locs : List Loc) (ls : Array Slot), decode cc pc = .ok (i, 1) → okI mt lawq nL own bs rt pc i x = true → isRet i x r → K r h → (∀ v, r = some v → vOK v) → hOK h → va_P (dC, dI) vwCl (wl ad G h) H → va_D A (wl ad G h) → va_S A s.heap H locs → W p l e R s m args below meth c H locs cells slots Q (F0 m pc ls (r.toList.map (cv ad))))
    {i : Instr} {x : List Nat} {pc : Nat} {L : LL} {st : List AV} {h : AH} {k : LL → List AV → AH → Prop} {H : Heap} {locs : List Loc} {ls : Array Slot} (hd : okD cc pc i = true) (hok : okI mt lawq nL own bs rt pc i x = true) (S : SS s ad G dC dI A nL ls L st h H locs)
    (hk : ∀ (L' : LL) (st' : List AV) (h' : AH) (H' : Heap) (locs' : List Loc) (ls' : Array Slot), k L' st' h' → SS s ad G dC dI A nL ls' L' st' h' H' locs' → W p l e R s m args below meth c H' locs' cells slots Q (F0 m (pc + ilen i) ls' (st'.map (cv ad))))
    (he : exS sc sl T J K i x L st h k) : W p l e R s m args below meth c H locs cells slots Q (F0 m pc ls (st.map (cv ad))) := by
  have F' := F
  obtain ⟨hx, hb, hml, hown, hts, hK, hXT, hA, hRm, hlaw⟩ := F'
  obtain ⟨sL, sS, sV, sH, sP, sD, sG⟩ := S
  cases i with
  | nop =>
    dsimp only [exS] at he
    split at he
    · next t _ =>
      obtain ⟨q, h1, h2⟩ := okT_pc hok
      have := hJ t q L st h H locs ls h1 he ⟨sL, sS, sV, sH, sP, sD, sG⟩
      rw [show q.1 = pc by omega] at this
      exact this
    · exact he.elim
  | iconst n =>
    simp only [okI, Bool.and_eq_true, decide_eq_true_eq] at hok
    exact lv_iconst hx hb (okD_1 hd) rfl (hk L _ h H locs ls he ⟨sL, vOK_cons ⟨by omega, by omega⟩ sS, sV, sH, sP, sD, sG⟩)
  | bipush n =>
    simp only [okI, Bool.and_eq_true, decide_eq_true_eq] at hok
    exact lv_bipush hx hb (okD_1 hd) (bi_c n hok.1 hok.2) (hk L _ h H locs ls he ⟨sL, vOK_cons ⟨by omega, by omega⟩ sS, sV, sH, sP, sD, sG⟩)
  | sipush n =>
    simp only [okI, Bool.and_eq_true, decide_eq_true_eq] at hok
    exact lv_sipush hx hb (okD_1 hd) (si_c n hok.1 hok.2) (hk L _ h H locs ls he ⟨sL, vOK_cons ⟨by omega, by omega⟩ sS, sV, sH, sP, sD, sG⟩)
  | lconst n =>
    refine lv_lconst hx hb (okD_1 hd) (am_Nat n.val).symm (hk L _ h H locs ls he ⟨sL, vOK_cons ⟨by omega, by omega⟩ sS, sV, sH, sP, sD, sG⟩)
  | iadd =>
    dsimp only [exS] at he
    split at he
    · next y z st =>
      obtain ⟨vy, sS⟩ := vOK_st sS
      obtain ⟨vz, sS⟩ := vOK_st sS
      split at he
      · refine lv_iadd hx hb (okD_1 hd) ?_
        rw [am_add]
        exact hk L _ h H locs ls he.2 ⟨sL, vOK_cons he.1 sS, sV, sH, sP, sD, sG⟩
      · refine lv_iadd hx hb (okD_1 hd) ?_
        rw [am_add, ← am_wrap]
        exact hk L _ h H locs ls he ⟨sL, vOK_cons (am_wrapI _) sS, sV, sH, sP, sD, sG⟩
    · exact he.elim
  | ldc idx =>
    dsimp only [exS] at he
    split at he
    · next a b tl =>
      cases tl with
      | nil => cases hok
      | cons pos tl =>
      simp only [okI, Bool.and_eq_true, decide_eq_true_eq, okW] at hok
      exact lv_ldc hx hb hown (hts _ (tb_mem hok.2.2.1 hok.2.2.2)) (okD_1 hd) (hk L _ h H locs ls he ⟨sL, vOK_cons ⟨by omega, by omega⟩ sS, sV, sH, sP, sD, sG⟩)
    · next q =>
      simp only [okI, Bool.and_eq_true, decide_eq_true_eq] at hok
      obtain ⟨ho, hq, rfl⟩ := hok
      subst ho
      exact va_ldcS hx hb hown (hXT.2.2.2 q hq) (okD_1 hd) (hk L _ h H locs ls he ⟨sL, vOK_cons trivial sS, sV, sH, sP, sD, sG⟩)
    · exact he.elim
  | ldc_w idx =>
    dsimp only [exS] at he
    split at he
    · next a b tl =>
      cases tl with
      | nil => cases hok
      | cons pos tl =>
      simp only [okI, Bool.and_eq_true, decide_eq_true_eq, okW] at hok
      exact lv_ldcw hx hb hown (hts _ (tb_mem hok.2.2.1 hok.2.2.2)) (okD_1 hd) (hk L _ h H locs ls he ⟨sL, vOK_cons ⟨by omega, by omega⟩ sS, sV, sH, sP, sD, sG⟩)
    · exact he.elim
  | ldc2_w idx =>
    dsimp only [exS] at he
    split at he
    · next a b tl =>
      cases tl with
      | nil => cases hok
      | cons pos tl =>
      simp only [okI, Bool.and_eq_true, decide_eq_true_eq, okW] at hok
      exact lv_ldc2 hx hb hown (hts _ (tb_mem hok.2.2.1 hok.2.2.2)) (okD_1 hd) (hk L _ h H locs ls he ⟨sL, vOK_cons ⟨by omega, by omega⟩ sS, sV, sH, sP, sD, sG⟩)
    · exact he.elim
  | iload_n n =>
    dsimp only [exS] at he
    obtain ⟨z, hz, he⟩ := lk_0 he
    exact lv_iload_n hx hb (okD_1 hd) rfl (sL.2.2 _ _ hz) (hk L _ h H locs ls he ⟨sL, vOK_cons (sV _ _ hz) sS, sV, sH, sP, sD, sG⟩)
  | iload n =>
    dsimp only [exS] at he
    obtain ⟨z, hz, he⟩ := lk_0 he
    exact lv_iload hx hb (okD_1 hd) (sL.2.2 _ _ hz) (hk L _ h H locs ls he ⟨sL, vOK_cons (sV _ _ hz) sS, sV, sH, sP, sD, sG⟩)
  | lload_n n =>
    dsimp only [exS] at he
    obtain ⟨z, hz, he⟩ := lk_1 he
    exact lv_lload_n hx hb (okD_1 hd) rfl (sL.2.2 _ _ hz) (hk L _ h H locs ls he ⟨sL, vOK_cons (sV _ _ hz) sS, sV, sH, sP, sD, sG⟩)
  | lload n =>
    dsimp only [exS] at he
    obtain ⟨z, hz, he⟩ := lk_1 he
    exact lv_lload hx hb (okD_1 hd) (sL.2.2 _ _ hz) (hk L _ h H locs ls he ⟨sL, vOK_cons (sV _ _ hz) sS, sV, sH, sP, sD, sG⟩)
  | aload_n n =>
    dsimp only [exS] at he
    obtain ⟨z, hz, he⟩ := lk_2 he
    exact lv_aload_n hx hb (okD_1 hd) rfl (sL.2.2 _ _ hz) (hk L _ h H locs ls he ⟨sL, vOK_cons (sV _ _ hz) sS, sV, sH, sP, sD, sG⟩)
  | aload n =>
    dsimp only [exS] at he
    obtain ⟨z, hz, he⟩ := lk_2 he
    exact lv_aload hx hb (okD_1 hd) (sL.2.2 _ _ hz) (hk L _ h H locs ls he ⟨sL, vOK_cons (sV _ _ hz) sS, sV, sH, sP, sD, sG⟩)
  | istore_n n =>
    simp only [okI, decide_eq_true_eq] at hok
    dsimp only [exS] at he
    split at he
    · next z st =>
      obtain ⟨vz, sS⟩ := vOK_st sS
      exact lv_istore_n hx hb (okD_1 hd) rfl sL.has hok rfl (fun ls' hl' => hk _ _ h H locs ls' he ⟨LH.set (ls := ls) hl', sS, LOK.set sV vz, sH, sP, sD, sG⟩)
    · exact he.elim
  | istore n =>
    simp only [okI, decide_eq_true_eq] at hok
    dsimp only [exS] at he
    split at he
    · next z st =>
      obtain ⟨vz, sS⟩ := vOK_st sS
      exact lv_istore hx hb (okD_1 hd) sL.has hok rfl (fun ls' hl' => hk _ _ h H locs ls' he ⟨LH.set (ls := ls) hl', sS, LOK.set sV vz, sH, sP, sD, sG⟩)
    · exact he.elim
  | lstore_n n =>
    simp only [okI, decide_eq_true_eq] at hok
    dsimp only [exS] at he
    split at he
    · next z st =>
      obtain ⟨vz, sS⟩ := vOK_st sS
      exact lv_lstore_n hx hb (okD_1 hd) rfl sL.has hok rfl (fun ls' hl' => hk _ _ h H locs ls' he ⟨LH.set2 (ls := ls) hl', sS, LOK.set2 sV vz, sH, sP, sD, sG⟩)
    · exact he.elim
  | lstore n =>
    simp only [okI, decide_eq_true_eq] at hok
    dsimp only [exS] at he
    split at he
    · next z st =>
      obtain ⟨vz, sS⟩ := vOK_st sS
      exact lv_lstore hx hb (okD_1 hd) sL.has hok rfl (fun ls' hl' => hk _ _ h H locs ls' he ⟨LH.set2 (ls := ls) hl', sS, LOK.set2 sV vz, sH, sP, sD, sG⟩)
    · exact he.elim
  | astore_n n =>
    simp only [okI, decide_eq_true_eq] at hok
    dsimp only [exS] at he
    split at he
    · next z st =>
      obtain ⟨vz, sS⟩ := vOK_st sS
      exact lv_astore_n hx hb (okD_1 hd) rfl sL.has hok rfl (fun ls' hl' => hk _ _ h H locs ls' he ⟨LH.set (ls := ls) hl', sS, LOK.set sV vz, sH, sP, sD, sG⟩)
    · exact he.elim
  | astore n =>
    simp only [okI, decide_eq_true_eq] at hok
    dsimp only [exS] at he
    split at he
    · next z st =>
      obtain ⟨vz, sS⟩ := vOK_st sS
      exact lv_astore hx hb (okD_1 hd) sL.has hok rfl (fun ls' hl' => hk _ _ h H locs ls' he ⟨LH.set (ls := ls) hl', sS, LOK.set sV vz, sH, sP, sD, sG⟩)
    · exact he.elim
  | iinc n c =>
    simp only [okI, decide_eq_true_eq] at hok
    dsimp only [exS] at he
    obtain ⟨z, hz, he⟩ := lk_0 he
    have hm := List.getElem?_of_mem (lvOf_mem (ad := ad) hz)
    obtain ⟨j, hj⟩ := hm
    exact lv_iinc hx hb (okD_1 hd) sL.has hj (am_add _ _) hok rfl (fun ls' hl' => hk _ _ h H locs ls' he.2 ⟨LH.set (ls := ls) (v := .inl (z + c)) hl', sS, LOK.set sV (v := .inl (z + c)) he.1, sH, sP, sD, sG⟩)
  | isub =>
    dsimp only [exS] at he
    split at he
    · next y z st =>
      obtain ⟨vy, sS⟩ := vOK_st sS
      obtain ⟨vz, sS⟩ := vOK_st sS
      refine lv_isub hx hb (okD_1 hd) ?_
      rw [am_sub]
      exact hk L _ h H locs ls he.2 ⟨sL, vOK_cons he.1 sS, sV, sH, sP, sD, sG⟩
    · exact he.elim
  | imul =>
    dsimp only [exS] at he
    split at he
    · next y z st =>
      obtain ⟨vy, sS⟩ := vOK_st sS
      obtain ⟨vz, sS⟩ := vOK_st sS
      split at he
      · refine lv_imul hx hb (okD_1 hd) ?_
        rw [am_mul]
        exact hk L _ h H locs ls he.2 ⟨sL, vOK_cons he.1 sS, sV, sH, sP, sD, sG⟩
      · refine lv_imul hx hb (okD_1 hd) ?_
        rw [am_mul, ← am_wrap]
        exact hk L _ h H locs ls he ⟨sL, vOK_cons (am_wrapI _) sS, sV, sH, sP, sD, sG⟩
    · exact he.elim
  | idiv =>
    dsimp only [exS] at he
    split at he
    · next y z st =>
      obtain ⟨vy, sS⟩ := vOK_st sS
      obtain ⟨vz, sS⟩ := vOK_st sS
      refine lv_idiv hx hb (okD_1 hd) (am_ne0 vy he.2.1) ?_
      rw [am_div vz vy he.1 he.2.1]
      exact hk L _ h H locs ls he.2.2 ⟨sL, vOK_cons (am_divI vz he.1 he.2.1) sS, sV, sH, sP, sD, sG⟩
    · exact he.elim
  | irem =>
    dsimp only [exS] at he
    split at he
    · next y z st =>
      obtain ⟨vy, sS⟩ := vOK_st sS
      obtain ⟨vz, sS⟩ := vOK_st sS
      refine lv_irem hx hb (okD_1 hd) (am_ne0 vy he.2.1) ?_
      rw [am_rem vz vy he.1 he.2.1]
      exact hk L _ h H locs ls he.2.2 ⟨sL, vOK_cons (am_modI vy he.2.1) sS, sV, sH, sP, sD, sG⟩
    · exact he.elim
  | ineg =>
    dsimp only [exS] at he
    split at he
    · next z st =>
      obtain ⟨vz, sS⟩ := vOK_st sS
      refine lv_ineg hx hb (okD_1 hd) ?_
      rw [am_neg]
      exact hk L _ h H locs ls he.2 ⟨sL, vOK_cons he.1 sS, sV, sH, sP, sD, sG⟩
    · exact he.elim
  | iand =>
    dsimp only [exS] at he
    split at he
    · next y z st =>
      obtain ⟨vy, sS⟩ := vOK_st sS
      obtain ⟨vz, sS⟩ := vOK_st sS
      split at he
      · refine lv_iand hx hb (okD_1 hd) ?_
        rw [am_and he.1 he.2.1]
        exact hk L _ h H locs ls he.2.2 ⟨sL, vOK_cons (am_lti (am_bnd _ _ (am_nlt vz he.1) (am_nlt vy he.2.1)).1) sS, sV, sH, sP, sD, sG⟩
      · refine lv_iand hx hb (okD_1 hd) ?_
        rw [he.1, am_mask]
        exact hk L _ h H locs ls he.2 ⟨sL, vOK_cons ⟨by omega, by omega⟩ sS, sV, sH, sP, sD, sG⟩
    · exact he.elim
  | ior =>
    dsimp only [exS] at he
    split at he
    · next y z st =>
      obtain ⟨vy, sS⟩ := vOK_st sS
      obtain ⟨vz, sS⟩ := vOK_st sS
      refine lv_ior hx hb (okD_1 hd) ?_
      rw [am_or he.1 he.2.1]
      exact hk L _ h H locs ls he.2.2 ⟨sL, vOK_cons (am_lti (am_bnd _ _ (am_nlt vz he.1) (am_nlt vy he.2.1)).2.1) sS, sV, sH, sP, sD, sG⟩
    · exact he.elim
  | ixor =>
    dsimp only [exS] at he
    split at he
    · next y z st =>
      obtain ⟨vy, sS⟩ := vOK_st sS
      obtain ⟨vz, sS⟩ := vOK_st sS
      refine lv_ixor hx hb (okD_1 hd) ?_
      rw [am_xor he.1 he.2.1]
      exact hk L _ h H locs ls he.2.2 ⟨sL, vOK_cons (am_lti (am_bnd _ _ (am_nlt vz he.1) (am_nlt vy he.2.1)).2.2) sS, sV, sH, sP, sD, sG⟩
    · exact he.elim
  | ishl =>
    dsimp only [exS] at he
    split at he
    · next y z st =>
      obtain ⟨vy, sS⟩ := vOK_st sS
      obtain ⟨vz, sS⟩ := vOK_st sS
      refine lv_ishl hx hb (okD_1 hd) ?_
      rw [am_shl he.1 he.2.1 he.2.2.1 he.2.2.2.1]
      exact hk L _ h H locs ls he.2.2.2.2 ⟨sL, vOK_cons he.2.2.2.1 sS, sV, sH, sP, sD, sG⟩
    · exact he.elim
  | ishr =>
    dsimp only [exS] at he
    split at he
    · next y z st =>
      obtain ⟨vy, sS⟩ := vOK_st sS
      obtain ⟨vz, sS⟩ := vOK_st sS
      refine lv_ishr hx hb (okD_1 hd) ?_
      rw [am_shr vz he.1 he.2.1 he.2.2.1]
      exact hk L _ h H locs ls he.2.2.2 ⟨sL, vOK_cons (am_shrI vz he.1) sS, sV, sH, sP, sD, sG⟩
    · exact he.elim
  | iushr =>
    dsimp only [exS] at he
    split at he
    · next y z st =>
      obtain ⟨vy, sS⟩ := vOK_st sS
      obtain ⟨vz, sS⟩ := vOK_st sS
      exact lv_iushr hx hb (okD_1 hd) (am_ushr vz he.1 he.2.1 he.2.2.1) (hk L _ h H locs ls he.2.2.2 ⟨sL, vOK_cons (am_shrI vz he.1) sS, sV, sH, sP, sD, sG⟩)
    · exact he.elim
  | lshl =>
    dsimp only [exS] at he
    split at he
    · next y z st =>
      obtain ⟨vy, sS⟩ := vOK_st sS
      obtain ⟨vz, sS⟩ := vOK_st sS
      exact lv_lshl hx hb (okD_1 hd) (am_Shl he.1 he.2.1 he.2.2.1 vz he.2.2.2.1) (hk L _ h H locs ls he.2.2.2.2 ⟨sL, vOK_cons he.2.2.2.1 sS, sV, sH, sP, sD, sG⟩)
    · exact he.elim
  | ladd =>
    dsimp only [exS] at he
    split at he
    · next y z st =>
      obtain ⟨vy, sS⟩ := vOK_st sS
      obtain ⟨vz, sS⟩ := vOK_st sS
      refine lv_ladd hx hb (okD_1 hd) ?_
      rw [am_Add]
      exact hk L _ h H locs ls he.2 ⟨sL, vOK_cons he.1 sS, sV, sH, sP, sD, sG⟩
    · exact he.elim
  | lsub =>
    dsimp only [exS] at he
    split at he
    · next y z st =>
      obtain ⟨vy, sS⟩ := vOK_st sS
      obtain ⟨vz, sS⟩ := vOK_st sS
      refine lv_lsub hx hb (okD_1 hd) ?_
      rw [am_Sub]
      exact hk L _ h H locs ls he.2 ⟨sL, vOK_cons he.1 sS, sV, sH, sP, sD, sG⟩
    · exact he.elim
  | lmul =>
    dsimp only [exS] at he
    split at he
    · next y z st =>
      obtain ⟨vy, sS⟩ := vOK_st sS
      obtain ⟨vz, sS⟩ := vOK_st sS
      refine lv_lmul hx hb (okD_1 hd) ?_
      rw [am_Mul]
      exact hk L _ h H locs ls he.2 ⟨sL, vOK_cons he.1 sS, sV, sH, sP, sD, sG⟩
    · exact he.elim
  | ldiv =>
    dsimp only [exS] at he
    split at he
    · next y z st =>
      obtain ⟨vy, sS⟩ := vOK_st sS
      obtain ⟨vz, sS⟩ := vOK_st sS
      refine lv_ldiv hx hb (okD_1 hd) (am_Ne0 vy he.2.1) ?_
      rw [am_Div vz vy he.1 he.2.1]
      exact hk L _ h H locs ls he.2.2 ⟨sL, vOK_cons (am_DivI vz he.1 he.2.1) sS, sV, sH, sP, sD, sG⟩
    · exact he.elim
  | lrem =>
    dsimp only [exS] at he
    split at he
    · next y z st =>
      obtain ⟨vy, sS⟩ := vOK_st sS
      obtain ⟨vz, sS⟩ := vOK_st sS
      refine lv_lrem hx hb (okD_1 hd) (am_Ne0 vy he.2.1) ?_
      rw [am_Rem vz vy he.1 he.2.1]
      exact hk L _ h H locs ls he.2.2 ⟨sL, vOK_cons (am_ModI vy he.2.1) sS, sV, sH, sP, sD, sG⟩
    · exact he.elim
  | lcmp =>
    dsimp only [exS] at he
    split at he
    · next y z st =>
      obtain ⟨vy, sS⟩ := vOK_st sS
      obtain ⟨vz, sS⟩ := vOK_st sS
      refine W.lcmp hx hb (okD_1 hd) ?_
      rw [am_cmp vz vy]
      exact hk L _ h H locs ls he ⟨sL, vOK_cons (am_lczI _ _) sS, sV, sH, sP, sD, sG⟩
    · exact he.elim
  | i2l =>
    dsimp only [exS] at he
    split at he
    · next z st =>
      obtain ⟨vz, sS⟩ := vOK_st sS
      have vL : inL z := ⟨by have := vz.1; omega, by have := vz.2; omega⟩
      exact lv_i2l hx hb (okD_1 hd) (am_il vz) (hk L _ h H locs ls he ⟨sL, vOK_cons vL sS, sV, sH, sP, sD, sG⟩)
    · exact he.elim
  | l2i =>
    dsimp only [exS] at he
    split at he
    · next z st =>
      obtain ⟨vz, sS⟩ := vOK_st sS
      exact lv_l2i hx hb (okD_1 hd) am_li (hk L _ h H locs ls he.2 ⟨sL, vOK_cons he.1 sS, sV, sH, sP, sD, sG⟩)
    · exact he.elim
  | i2c =>
    dsimp only [exS] at he
    split at he
    · next z st =>
      obtain ⟨vz, sS⟩ := vOK_st sS
      exact lv_i2c hx hb (okD_1 hd) (am_i2c he.1 he.2.1) (hk L _ h H locs ls he.2.2 ⟨sL, vOK_cons vz sS, sV, sH, sP, sD, sG⟩)
    · exact he.elim
  | pop =>
    dsimp only [exS] at he
    split at he
    · next v st =>
      obtain ⟨vz, sS⟩ := vOK_st sS
      exact lv_pop hx hb (okD_1 hd) (by rw [cat_cv]; exact he.1) (hk L _ h H locs ls he.2 ⟨sL, sS, sV, sH, sP, sD, sG⟩)
    · exact he.elim
  | dup =>
    dsimp only [exS] at he
    split at he
    · next v st =>
      obtain ⟨vz, sS'⟩ := vOK_st sS
      exact lv_dup hx hb (okD_1 hd) (by rw [cat_cv]; exact he.1) (hk L _ h H locs ls he.2 ⟨sL, vOK_cons vz sS, sV, sH, sP, sD, sG⟩)
    · exact he.elim
  | dup2 =>
    dsimp only [exS] at he
    split at he
    · next v w st =>
      obtain ⟨vz, sS'⟩ := vOK_st sS
      obtain ⟨vw, sS''⟩ := vOK_st sS'
      exact lv_dup2_11 hx hb (okD_1 hd) (by rw [cat_cv]; exact he.1) (by rw [cat_cv]; exact he.2.1) (hk L _ h H locs ls he.2.2 ⟨sL, vOK_cons vz (vOK_cons vw sS), sV, sH, sP, sD, sG⟩)
    · exact he.elim
  | dup_x1 =>
    dsimp only [exS] at he
    split at he
    · next v w st =>
      obtain ⟨vz, sS'⟩ := vOK_st sS
      exact lv_dup_x1 hx hb (okD_1 hd) (by rw [cat_cv]; exact he.1) (by rw [cat_cv]; exact he.2.1) (hk L _ h H locs ls he.2.2 ⟨sL, vOK_cons vz (vOK_cons (vOK_st sS').1 (vOK_cons vz (vOK_st sS').2)), sV, sH, sP, sD, sG⟩)
    · exact he.elim
  | if_icmp cd off =>
    dsimp only [exS] at he
    split at he
    · next t tl y z st =>
      obtain ⟨vy, sS⟩ := vOK_st sS
      obtain ⟨vz, sS⟩ := vOK_st sS
      obtain ⟨q, h1, h2⟩ := okT_pc hok
      exact is_cmp F vz vy (okD_1 hd) h2.symm (fun hc => hJ t q L st h H locs ls h1 (he.1 hc) ⟨sL, sS, sV, sH, sP, sD, sG⟩) (fun hc => hk L st h H locs ls (he.2 hc) ⟨sL, sS, sV, sH, sP, sD, sG⟩)
    · exact he.elim
  | ifCond cd off =>
    dsimp only [exS] at he
    split at he
    · next t tl z st =>
      obtain ⟨vz, sS⟩ := vOK_st sS
      obtain ⟨q, h1, h2⟩ := okT_pc hok
      exact is_if F vz (okD_1 hd) h2.symm (fun hc => hJ t q L st h H locs ls h1 (he.1 hc) ⟨sL, sS, sV, sH, sP, sD, sG⟩) (fun hc => hk L st h H locs ls (he.2 hc) ⟨sL, sS, sV, sH, sP, sD, sG⟩)
    · exact he.elim
  | goto off =>
    dsimp only [exS] at he
    split at he
    · next t tl =>
      obtain ⟨q, h1, h2⟩ := okT_pc hok
      exact lv_goto hx hb (okD_1 hd) h2.symm (hJ t q L st h H locs ls h1 he ⟨sL, sS, sV, sH, sP, sD, sG⟩)
    · exact he.elim
  | tableswitch df lo hi offs =>
    dsimp only [exS] at he
    have hdd : ∃ len, decode cc pc = .ok (.tableswitch df lo hi offs, len) := by
      dsimp only [okD] at hd
      split at hd
      · next i' n' hq => simp only [decide_eq_true_eq] at hd; exact ⟨n', by rw [hq, hd]⟩
      · cases hd
    obtain ⟨len, hdd⟩ := hdd
    split at he
    · next t ts z st =>
      obtain ⟨vz, sS⟩ := vOK_st sS
      simp only [okI, Bool.and_eq_true, decide_eq_true_eq] at hok
      obtain ⟨o1, o2, o3⟩ := hok
      by_cases hz : z < lo ∨ hi < z
      · obtain ⟨q, h1, h2⟩ := okT_pc o1
        exact lv_tableOut hx hb hdd (by rw [am_t vz]; exact hz) h2.symm (hJ t q L st h H locs ls h1 (he.1 hz) ⟨sL, sS, sV, sH, sP, sD, sG⟩)
      · have hlen : (z - lo).toNat < offs.toList.length := by omega
        obtain ⟨o, ho⟩ : ∃ o, offs.toList[(z - lo).toNat]? = some o := ⟨_, List.getElem?_eq_getElem hlen⟩
        obtain ⟨t', ht', hpt⟩ := okTs_get ts offs.toList (z - lo).toNat o o2 ho
        obtain ⟨q, h1, h2⟩ := okT_pc hpt
        exact lv_tableIn hx hb hdd (by rw [am_t vz]; omega) (by rw [am_t vz]; omega) (by rw [am_t vz, ← Array.getElem?_toList]; exact ho) h2.symm (hJ t' q L st h H locs ls h1 (is_swA ts lo _ t' he.2 ht' (by omega)) ⟨sL, sS, sV, sH, sP, sD, sG⟩)
    · exact he.elim
  | lookupswitch df ps =>
    dsimp only [exS] at he
    have hdd : ∃ len, decode cc pc = .ok (.lookupswitch df ps, len) := by
      dsimp only [okD] at hd
      split at hd
      · next i' n' hq => simp only [decide_eq_true_eq] at hd; exact ⟨n', by rw [hq, hd]⟩
      · cases hd
    obtain ⟨len, hdd⟩ := hdd
    split at he
    · next t ts z st =>
      obtain ⟨vz, sS⟩ := vOK_st sS
      simp only [okI, Bool.and_eq_true] at hok
      obtain ⟨o1, o2, o3, o4⟩ := hok
      obtain ⟨t', hj, hpt⟩ := is_lkA ps.toList ts he o1 o2
      obtain ⟨q, h1, h2⟩ := okT_pc hpt
      exact lv_lookup hx hb hdd o3 (by rw [am_t vz]) h2.symm (hJ t' q L st h H locs ls h1 hj ⟨sL, sS, sV, sH, sP, sD, sG⟩)
    · exact he.elim
  | getstatic idx =>
    dsimp only [exS] at he
    split at he
    · next tl =>
      cases tl with
      | nil => cases hok
      | cons pos tl =>
      simp only [okI, Bool.and_eq_true, decide_eq_true_eq, okW] at hok
      exact va_gets hx hb hXT.2.1 sG hown (hts _ (tb_mem hok.1 hok.2)) (fun _ h9 => h9) (okD_1 hd) (hk L (.inl 1 :: st) h H locs ls he ⟨sL, vOK_cons ⟨by omega, by omega⟩ sS, sV, sH, sP, sD, sG⟩)
    · next tl =>
      cases tl with
      | nil => cases hok
      | cons pos tl =>
      simp only [okI, Bool.and_eq_true, decide_eq_true_eq, okW] at hok
      exact va_gets hx hb hXT.2.2.1 sG hown (hts _ (tb_mem hok.1 hok.2)) (fun _ h9 => h9) (okD_1 hd) (hk L (.inr (.inr (some 240)) :: st) h H locs ls he ⟨sL, vOK_cons trivial sS, sV, sH, sP, sD, sG⟩)
    · exact he.elim
  | getfield idx =>
    dsimp only [exS] at he
    split at he
    · next cl j tl a st =>
      obtain ⟨-, sS⟩ := vOK_st sS
      cases tl with
      | nil => cases hok
      | cons nest tl =>
      cases tl with
      | nil => cases hok
      | cons pos tl =>
      simp only [okI, Bool.and_eq_true, decide_eq_true_eq] at hok
      refine is_get (locs := locs) F sP he.1 hok.1 (okD_1 hd) ?_
      have e : fv ad h a cl j = cv ad (.inl (h.1 a (j : Int))) := by
        unfold fv
        split
        · rfl
        · next o ho => rw [ho] at hok; simp at hok
        · next h0 h1 => exact absurd (show fdK cl j = (0, (fdK cl j).2) from by rw [← hok.2]) (h0 _)
      rw [e]
      exact hk L _ h H locs ls he.2 ⟨sL, vOK_cons (sH.1 _ _) sS, sV, sH, sP, sD, sG⟩
    · next cl j o tl a st =>
      obtain ⟨-, sS⟩ := vOK_st sS
      cases tl with
      | nil => cases hok
      | cons nest tl =>
      cases tl with
      | nil => cases hok
      | cons pos tl =>
      simp only [okI] at hok
      split at hok
      · next hc20 =>
        subst hc20
        simp only [Bool.and_eq_true, decide_eq_true_eq, okW] at hok
        obtain ⟨ho, hw1, hw2⟩ := hok
        subst ho
        obtain ⟨i, hi, rfl⟩ := sh20 he.1
        refine vk_getf hx hb (hXT.1.1 i hi).2.2.1 sG hown (hts _ (tb_mem hw1 hw2)) (fun _ h9 => h9) (okD_1 hd) ?_
        have := hk L _ h H locs ls he.2 ⟨sL, vOK_cons trivial (vOK_st sS).2, sV, sH, sP, sD, sG⟩
        rw [show 200 + i + 20 = 220 + i by omega] at this
        exact this
      · simp only [Bool.and_eq_true, decide_eq_true_eq] at hok
        refine is_get (locs := locs) F sP he.1 hok.1 (okD_1 hd) ?_
        have e : fv ad h a cl j = cv ad (.inr (.inr (some (a + o)))) := by
          unfold fv
          rw [hok.2]
          rfl
        rw [e]
        exact hk L _ h H locs ls he.2 ⟨sL, vOK_cons trivial sS, sV, sH, sP, sD, sG⟩
    · next cl j tl a st =>
      obtain ⟨-, sS⟩ := vOK_st sS
      cases tl with
      | nil => cases hok
      | cons nest tl =>
      cases tl with
      | nil => cases hok
      | cons pos tl =>
      simp only [okI, Bool.and_eq_true, decide_eq_true_eq] at hok
      refine is_get (locs := locs) F sP he.1 hok.1 (okD_1 hd) ?_
      have e : fv ad h a cl j = cv ad (.inr (.inr (h.2.2 a (j : Int)))) := by
        unfold fv
        split
        · next o ho => rw [ho] at hok; simp at hok
        · next o ho => rw [ho] at hok; simp at hok
        · rfl
      rw [e]
      exact hk L _ h H locs ls he.2 ⟨sL, vOK_cons trivial sS, sV, sH, sP, sD, sG⟩
    · next tl a st =>
      obtain ⟨-, sS⟩ := vOK_st sS
      cases tl with
      | nil => cases hok
      | cons pos tl =>
      simp only [okI, okW, Bool.and_eq_true, decide_eq_true_eq] at hok
      obtain ⟨i, hi, rfl⟩ := sh20 he.1
      exact vk_getf hx hb (hXT.1.1 i hi).2.1 sG hown (hts _ (tb_mem hok.1 hok.2)) (fun _ h9 => h9) (okD_1 hd) (hk L _ h H locs ls he.2 ⟨sL, vOK_cons ⟨by omega, by omega⟩ (vOK_st sS).2, sV, sH, sP, sD, sG⟩)
    · exact he.elim
  | putfield idx =>
    dsimp only [exS] at he
    split at he
    · next cl j tl z a st =>
      obtain ⟨vz, sS⟩ := vOK_st sS
      obtain ⟨-, sS⟩ := vOK_st sS
      cases tl with
      | nil => cases hok
      | cons nest tl =>
      cases tl with
      | nil => cases hok
      | cons pos tl =>
      simp only [okI, Bool.and_eq_true, decide_eq_true_eq] at hok
      exact is_put F sP sD sG he.1 hok.1 hok.2.2 rfl rfl (fun hc => wl_upI he.1 hc hok.2.1) (okD_1 hd) (fun H1 locs1 a1 a2 a3 => hk L st _ H1 locs1 ls he.2 ⟨sL, sS, sV, sH.upI vz _ _, a1, a2, a3⟩)
    · next cl j tl b a st =>
      obtain ⟨vz, sS⟩ := vOK_st sS
      obtain ⟨-, sS⟩ := vOK_st sS
      cases tl with
      | nil => cases hok
      | cons nest tl =>
      cases tl with
      | nil => cases hok
      | cons pos tl =>
      simp only [okI, Bool.and_eq_true, decide_eq_true_eq] at hok
      exact is_put F sP sD sG he.1 hok.1 hok.2.2 rfl rfl (fun hc => wl_upR he.1 hc hok.2.1) (okD_1 hd) (fun H1 locs1 a1 a2 a3 => hk L st _ H1 locs1 ls he.2.2 ⟨sL, sS, sV, sH.upR _ _ _, a1, a2, a3⟩)
    · next cl j tl z a st =>
      obtain ⟨vz, sS⟩ := vOK_st sS
      obtain ⟨-, sS⟩ := vOK_st sS
      cases tl with
      | nil => cases hok
      | cons nest tl =>
      cases tl with
      | nil => cases hok
      | cons pos tl =>
      simp only [okI, Bool.and_eq_true, decide_eq_true_eq] at hok
      exact is_put F sP sD sG he.1 hok.1 hok.2.2 (am_bool he.2.1) (by rcases he.2.1 with rfl | rfl <;> rfl) (fun hc => wl_upI he.1 hc hok.2.1) (okD_1 hd) (fun H1 locs1 a1 a2 a3 => hk L st _ H1 locs1 ls he.2.2 ⟨sL, sS, sV, sH.upI vz _ _, a1, a2, a3⟩)
    · exact he.elim
  | iaload =>
    dsimp only [exS] at he
    split at he
    · next i a st =>
      obtain ⟨vi, sS⟩ := vOK_st sS
      obtain ⟨-, sS⟩ := vOK_st sS
      have hget := wl_get (ad := ad) (G := G) (h := h) (shA_lt he.1 (by decide))
      rw [cell10 he.1] at hget
      refine va_iald hx hb hK sP a 0 hget rfl (vp_inO vi he.2.1 he.2.2.1) (okD_1 hd) ?_
      rw [rd_eq (f := h.1) he.2.1 vi]
      exact hk L _ h H locs ls he.2.2.2 ⟨sL, vOK_cons (sH.1 _ _) sS, sV, sH, sP, sD, sG⟩
    · next i a st hne =>
      obtain ⟨vi, sS⟩ := vOK_st sS
      obtain ⟨-, sS⟩ := vOK_st sS
      have hq : lawq = true := by
        simp only [okI, Bool.or_eq_true, decide_eq_true_eq] at hok
        rcases hok with q | q
        · exact absurd q hne
        · exact q
      obtain ⟨Ln, xs, hX, hbl, hbA, hsl, hL2, hxs⟩ := hlaw hq
      obtain rfl := sh14 he.1
      have hi : i = ((i.toNat : Nat) : Int) := by omega
      have hlt : i.toNat < Ln := by omega
      refine va_sld hx hb hX hbl hbA sG (vp_inO vi he.2.1 (by omega)) (okD_1 hd) ?_
      rw [tn_clamp vi, (hxs _ hlt).2, ← hi]
      exact hk L _ h H locs ls he.2.2.2 ⟨sL, vOK_cons (by have := (hxs _ hlt).1; rw [← hi] at this; exact this) (vOK_st sS).2, sV, sH, sP, sD, sG⟩
    · exact he.elim
  | iastore =>
    dsimp only [exS] at he
    split at he
    · next z i a st =>
      obtain ⟨vz, sS⟩ := vOK_st sS
      obtain ⟨vi, sS⟩ := vOK_st sS
      obtain ⟨-, sS⟩ := vOK_st sS
      have hget := wl_get (ad := ad) (G := G) (h := h) (shA_lt he.1 (by decide))
      rw [cell10 he.1] at hget
      refine va_iast hx hb hK sP sD sG a 0 hget rfl (vp_inO vi he.2.1 he.2.2.1) (okD_1 hd) (fun H1 locs1 a1 a2 a3 => ?_)
      rw [wl_ai he.1 he.2.1 vi] at a1 a2
      exact hk L st _ H1 locs1 ls he.2.2.2 ⟨sL, sS, sV, sH.upI vz _ _, a1, a2, a3⟩
    · exact he.elim
  | laload =>
    dsimp only [exS] at he
    split at he
    · next i a st =>
      obtain ⟨vi, sS⟩ := vOK_st sS
      obtain ⟨-, sS⟩ := vOK_st sS
      have hget := wl_get (ad := ad) (G := G) (h := h) (shA_lt he.1 (by decide))
      rw [cell11 he.1] at hget
      refine va_lald hx hb hK sP a 1 hget rfl (vp_inO vi he.2.1 he.2.2.1) (okD_1 hd) ?_
      rw [rd_eq (f := h.2.1) he.2.1 vi]
      exact hk L _ h H locs ls he.2.2.2 ⟨sL, vOK_cons (sH.2 _ _) sS, sV, sH, sP, sD, sG⟩
    · exact he.elim
  | lastore =>
    dsimp only [exS] at he
    split at he
    · next z i a st =>
      obtain ⟨vz, sS⟩ := vOK_st sS
      obtain ⟨vi, sS⟩ := vOK_st sS
      obtain ⟨-, sS⟩ := vOK_st sS
      have hget := wl_get (ad := ad) (G := G) (h := h) (shA_lt he.1 (by decide))
      rw [cell11 he.1] at hget
      refine va_last hx hb hK sP sD sG a 1 hget rfl (vp_inO vi he.2.1 he.2.2.1) (okD_1 hd) (fun H1 locs1 a1 a2 a3 => ?_)
      rw [wl_al he.1 he.2.1 vi] at a1 a2
      exact hk L st _ H1 locs1 ls he.2.2.2 ⟨sL, sS, sV, sH.upL vz _ _, a1, a2, a3⟩
    · exact he.elim
  | baload =>
    dsimp only [exS] at he
    split at he
    · next i a st =>
      obtain ⟨vi, sS⟩ := vOK_st sS
      obtain ⟨-, sS⟩ := vOK_st sS
      have hget := wl_get (ad := ad) (G := G) (h := h) (shA_lt he.1 (by decide))
      rw [cell12 he.1] at hget
      refine va_zald hx hb hK sP a 2 hget rfl (vp_inO vi he.2.1 he.2.2.1) (okD_1 hd) ?_
      rw [rd_eq (f := h.1) he.2.1 vi]
      exact hk L _ h H locs ls he.2.2.2 ⟨sL, vOK_cons (sH.1 _ _) sS, sV, sH, sP, sD, sG⟩
    · next i a st hne =>
      obtain ⟨vi, sS⟩ := vOK_st sS
      obtain ⟨-, sS⟩ := vOK_st sS
      obtain ⟨j, hj, rfl, hln⟩ := sh13 he.1
      have hlt : i.toNat < (strS.getD j []).length := by omega
      obtain ⟨b1, b2, b3⟩ := strS_ok j hj i.toNat hlt
      refine va_tb hx hb (hXT.1.1 j hj).2.2.2 sG (vp_inO vi he.2.1 (by rw [b1]; omega)) (v := .int (Int32.ofInt ((strS.getD (220 + j - 220) []).getD i.toNat 0))) ?_ (okD_1 hd) ?_
      · rw [tn_clamp vi, Nat.add_sub_cancel_left]
        exact congrArg Value.int b2
      · exact hk L _ h H locs ls he.2.2.2 ⟨sL, vOK_cons (by rw [Nat.add_sub_cancel_left]; exact b3) (vOK_st sS).2, sV, sH, sP, sD, sG⟩
    · exact he.elim
  | bastore =>
    dsimp only [exS] at he
    split at he
    · next z i a st =>
      obtain ⟨vz, sS⟩ := vOK_st sS
      obtain ⟨vi, sS⟩ := vOK_st sS
      obtain ⟨-, sS⟩ := vOK_st sS
      have hget := wl_get (ad := ad) (G := G) (h := h) (shA_lt he.1 (by decide))
      rw [cell12 he.1] at hget
      refine va_zast hx hb hK sP sD sG a 2 hget rfl (vp_inO vi he.2.1 he.2.2.1) (okD_1 hd) (fun H1 locs1 a1 a2 a3 => ?_)
      rw [show vp_nar .boolean (Int32.ofInt z) = Int32.ofInt z by rcases he.2.2.2.1 with rfl | rfl <;> rfl, wl_az he.1 he.2.1 vi] at a1 a2
      exact hk L st _ H1 locs1 ls he.2.2.2.2 ⟨sL, sS, sV, sH.upI vz _ _, a1, a2, a3⟩
    · exact he.elim
  | arraylength =>
    dsimp only [exS] at he
    split at he
    · next a st =>
      obtain ⟨-, sS⟩ := vOK_st sS
      obtain ⟨j, hj, rfl, hln⟩ := sh13 he.1
      refine va_tlen hx hb (hXT.1.1 j hj).2.2.2 sG (v := Int32.ofInt ((shA (220 + j)).2 : Int)) ?_ (okD_1 hd) (hk L (.inl ((shA (220 + j)).2 : Int) :: st) h H locs ls he.2 ⟨sL, vOK_cons (by rw [hln]; exact strS_len j hj) (vOK_st sS).2, sV, sH, sP, sD, sG⟩)
      rw [hln, ← strS_l2 j hj]
      exact (am_nat _).symm
    · next a st hne =>
      obtain ⟨-, sS⟩ := vOK_st sS
      have hq : lawq = true := by
        simp only [okI, Bool.or_eq_true, decide_eq_true_eq] at hok
        rcases hok with q | q
        · exact absurd q hne
        · exact q
      obtain ⟨Ln, xs, hX, hbl, hbA, hsl, hL2, hxs⟩ := hlaw hq
      obtain rfl := sh14 he.1
      subst hsl
      refine va_slen hx hb hX hbl hbA sG (okD_1 hd) ?_
      have := hk L (.inl (Ln : Int) :: st) h H locs ls he.2 ⟨sL, vOK_cons (am_lti hL2) (vOK_st sS).2, sV, sH, sP, sD, sG⟩
      rw [List.map_cons, show cv ad (.inl (Ln : Int)) = .int (Int32.ofNat Ln) from congrArg Value.int (am_nat Ln)] at this
      exact this
    · exact he.elim
  | ireturn =>
    dsimp only [exS] at he
    split at he
    · next z =>
      exact hRet .ireturn [] pc (some (.inl z)) h H locs ls (okD_1 hd) hok (Or.inl rfl) he (fun v hv => by cases hv; exact (vOK_st sS).1) sH sP sD sG
    · next z =>
      exact hRet .ireturn [1] pc (some (.inl z)) h H locs ls (okD_1 hd) hok (Or.inr (Or.inl ⟨rfl, he.1⟩)) he.2 (fun v hv => by cases hv; exact (vOK_st sS).1) sH sP sD sG
    · next z =>
      exact hRet .ireturn [2] pc (some (.inl z)) h H locs ls (okD_1 hd) hok (Or.inr (Or.inr (Or.inl ⟨rfl, he.1⟩))) he.2 (fun v hv => by cases hv; exact (vOK_st sS).1) sH sP sD sG
    · next z =>
      exact hRet .ireturn [3] pc (some (.inl z)) h H locs ls (okD_1 hd) hok (Or.inr (Or.inr (Or.inr ⟨rfl, he.1⟩))) he.2 (fun v hv => by cases hv; exact (vOK_st sS).1) sH sP sD sG
    · exact he.elim
  | lreturn =>
    dsimp only [exS] at he
    split at he
    · next z =>
      exact hRet .lreturn x pc (some (.inr (.inl z))) h H locs ls (okD_1 hd) hok trivial he (fun v hv => by cases hv; exact (vOK_st sS).1) sH sP sD sG
    · exact he.elim
  | areturn =>
    dsimp only [exS] at he
    split at he
    · next z =>
      exact hRet .areturn x pc (some (.inr (.inr (some z)))) h H locs ls (okD_1 hd) hok trivial he (fun v hv => by cases hv; trivial) sH sP sD sG
    · exact he.elim
  | return_ =>
    dsimp only [exS] at he
    split at he
    · exact hRet .return_ x pc none h H locs ls (okD_1 hd) hok trivial he (fun v hv => by cases hv) sH sP sD sG
    · exact he.elim
  | invokestatic idx =>
    dsimp only [exS] at he
    have hls : c.maxLocals = ls.size := by rw [hml, sL.1]
    split at he
    · next pos y z st =>
      obtain ⟨vy, sS⟩ := vOK_st sS
      obtain ⟨vz, sS⟩ := vOK_st sS
      simp only [okI, okW, Bool.and_eq_true, decide_eq_true_eq] at hok
      refine va_mmax hx hb hls hown (hts _ (tb_mem hok.1 hok.2)) (hts _ mx_t1.1) (hts _ mx_t1.2.2.1) (hts _ mx_cmax) (by omega) (by rw [catS_eq]; have := he.1; omega) hRm.2.2.1 hRm.2.2.2 (okD_1 hd) ?_
      have e : (if Int32.ofInt z < Int32.ofInt y then Int32.ofInt y else Int32.ofInt z) = Int32.ofInt (max z y) := by
        by_cases hq : z < y
        · rw [if_pos ((am_lt vz vy).mpr hq), Int.max_eq_right (by omega)]
        · rw [if_neg (fun q => hq ((am_lt vz vy).mp q)), Int.max_eq_left (by omega)]
      rw [e]
      exact hk L _ h H locs ls he.2 ⟨sL, vOK_cons ⟨by have := vz.1; omega, by have := vz.2; have := vy.2; omega⟩ sS, sV, sH, sP, sD, sG⟩
    · next pos y z st =>
      obtain ⟨vy, sS⟩ := vOK_st sS
      obtain ⟨vz, sS⟩ := vOK_st sS
      simp only [okI, okW, Bool.and_eq_true, decide_eq_true_eq] at hok
      refine va_mmin hx hb hls hown (hts _ (tb_mem hok.1 hok.2)) (hts _ mx_t1.2.1) (hts _ mx_t1.2.2.1) (hts _ mx_cmin) (by omega) (by rw [catS_eq]; have := he.1; omega) hRm.2.2.1 hRm.2.2.2 (okD_1 hd) ?_
      have e : (if Int32.ofInt y < Int32.ofInt z then Int32.ofInt y else Int32.ofInt z) = Int32.ofInt (min z y) := by
        by_cases hq : y < z
        · rw [if_pos ((am_lt vy vz).mpr hq), Int.min_eq_right (by omega)]
        · rw [if_neg (fun q => hq ((am_lt vy vz).mp q)), Int.min_eq_left (by omega)]
      rw [e]
      exact hk L _ h H locs ls he.2 ⟨sL, vOK_cons ⟨by have := vz.1; have := vy.1; omega, by have := vz.2; omega⟩ sS, sV, sH, sP, sD, sG⟩
    · next pos n dp b sp a st =>
      obtain ⟨vn, sS⟩ := vOK_st sS
      obtain ⟨vd, sS⟩ := vOK_st sS
      obtain ⟨-, sS⟩ := vOK_st sS
      obtain ⟨vs, sS⟩ := vOK_st sS
      obtain ⟨-, sS⟩ := vOK_st sS
      simp only [okI, okW, Bool.and_eq_true, decide_eq_true_eq] at hok
      obtain ⟨e1, e2, e3, e4, e5, e6, e7, e8, he⟩ := he
      have hga := wl_get (ad := ad) (G := G) (h := h) (shA_lt e2 (by decide))
      rw [cell10 e2] at hga
      have hgb := wl_get (ad := ad) (G := G) (h := h) (shA_lt e3 (by decide))
      rw [cell10 e3] at hgb
      have hnn : ∀ {z : Int}, inI z → 0 ≤ z → ¬ Int32.ofInt z < 0 := fun {z} v0 h0 q => by
        have := (am_lt v0 (⟨by omega, by omega⟩ : inI 0)).mp q
        omega
      refine va_copyi hx hb hls hown (hts _ (tb_mem hok.1 hok.2)) (hts _ mx_t1.2.2.2.1) (hts _ mx_t1.2.2.2.2.1) (hts _ mx_t1.2.2.2.2.2) hK sP sD sG a b 0 0 (ty := .int) hga hgb rfl rfl rfl (hnn vs e5) (hnn vd e7) (hnn vn e4) (by rw [tn_clamp vs, tn_clamp vn]; omega) (by rw [tn_clamp vd, tn_clamp vn]; omega) (fun i hi => rfl) (by omega) (by rw [catS_eq]; have := nfw; omega) (okD_1 hd) (fun H1 locs1 a1 a2 a3 => ?_)
      rw [tn_clamp vs, tn_clamp vd, tn_clamp vn, wl_cp e3 e5 e7 e4] at a1 a2
      exact hk L st _ H1 locs1 ls he ⟨sL, sS, sV, sH.cpI _ _ _ _ _, a1, a2, a3⟩
    · next id n w tl =>
      split at he
      · next as st' hp =>
        obtain ⟨hl, rfl⟩ := popA_0 hp
        cases tl with
        | nil =>
          exfalso
          simp [okI] at hok
        | cons pos tl =>
        have hok2 : (match mt[id]? with
          | some md => mdS md && (decide (n = mdP md) && okW pos (if w = 0 then .methodLink own idx (mdN md) else .methodLinkNest own idx (mdN md) "TinkerTailor"))
          | none => false) = true := by rcases id with _ | _ | _ | id <;> exact hok
        split at hok2
        · next q hq =>
          simp only [Bool.and_eq_true, decide_eq_true_eq] at hok2
          obtain ⟨o1, o2, o3⟩ := hok2
          have hM := (hT id as h _ he.2 q hq).2 sH (fun v hv => sS v (List.mem_append_left _ (List.mem_reverse.mpr hv))) ad G dC dI H.size
          exact is_back sD sG hA (is_callS F (hmt id q hq) o1 (by rw [hl]; exact o2) o3 hM sP sD sG sL.1 he.1 (okD_1 hd)) (fun r h' H1 locs1 b1 b2 b3 b4 b5 b6 => by
            have := hk L _ h' H1 locs1 ls b1 ⟨sL, by
              cases r with
              | none => exact fun v hv => sS v (List.mem_append_right _ hv)
              | some v => exact vOK_cons (b3 v rfl) (fun v hv => sS v (List.mem_append_right _ hv)), sV, b2, b4, b5, b6⟩
            cases r <;> exact this)
        · cases hok2
      · exact he.elim
    · exact he.elim
  | invokevirtual idx =>
    dsimp only [exS] at he
    split at he
    · next id n tl =>
      split at he
      · next as st' hp =>
        obtain ⟨hl, rfl⟩ := popA_0 hp
        cases tl with
        | nil => cases hok
        | cons w tl =>
        cases tl with
        | nil => cases hok
        | cons pos tl =>
        have hok2 : (match mt[id]? with
          | some md => !mdS md && (decide (n = mdP md + 1) && okW pos (if w = 0 then .methodLink own idx (mdN md) else .methodLinkNest own idx (mdN md) "TinkerTailor"))
          | none => false) = true := hok
        split at hok2
        · next q hq =>
          simp only [Bool.and_eq_true, decide_eq_true_eq, Bool.not_eq_true'] at hok2
          obtain ⟨o1, o2, o3⟩ := hok2
          obtain ⟨hrc, hM⟩ := hT id as h _ he.2 q hq
          have hM := hM sH (fun v hv => sS v (List.mem_append_left _ (List.mem_reverse.mpr hv))) ad G dC dI H.size
          have hrc : rcv (mdC q) as := by
            rcases hrc with z | z
            · rw [o1] at z; cases z
            · exact z
          exact is_back sD sG hA (is_callV F (hmt id q hq) o1 hrc (by rw [hl]; exact o2) o3 hM sP sD sG sL.1 he.1 (okD_1 hd)) (fun r h' H1 locs1 b1 b2 b3 b4 b5 b6 => by
            have := hk L _ h' H1 locs1 ls b1 ⟨sL, by
              cases r with
              | none => exact fun v hv => sS v (List.mem_append_right _ hv)
              | some v => exact vOK_cons (b3 v rfl) (fun v hv => sS v (List.mem_append_right _ hv)), sV, b2, b4, b5, b6⟩
            cases r <;> exact this)
        · cases hok2
      · exact he.elim
    · exact he.elim
  | _ => exact he.elim
end IS
end
section
/-! ===== blocks, methods ===== -/
section IS
variable {mt : List MDat} {lawq : Bool} {p : Program} {l : Launch} {e : Env} {R : Room} {s : State} {m : MethodId} {args : Array Value} {below : List Frame} {meth : Method} {c : Code} {cells slots : Nat} {Q : State → Prop} {cc : ByteArray} {nL : Nat} {own : String} {ad : Nat → Nat} {G : ClassId × (ClassId × ClassId)} {dC : Nat → ClassId} {dI : Nat → Nat → Nat} {A : Nat → Prop} {sc : Int → Int} {sl : Int} {d : Nat}
theorem ex_sound {T : AT} {J : AJ} {K : AK} {bs : List ABlk} {rt : Option FieldType} (F : FX lawq p R s m args c cells slots cc nL own ad G dC dI A sc sl d) (hmt : ∀ (id : Nat) (q : MDat), mt[id]? = some q → okM mt q = true) (hT : TOK mt l d T)
    (hJ : JOK p l e R s m args below meth c cells slots Q nL ad G dC dI A bs J)
    (hRet : ∀ (i : Instr) (x : List Nat) (pc : Nat) (r : Option AV) (h : AH) (H : Heap) (locs : List Loc) (ls : Array Slot), decode cc pc = .ok (i, 1) → okI mt lawq nL own bs rt pc i x = true → isRet i x r → K r h → (∀ v, r = some v → vOK v) → hOK h → va_P (dC, dI) vwCl (wl ad G h) H → va_D A (wl ad G h) → va_S A s.heap H locs → W p l e R s m args below meth c H locs cells slots Q (F0 m pc ls (r.toList.map (cv ad)))) :
    ∀ (is : List RI) (pc : Nat) (L : LL) (st : List AV) (h : AH) (H : Heap) (locs : List Loc) (ls : Array Slot), okB mt lawq nL own cc bs rt pc is = true → ex sc sl T J K is L st h → SS s ad G dC dI A nL ls L st h H locs → W p l e R s m args below meth c H locs cells slots Q (F0 m pc ls (st.map (cv ad))) := by
  intro is
  induction is with
  | nil => intro pc L st h H locs ls _ he; exact he.elim
  | cons r is ih =>
    intro pc L st h H locs ls hok he S
    simp only [okB, Bool.and_eq_true] at hok
    exact exS_sound F hmt hT hJ hRet hok.1 hok.2.1 S (fun L' st' h' H' locs' ls' hk S' => ih _ L' st' h' H' locs' ls' hok.2.2 hk S') he
theorem SS.mask {ls : Array Slot} {L : LL} {st : List AV} {h : AH} {H : Heap} {locs : List Loc} (S : SS s ad G dC dI A nL ls L st h H locs) (bs : List Bool) : SS s ad G dC dI A nL ls (maskL bs L) st h H locs :=
  ⟨S.1.mask bs, S.2.1, fun i v hv => S.2.2.1 i v (maskL_get bs L i v hv), S.2.2.2⟩
theorem Bx_sound {T : AT} {K : AK} {bs : List ABlk} {rt : Option FieldType} (F : FX lawq p R s m args c cells slots cc nL own ad G dC dI A sc sl d) (hmt : ∀ (id : Nat) (q : MDat), mt[id]? = some q → okM mt q = true) (hT : TOK mt l d T)
    (hbs : ∀ b ∈ bs, okB mt lawq nL own cc bs rt b.1 b.2.2 = true)
    (hRet : ∀ (i : Instr) (x : List Nat) (pc : Nat) (r : Option AV) (h : AH) (H : Heap) (locs : List Loc) (ls : Array Slot), decode cc pc = .ok (i, 1) → okI mt lawq nL own bs rt pc i x = true → isRet i x r → K r h → (∀ v, r = some v → vOK v) → hOK h → va_P (dC, dI) vwCl (wl ad G h) H → va_D A (wl ad G h) → va_S A s.heap H locs → W p l e R s m args below meth c H locs cells slots Q (F0 m pc ls (r.toList.map (cv ad)))) :
    JOK p l e R s m args below meth c cells slots Q nL ad G dC dI A bs (Bx sc sl T bs K) := by
  intro t q L st h H locs ls hq hB S
  refine hB (fun t L st h => ∀ (q : ABlk) (H : Heap) (locs : List Loc) (ls : Array Slot), bs[t]? = some q → SS s ad G dC dI A nL ls L st h H locs → W p l e R s m args below meth c H locs cells slots Q (F0 m q.1 ls (st.map (cv ad)))) ?_ q H locs ls hq S
  intro b q L st h hq he q' H locs ls hq' S
  rw [hq] at hq'
  cases hq'
  exact ex_sound F hmt hT (fun t q L st h H locs ls h1 h2 h3 => h2 q H locs ls h1 h3) hRet q.2.2 q.1 _ st h H locs ls (hbs q (List.mem_of_getElem? hq)) he (S.mask _)
end IS
theorem tx_sound (mt : List MDat) (l : Launch) (hmt : ∀ (id : Nat) (q : MDat), mt[id]? = some q → okM mt q = true) : ∀ d, TOK mt l d (tx mt d) := by
  intro d
  induction d with
  | zero => intro id as h K ht; exact ht.elim
  | succ d ih =>
    intro id as h K ht q hq
    have ht2 : (mdS q = true ∨ rcv (mdC q) as) ∧ (entL as).length ≤ mdL q ∧ Bx z0 0 (tx mt d) (mdK q) K 0 (entL as) [] h := by
      unfold tx at ht
      rw [hq] at ht
      exact ht
    obtain ⟨h1, h2, h3⟩ := ht2
    refine ⟨h1, fun hh has ad G dC dI sz => ?_⟩
    have hM := hmt id q hq
    obtain ⟨w1, w2, -⟩ := okM_1 hM
    obtain ⟨g1, g2, g3, g4, ⟨b0, g5, g6⟩, -, g7⟩ := okM_2 hM
    refine Met.ofW (cc := mdB q) (maxL := mdL q) (ret := mdR q) g3 rfl ?_
    intro p e s m args below meth c s₁ B hml hv
    obtain ⟨rfl, hsz, hP, hK, hD0, hX⟩ := hv
    have hx := B.exec
    have hb := B.bytes
    have hr := B.returns
    have hts : ∀ w ∈ tb, w.before ((as.map (cv ad)).toArray) s = true := fun w hw => atoms_spec (ws := wsy q) B.pre w (List.mem_cons_of_mem _ hw)
    have hown : s.vm.findClass (mdN q).cls = some m.cls := findClass_of_methodNamed B.named
    have hlocks := B.notSynchronized
    subst hsz
    have hD : va_D (va_A (wl ad G h) s.heap.size) (wl ad G h) := hD0.self
    generalize hAe : va_A (wl ad G h) s.heap.size = A at hD hX ⊢
    have hA : ∀ q : Nat, s.heap.size ≤ q → A q := fun q h => by rw [← hAe]; exact Or.inr h
    have hS : va_S A s.heap s.heap [] := va_S.rf
    rw [lg_entry_eq]
    have F : FX false p (rmd (d + 1)) s m (as.map (cv ad)).toArray c 0 0 (mdB q) (mdL q) (mdN q).cls ad G dC dI A z0 0 d := by
      refine ⟨hx, hb, hml, hown, hts, hK, hX, hA, ⟨?_, ?_, ?_, ?_⟩, fun hc => by cases hc⟩
      · exact Nat.le_refl _
      · exact Nat.le_refl _
      · exact Nat.le_refl _
      · exact Nat.le_refl _
    have hJ := Bx_sound (Q := MQ below (QQ ad G dC dI K A) (as.map (cv ad)).toArray s 0 0 A) (e := e) (below := below) (meth := meth) (K := K) (rt := mdR q) F hmt ih g7 (by
      intro i x pc r h' H locs ls hdg hok hret hKr hvr hh' hP' hD' hS'
      have hq' : ∀ (v : Option Value), v = r.map (cv ad) → ∀ t : State, t.heap = H → s.WarmedH t.vm → QQ ad G dC dI K A (as.map (cv ad)).toArray s (.returned v) t := fun v hv t ht hW => ⟨⟨r, h', by rw [hv], hKr, hh', hvr, by rw [ht]; exact hP', va_K.moved hW.alike hK, hD'⟩, hS'.F ht⟩
      cases i with
      | ireturn =>
        match r, hret, hq' with
        | some (.inl z), hret, hq' =>
          have hdg' : decode (mdB q) pc = .ok (.ireturn, 1) := hdg
          rcases hret with rfl | ⟨rfl, hz⟩ | ⟨rfl, hz⟩ | ⟨rfl, hz⟩
          · have hrt : mdR q = some .int := by simpa [okI] using hok
            rw [hrt] at hr
            exact W.zret hx hb hr rfl (hq' _ rfl) hS'.2.2 hdg'
          · have hrt : mdR q = some .boolean := by simpa [okI] using hok
            rw [hrt] at hr
            exact W.zret hx hb hr (am_bool hz) (hq' _ rfl) hS'.2.2 hdg'
          · have hrt : mdR q = some .char := by simpa [okI] using hok
            rw [hrt] at hr
            exact W.zret hx hb hr (am_char hz.1 hz.2) (hq' _ rfl) hS'.2.2 hdg'
          · have hrt : mdR q = some .byte := by simpa [okI] using hok
            rw [hrt] at hr
            exact W.zret hx hb hr (am_byte z (by omega) (by omega)) (hq' _ rfl) hS'.2.2 hdg'
      | lreturn =>
        match r, hret, hq' with
        | some (.inr (.inl z)), hret, hq' =>
          have hrt : mdR q = some .long := by simpa [okI] using hok
          rw [hrt] at hr
          exact W.lret hx hb hr (hq' _ rfl) hS'.2.2 hdg
      | areturn =>
        match r, hret, hq' with
        | some (.inr (.inr (some a))), hret, hq' =>
          dsimp only [okI] at hok
          split at hok
          · next nm hrt =>
            rw [hrt] at hr
            exact W.aret hx hb hr (Or.inl ⟨_, rfl⟩) (Or.inr ⟨_, rfl⟩) (hq' _ rfl) hS'.2.2 hdg
          · cases hok
      | return_ =>
        match r, hret, hq' with
        | none, hret, hq' =>
          have hrt : mdR q = none := by simpa [okI] using hok
          rw [hrt] at hr
          exact W.vret hx hb hr (hq' _ rfl) hS'.2.2 hdg
      | _ => exact hret.elim)
    have hent := hJ 0 b0 (entL as) [] h s.heap [] _ g5 h3 ⟨LH.entry h2, fun v hv => by simp at hv, fun i v hv => by
      have := entL_mem as i v hv
      exact has v this, hh, hP, hD, hS⟩
    rw [g6] at hent
    exact hent
end
