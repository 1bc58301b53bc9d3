section
-- ===== PART A: goes FIRST, ahead of the names: the tables' words, and 'selects' of the private methods out of them =====
/-- a private method of a class that the tables say can be made, by its rows of tables_1 -/
def lw_okq (q : MethodName × Nat) : Prop := (q.1.cls ≠ "java/lang/invoke/MethodHandle" ∧ q.1.cls ≠ "java/lang/invoke/VarHandle") ∧ Cond.instantiable q.1.cls q.2 ∈ tables_1 ∧ Cond.privateMethod q.1 ∈ tables_1 ∧ Cond.instanceMethod q.1 ∈ tables_1
theorem lw_p0 : lw_okq (⟨"BribedClerks$Office", "scoreOf", "(II)I"⟩, 7) := ⟨⟨by decide +kernel, by decide +kernel⟩, List.mem_of_getElem? (i := 32) (by decide +kernel), List.mem_of_getElem? (i := 221) (by decide +kernel), List.mem_of_getElem? (i := 222) (by decide +kernel)⟩
theorem lw_p1 : lw_okq (⟨"BribedClerks$Office", "sizeOf", "(I)I"⟩, 7) := ⟨⟨by decide +kernel, by decide +kernel⟩, List.mem_of_getElem? (i := 32) (by decide +kernel), List.mem_of_getElem? (i := 229) (by decide +kernel), List.mem_of_getElem? (i := 230) (by decide +kernel)⟩
theorem lw_p2 : lw_okq (⟨"BribedClerks$History", "record", "(LBribedClerks$State;)V"⟩, 2) := ⟨⟨by decide +kernel, by decide +kernel⟩, List.mem_of_getElem? (i := 150) (by decide +kernel), List.mem_of_getElem? (i := 233) (by decide +kernel), List.mem_of_getElem? (i := 234) (by decide +kernel)⟩
theorem lw_p3 : lw_okq (⟨"BribedClerks$History", "moveOldestToEnd", "()V"⟩, 2) := ⟨⟨by decide +kernel, by decide +kernel⟩, List.mem_of_getElem? (i := 150) (by decide +kernel), List.mem_of_getElem? (i := 237) (by decide +kernel), List.mem_of_getElem? (i := 238) (by decide +kernel)⟩
theorem lw_p4 : lw_okq (⟨"BribedClerks$History", "stateAt", "(I)LBribedClerks$State;"⟩, 2) := ⟨⟨by decide +kernel, by decide +kernel⟩, List.mem_of_getElem? (i := 150) (by decide +kernel), List.mem_of_getElem? (i := 241) (by decide +kernel), List.mem_of_getElem? (i := 242) (by decide +kernel)⟩
theorem lw_p5 : lw_okq (⟨"BribedClerks$State", "copyFrom", "(LBribedClerks$State;)V"⟩, 4) := ⟨⟨by decide +kernel, by decide +kernel⟩, List.mem_of_getElem? (i := 26) (by decide +kernel), List.mem_of_getElem? (i := 245) (by decide +kernel), List.mem_of_getElem? (i := 246) (by decide +kernel)⟩
theorem lw_p6 : lw_okq (⟨"BribedClerks$Office", "copyFrom", "(LBribedClerks$Office;)V"⟩, 7) := ⟨⟨by decide +kernel, by decide +kernel⟩, List.mem_of_getElem? (i := 32) (by decide +kernel), List.mem_of_getElem? (i := 249) (by decide +kernel), List.mem_of_getElem? (i := 250) (by decide +kernel)⟩
theorem lw_p7 : lw_okq (⟨"BribedClerks$Reading", "copyFrom", "(LBribedClerks$Reading;)V"⟩, 16) := ⟨⟨by decide +kernel, by decide +kernel⟩, List.mem_of_getElem? (i := 67) (by decide +kernel), List.mem_of_getElem? (i := 262) (by decide +kernel), List.mem_of_getElem? (i := 263) (by decide +kernel)⟩
theorem lw_p8 : lw_okq (⟨"BribedClerks$Office", "putIn", "(III)I"⟩, 7) := ⟨⟨by decide +kernel, by decide +kernel⟩, List.mem_of_getElem? (i := 32) (by decide +kernel), List.mem_of_getElem? (i := 267) (by decide +kernel), List.mem_of_getElem? (i := 268) (by decide +kernel)⟩
theorem lw_p9 : lw_okq (⟨"BribedClerks$Office", "takeOut", "(II)V"⟩, 7) := ⟨⟨by decide +kernel, by decide +kernel⟩, List.mem_of_getElem? (i := 32) (by decide +kernel), List.mem_of_getElem? (i := 271) (by decide +kernel), List.mem_of_getElem? (i := 272) (by decide +kernel)⟩
theorem lw_p10 : lw_okq (⟨"BribedClerks$Office", "standsAhead", "(IIII)Z"⟩, 7) := ⟨⟨by decide +kernel, by decide +kernel⟩, List.mem_of_getElem? (i := 32) (by decide +kernel), List.mem_of_getElem? (i := 279) (by decide +kernel), List.mem_of_getElem? (i := 280) (by decide +kernel)⟩
theorem lw_p11 : lw_okq (⟨"BribedClerks$Office", "scoreAt", "(II)I"⟩, 7) := ⟨⟨by decide +kernel, by decide +kernel⟩, List.mem_of_getElem? (i := 32) (by decide +kernel), List.mem_of_getElem? (i := 283) (by decide +kernel), List.mem_of_getElem? (i := 284) (by decide +kernel)⟩
theorem lw_p12 : lw_okq (⟨"BribedClerks$Office", "documentAt", "(II)I"⟩, 7) := ⟨⟨by decide +kernel, by decide +kernel⟩, List.mem_of_getElem? (i := 32) (by decide +kernel), List.mem_of_getElem? (i := 287) (by decide +kernel), List.mem_of_getElem? (i := 288) (by decide +kernel)⟩
theorem lw_p13 : lw_okq (⟨"BribedClerks", "setDeleted", "(IZ)I"⟩, 6) := ⟨⟨by decide +kernel, by decide +kernel⟩, List.mem_of_getElem? (i := 18) (by decide +kernel), List.mem_of_getElem? (i := 300) (by decide +kernel), List.mem_of_getElem? (i := 301) (by decide +kernel)⟩
theorem lw_p14 : lw_okq (⟨"BribedClerks$Office", "isDeleted", "(I)Z"⟩, 7) := ⟨⟨by decide +kernel, by decide +kernel⟩, List.mem_of_getElem? (i := 32) (by decide +kernel), List.mem_of_getElem? (i := 304) (by decide +kernel), List.mem_of_getElem? (i := 305) (by decide +kernel)⟩
theorem lw_p15 : lw_okq (⟨"BribedClerks$Office", "listsWith", "(I)I"⟩, 7) := ⟨⟨by decide +kernel, by decide +kernel⟩, List.mem_of_getElem? (i := 32) (by decide +kernel), List.mem_of_getElem? (i := 308) (by decide +kernel), List.mem_of_getElem? (i := 309) (by decide +kernel)⟩
def lw_privs_1 : List (MethodName × Nat) := [(⟨"BribedClerks$Office", "scoreOf", "(II)I"⟩, 7), (⟨"BribedClerks$Office", "sizeOf", "(I)I"⟩, 7), (⟨"BribedClerks$History", "record", "(LBribedClerks$State;)V"⟩, 2), (⟨"BribedClerks$History", "moveOldestToEnd", "()V"⟩, 2), (⟨"BribedClerks$History", "stateAt", "(I)LBribedClerks$State;"⟩, 2), (⟨"BribedClerks$State", "copyFrom", "(LBribedClerks$State;)V"⟩, 4), (⟨"BribedClerks$Office", "copyFrom", "(LBribedClerks$Office;)V"⟩, 7), (⟨"BribedClerks$Reading", "copyFrom", "(LBribedClerks$Reading;)V"⟩, 16), (⟨"BribedClerks$Office", "putIn", "(III)I"⟩, 7), (⟨"BribedClerks$Office", "takeOut", "(II)V"⟩, 7), (⟨"BribedClerks$Office", "standsAhead", "(IIII)Z"⟩, 7), (⟨"BribedClerks$Office", "scoreAt", "(II)I"⟩, 7), (⟨"BribedClerks$Office", "documentAt", "(II)I"⟩, 7), (⟨"BribedClerks", "setDeleted", "(IZ)I"⟩, 6), (⟨"BribedClerks$Office", "isDeleted", "(I)Z"⟩, 7), (⟨"BribedClerks$Office", "listsWith", "(I)I"⟩, 7)]
theorem lw_r1 : ∀ q ∈ lw_privs_1, lw_okq q := List.forall_mem_cons.mpr ⟨lw_p0, List.forall_mem_cons.mpr ⟨lw_p1, List.forall_mem_cons.mpr ⟨lw_p2, List.forall_mem_cons.mpr ⟨lw_p3, List.forall_mem_cons.mpr ⟨lw_p4, List.forall_mem_cons.mpr ⟨lw_p5, List.forall_mem_cons.mpr ⟨lw_p6, List.forall_mem_cons.mpr ⟨lw_p7, List.forall_mem_cons.mpr ⟨lw_p8, List.forall_mem_cons.mpr ⟨lw_p9, List.forall_mem_cons.mpr ⟨lw_p10, List.forall_mem_cons.mpr ⟨lw_p11, List.forall_mem_cons.mpr ⟨lw_p12, List.forall_mem_cons.mpr ⟨lw_p13, List.forall_mem_cons.mpr ⟨lw_p14, List.forall_mem_cons.mpr ⟨lw_p15, fun _ h => absurd h List.not_mem_nil⟩⟩⟩⟩⟩⟩⟩⟩⟩⟩⟩⟩⟩⟩⟩⟩
theorem lw_p16 : lw_okq (⟨"BribedClerks", "setOfList", "([IIII)I"⟩, 6) := ⟨⟨by decide +kernel, by decide +kernel⟩, List.mem_of_getElem? (i := 18) (by decide +kernel), List.mem_of_getElem? (i := 329) (by decide +kernel), List.mem_of_getElem? (i := 330) (by decide +kernel)⟩
theorem lw_p17 : lw_okq (⟨"BribedClerks$Office", "questionSize", "()I"⟩, 7) := ⟨⟨by decide +kernel, by decide +kernel⟩, List.mem_of_getElem? (i := 32) (by decide +kernel), List.mem_of_getElem? (i := 350) (by decide +kernel), List.mem_of_getElem? (i := 351) (by decide +kernel)⟩
theorem lw_p18 : lw_okq (⟨"BribedClerks$Office", "isAsked", "(I)Z"⟩, 7) := ⟨⟨by decide +kernel, by decide +kernel⟩, List.mem_of_getElem? (i := 32) (by decide +kernel), List.mem_of_getElem? (i := 354) (by decide +kernel), List.mem_of_getElem? (i := 355) (by decide +kernel)⟩
theorem lw_p19 : lw_okq (⟨"BribedClerks$Reading", "start", "(LBribedClerks$Office;IZ)V"⟩, 16) := ⟨⟨by decide +kernel, by decide +kernel⟩, List.mem_of_getElem? (i := 67) (by decide +kernel), List.mem_of_getElem? (i := 358) (by decide +kernel), List.mem_of_getElem? (i := 359) (by decide +kernel)⟩
theorem lw_p20 : lw_okq (⟨"BribedClerks$Reading", "findBounds", "(LBribedClerks$Office;I)V"⟩, 16) := ⟨⟨by decide +kernel, by decide +kernel⟩, List.mem_of_getElem? (i := 67) (by decide +kernel), List.mem_of_getElem? (i := 365) (by decide +kernel), List.mem_of_getElem? (i := 366) (by decide +kernel)⟩
theorem lw_p21 : lw_okq (⟨"BribedClerks$Reading", "isCaught", "(I)Z"⟩, 16) := ⟨⟨by decide +kernel, by decide +kernel⟩, List.mem_of_getElem? (i := 67) (by decide +kernel), List.mem_of_getElem? (i := 371) (by decide +kernel), List.mem_of_getElem? (i := 372) (by decide +kernel)⟩
theorem lw_p22 : lw_okq (⟨"BribedClerks$Reading", "isOver", "(LBribedClerks$Office;)Z"⟩, 16) := ⟨⟨by decide +kernel, by decide +kernel⟩, List.mem_of_getElem? (i := 67) (by decide +kernel), List.mem_of_getElem? (i := 379) (by decide +kernel), List.mem_of_getElem? (i := 380) (by decide +kernel)⟩
theorem lw_p23 : lw_okq (⟨"BribedClerks$Reading", "nextInTurn", "(LBribedClerks$Office;)I"⟩, 16) := ⟨⟨by decide +kernel, by decide +kernel⟩, List.mem_of_getElem? (i := 67) (by decide +kernel), List.mem_of_getElem? (i := 383) (by decide +kernel), List.mem_of_getElem? (i := 384) (by decide +kernel)⟩
theorem lw_p24 : lw_okq (⟨"BribedClerks$Reading", "hasRest", "(LBribedClerks$Office;I)Z"⟩, 16) := ⟨⟨by decide +kernel, by decide +kernel⟩, List.mem_of_getElem? (i := 67) (by decide +kernel), List.mem_of_getElem? (i := 387) (by decide +kernel), List.mem_of_getElem? (i := 388) (by decide +kernel)⟩
theorem lw_p25 : lw_okq (⟨"BribedClerks$Reading", "weighedBounds", "(LBribedClerks$Office;)I"⟩, 16) := ⟨⟨by decide +kernel, by decide +kernel⟩, List.mem_of_getElem? (i := 67) (by decide +kernel), List.mem_of_getElem? (i := 393) (by decide +kernel), List.mem_of_getElem? (i := 394) (by decide +kernel)⟩
theorem lw_p26 : lw_okq (⟨"BribedClerks$Office", "weightOf", "(I)I"⟩, 7) := ⟨⟨by decide +kernel, by decide +kernel⟩, List.mem_of_getElem? (i := 32) (by decide +kernel), List.mem_of_getElem? (i := 397) (by decide +kernel), List.mem_of_getElem? (i := 398) (by decide +kernel)⟩
theorem lw_p27 : lw_okq (⟨"BribedClerks$Reading", "highOf", "(LBribedClerks$Office;I)I"⟩, 16) := ⟨⟨by decide +kernel, by decide +kernel⟩, List.mem_of_getElem? (i := 67) (by decide +kernel), List.mem_of_getElem? (i := 401) (by decide +kernel), List.mem_of_getElem? (i := 402) (by decide +kernel)⟩
theorem lw_p28 : lw_okq (⟨"BribedClerks$Reading", "caughtSize", "()I"⟩, 16) := ⟨⟨by decide +kernel, by decide +kernel⟩, List.mem_of_getElem? (i := 67) (by decide +kernel), List.mem_of_getElem? (i := 410) (by decide +kernel), List.mem_of_getElem? (i := 411) (by decide +kernel)⟩
theorem lw_p29 : lw_okq (⟨"BribedClerks$Reading", "goOn", "(LBribedClerks$Office;I)I"⟩, 16) := ⟨⟨by decide +kernel, by decide +kernel⟩, List.mem_of_getElem? (i := 67) (by decide +kernel), List.mem_of_getElem? (i := 415) (by decide +kernel), List.mem_of_getElem? (i := 416) (by decide +kernel)⟩
theorem lw_p30 : lw_okq (⟨"BribedClerks$Reading", "nextList", "(LBribedClerks$Office;)I"⟩, 16) := ⟨⟨by decide +kernel, by decide +kernel⟩, List.mem_of_getElem? (i := 67) (by decide +kernel), List.mem_of_getElem? (i := 420) (by decide +kernel), List.mem_of_getElem? (i := 421) (by decide +kernel)⟩
theorem lw_p31 : lw_okq (⟨"BribedClerks$Reading", "nextByBounds", "(LBribedClerks$Office;)I"⟩, 16) := ⟨⟨by decide +kernel, by decide +kernel⟩, List.mem_of_getElem? (i := 67) (by decide +kernel), List.mem_of_getElem? (i := 424) (by decide +kernel), List.mem_of_getElem? (i := 425) (by decide +kernel)⟩
def lw_privs_2 : List (MethodName × Nat) := [(⟨"BribedClerks", "setOfList", "([IIII)I"⟩, 6), (⟨"BribedClerks$Office", "questionSize", "()I"⟩, 7), (⟨"BribedClerks$Office", "isAsked", "(I)Z"⟩, 7), (⟨"BribedClerks$Reading", "start", "(LBribedClerks$Office;IZ)V"⟩, 16), (⟨"BribedClerks$Reading", "findBounds", "(LBribedClerks$Office;I)V"⟩, 16), (⟨"BribedClerks$Reading", "isCaught", "(I)Z"⟩, 16), (⟨"BribedClerks$Reading", "isOver", "(LBribedClerks$Office;)Z"⟩, 16), (⟨"BribedClerks$Reading", "nextInTurn", "(LBribedClerks$Office;)I"⟩, 16), (⟨"BribedClerks$Reading", "hasRest", "(LBribedClerks$Office;I)Z"⟩, 16), (⟨"BribedClerks$Reading", "weighedBounds", "(LBribedClerks$Office;)I"⟩, 16), (⟨"BribedClerks$Office", "weightOf", "(I)I"⟩, 7), (⟨"BribedClerks$Reading", "highOf", "(LBribedClerks$Office;I)I"⟩, 16), (⟨"BribedClerks$Reading", "caughtSize", "()I"⟩, 16), (⟨"BribedClerks$Reading", "goOn", "(LBribedClerks$Office;I)I"⟩, 16), (⟨"BribedClerks$Reading", "nextList", "(LBribedClerks$Office;)I"⟩, 16), (⟨"BribedClerks$Reading", "nextByBounds", "(LBribedClerks$Office;)I"⟩, 16)]
theorem lw_r2 : ∀ q ∈ lw_privs_2, lw_okq q := List.forall_mem_cons.mpr ⟨lw_p16, List.forall_mem_cons.mpr ⟨lw_p17, List.forall_mem_cons.mpr ⟨lw_p18, List.forall_mem_cons.mpr ⟨lw_p19, List.forall_mem_cons.mpr ⟨lw_p20, List.forall_mem_cons.mpr ⟨lw_p21, List.forall_mem_cons.mpr ⟨lw_p22, List.forall_mem_cons.mpr ⟨lw_p23, List.forall_mem_cons.mpr ⟨lw_p24, List.forall_mem_cons.mpr ⟨lw_p25, List.forall_mem_cons.mpr ⟨lw_p26, List.forall_mem_cons.mpr ⟨lw_p27, List.forall_mem_cons.mpr ⟨lw_p28, List.forall_mem_cons.mpr ⟨lw_p29, List.forall_mem_cons.mpr ⟨lw_p30, List.forall_mem_cons.mpr ⟨lw_p31, fun _ h => absurd h List.not_mem_nil⟩⟩⟩⟩⟩⟩⟩⟩⟩⟩⟩⟩⟩⟩⟩⟩
theorem lw_p32 : lw_okq (⟨"BribedClerks$Reading", "nextByRest", "(LBribedClerks$Office;)I"⟩, 16) := ⟨⟨by decide +kernel, by decide +kernel⟩, List.mem_of_getElem? (i := 67) (by decide +kernel), List.mem_of_getElem? (i := 428) (by decide +kernel), List.mem_of_getElem? (i := 429) (by decide +kernel)⟩
theorem lw_p33 : lw_okq (⟨"BribedClerks$Reading", "readEntry", "(LBribedClerks$Office;I)V"⟩, 16) := ⟨⟨by decide +kernel, by decide +kernel⟩, List.mem_of_getElem? (i := 67) (by decide +kernel), List.mem_of_getElem? (i := 432) (by decide +kernel), List.mem_of_getElem? (i := 433) (by decide +kernel)⟩
theorem lw_p34 : lw_okq (⟨"BribedClerks$Reading", "see", "(LBribedClerks$Office;II)V"⟩, 16) := ⟨⟨by decide +kernel, by decide +kernel⟩, List.mem_of_getElem? (i := 67) (by decide +kernel), List.mem_of_getElem? (i := 439) (by decide +kernel), List.mem_of_getElem? (i := 440) (by decide +kernel)⟩
theorem lw_p35 : lw_okq (⟨"BribedClerks$Reading", "isSeen", "(I)Z"⟩, 16) := ⟨⟨by decide +kernel, by decide +kernel⟩, List.mem_of_getElem? (i := 67) (by decide +kernel), List.mem_of_getElem? (i := 443) (by decide +kernel), List.mem_of_getElem? (i := 444) (by decide +kernel)⟩
theorem lw_p36 : lw_okq (⟨"BribedClerks$Reading", "learn", "(LBribedClerks$Office;II)V"⟩, 16) := ⟨⟨by decide +kernel, by decide +kernel⟩, List.mem_of_getElem? (i := 67) (by decide +kernel), List.mem_of_getElem? (i := 447) (by decide +kernel), List.mem_of_getElem? (i := 448) (by decide +kernel)⟩
theorem lw_p37 : lw_okq (⟨"BribedClerks$Reading", "moveAhead", "(I)V"⟩, 16) := ⟨⟨by decide +kernel, by decide +kernel⟩, List.mem_of_getElem? (i := 67) (by decide +kernel), List.mem_of_getElem? (i := 451) (by decide +kernel), List.mem_of_getElem? (i := 452) (by decide +kernel)⟩
theorem lw_p38 : lw_okq (⟨"BribedClerks$Reading", "frontPlaceOf", "(I)I"⟩, 16) := ⟨⟨by decide +kernel, by decide +kernel⟩, List.mem_of_getElem? (i := 67) (by decide +kernel), List.mem_of_getElem? (i := 455) (by decide +kernel), List.mem_of_getElem? (i := 456) (by decide +kernel)⟩
theorem lw_p39 : lw_okq (⟨"BribedClerks$Reading", "isAhead", "(II)Z"⟩, 16) := ⟨⟨by decide +kernel, by decide +kernel⟩, List.mem_of_getElem? (i := 67) (by decide +kernel), List.mem_of_getElem? (i := 459) (by decide +kernel), List.mem_of_getElem? (i := 460) (by decide +kernel)⟩
theorem lw_p40 : lw_okq (⟨"BribedClerks$Reading", "toldSize", "(LBribedClerks$Office;)I"⟩, 16) := ⟨⟨by decide +kernel, by decide +kernel⟩, List.mem_of_getElem? (i := 67) (by decide +kernel), List.mem_of_getElem? (i := 467) (by decide +kernel), List.mem_of_getElem? (i := 468) (by decide +kernel)⟩
theorem lw_p41 : lw_okq (⟨"BribedClerks$Text", "append", "(C)V"⟩, 4) := ⟨⟨by decide +kernel, by decide +kernel⟩, List.mem_of_getElem? (i := 167) (by decide +kernel), List.mem_of_getElem? (i := 476) (by decide +kernel), List.mem_of_getElem? (i := 477) (by decide +kernel)⟩
theorem lw_p42 : lw_okq (⟨"BribedClerks$Text", "readCommand", "()I"⟩, 4) := ⟨⟨by decide +kernel, by decide +kernel⟩, List.mem_of_getElem? (i := 167) (by decide +kernel), List.mem_of_getElem? (i := 488) (by decide +kernel), List.mem_of_getElem? (i := 489) (by decide +kernel)⟩
theorem lw_p43 : lw_okq (⟨"BribedClerks$Text", "wordLength", "()I"⟩, 4) := ⟨⟨by decide +kernel, by decide +kernel⟩, List.mem_of_getElem? (i := 167) (by decide +kernel), List.mem_of_getElem? (i := 492) (by decide +kernel), List.mem_of_getElem? (i := 493) (by decide +kernel)⟩
theorem lw_p44 : lw_okq (⟨"BribedClerks$Text", "signAt", "(I)C"⟩, 4) := ⟨⟨by decide +kernel, by decide +kernel⟩, List.mem_of_getElem? (i := 167) (by decide +kernel), List.mem_of_getElem? (i := 496) (by decide +kernel), List.mem_of_getElem? (i := 497) (by decide +kernel)⟩
theorem lw_p45 : lw_okq (⟨"BribedClerks$Text", "commandOfWord", "(I)I"⟩, 4) := ⟨⟨by decide +kernel, by decide +kernel⟩, List.mem_of_getElem? (i := 167) (by decide +kernel), List.mem_of_getElem? (i := 500) (by decide +kernel), List.mem_of_getElem? (i := 501) (by decide +kernel)⟩
theorem lw_p46 : lw_okq (⟨"BribedClerks$Text", "isWord", "(Ljava/lang/String;I)Z"⟩, 4) := ⟨⟨by decide +kernel, by decide +kernel⟩, List.mem_of_getElem? (i := 167) (by decide +kernel), List.mem_of_getElem? (i := 514) (by decide +kernel), List.mem_of_getElem? (i := 515) (by decide +kernel)⟩
theorem lw_p47 : lw_okq (⟨"BribedClerks$Text", "digitsFrom", "(I)I"⟩, 4) := ⟨⟨by decide +kernel, by decide +kernel⟩, List.mem_of_getElem? (i := 167) (by decide +kernel), List.mem_of_getElem? (i := 569) (by decide +kernel), List.mem_of_getElem? (i := 570) (by decide +kernel)⟩
def lw_privs_3 : List (MethodName × Nat) := [(⟨"BribedClerks$Reading", "nextByRest", "(LBribedClerks$Office;)I"⟩, 16), (⟨"BribedClerks$Reading", "readEntry", "(LBribedClerks$Office;I)V"⟩, 16), (⟨"BribedClerks$Reading", "see", "(LBribedClerks$Office;II)V"⟩, 16), (⟨"BribedClerks$Reading", "isSeen", "(I)Z"⟩, 16), (⟨"BribedClerks$Reading", "learn", "(LBribedClerks$Office;II)V"⟩, 16), (⟨"BribedClerks$Reading", "moveAhead", "(I)V"⟩, 16), (⟨"BribedClerks$Reading", "frontPlaceOf", "(I)I"⟩, 16), (⟨"BribedClerks$Reading", "isAhead", "(II)Z"⟩, 16), (⟨"BribedClerks$Reading", "toldSize", "(LBribedClerks$Office;)I"⟩, 16), (⟨"BribedClerks$Text", "append", "(C)V"⟩, 4), (⟨"BribedClerks$Text", "readCommand", "()I"⟩, 4), (⟨"BribedClerks$Text", "wordLength", "()I"⟩, 4), (⟨"BribedClerks$Text", "signAt", "(I)C"⟩, 4), (⟨"BribedClerks$Text", "commandOfWord", "(I)I"⟩, 4), (⟨"BribedClerks$Text", "isWord", "(Ljava/lang/String;I)Z"⟩, 4), (⟨"BribedClerks$Text", "digitsFrom", "(I)I"⟩, 4)]
theorem lw_r3 : ∀ q ∈ lw_privs_3, lw_okq q := List.forall_mem_cons.mpr ⟨lw_p32, List.forall_mem_cons.mpr ⟨lw_p33, List.forall_mem_cons.mpr ⟨lw_p34, List.forall_mem_cons.mpr ⟨lw_p35, List.forall_mem_cons.mpr ⟨lw_p36, List.forall_mem_cons.mpr ⟨lw_p37, List.forall_mem_cons.mpr ⟨lw_p38, List.forall_mem_cons.mpr ⟨lw_p39, List.forall_mem_cons.mpr ⟨lw_p40, List.forall_mem_cons.mpr ⟨lw_p41, List.forall_mem_cons.mpr ⟨lw_p42, List.forall_mem_cons.mpr ⟨lw_p43, List.forall_mem_cons.mpr ⟨lw_p44, List.forall_mem_cons.mpr ⟨lw_p45, List.forall_mem_cons.mpr ⟨lw_p46, List.forall_mem_cons.mpr ⟨lw_p47, fun _ h => absurd h List.not_mem_nil⟩⟩⟩⟩⟩⟩⟩⟩⟩⟩⟩⟩⟩⟩⟩⟩
theorem lw_p48 : lw_okq (⟨"BribedClerks$Text", "numberFrom", "(II)I"⟩, 4) := ⟨⟨by decide +kernel, by decide +kernel⟩, List.mem_of_getElem? (i := 167) (by decide +kernel), List.mem_of_getElem? (i := 576) (by decide +kernel), List.mem_of_getElem? (i := 577) (by decide +kernel)⟩
theorem lw_p49 : lw_okq (⟨"BribedClerks$History", "takeLatest", "(LBribedClerks$State;)V"⟩, 2) := ⟨⟨by decide +kernel, by decide +kernel⟩, List.mem_of_getElem? (i := 150) (by decide +kernel), List.mem_of_getElem? (i := 593) (by decide +kernel), List.mem_of_getElem? (i := 594) (by decide +kernel)⟩
theorem lw_p50 : lw_okq (⟨"BribedClerks$Office", "entries", "()I"⟩, 7) := ⟨⟨by decide +kernel, by decide +kernel⟩, List.mem_of_getElem? (i := 32) (by decide +kernel), List.mem_of_getElem? (i := 602) (by decide +kernel), List.mem_of_getElem? (i := 603) (by decide +kernel)⟩
theorem lw_p51 : lw_okq (⟨"BribedClerks$Office", "deletedIn", "(I)I"⟩, 7) := ⟨⟨by decide +kernel, by decide +kernel⟩, List.mem_of_getElem? (i := 32) (by decide +kernel), List.mem_of_getElem? (i := 616) (by decide +kernel), List.mem_of_getElem? (i := 617) (by decide +kernel)⟩
theorem lw_p52 : lw_okq (⟨"BribedClerks$Office", "valueOf", "(I)I"⟩, 7) := ⟨⟨by decide +kernel, by decide +kernel⟩, List.mem_of_getElem? (i := 32) (by decide +kernel), List.mem_of_getElem? (i := 630) (by decide +kernel), List.mem_of_getElem? (i := 631) (by decide +kernel)⟩
theorem lw_p53 : lw_okq (⟨"BribedClerks$Office", "wantedPlaceOf", "(I)I"⟩, 7) := ⟨⟨by decide +kernel, by decide +kernel⟩, List.mem_of_getElem? (i := 32) (by decide +kernel), List.mem_of_getElem? (i := 634) (by decide +kernel), List.mem_of_getElem? (i := 635) (by decide +kernel)⟩
theorem lw_p54 : lw_okq (⟨"BribedClerks$Office", "isAnswer", "(I)Z"⟩, 7) := ⟨⟨by decide +kernel, by decide +kernel⟩, List.mem_of_getElem? (i := 32) (by decide +kernel), List.mem_of_getElem? (i := 638) (by decide +kernel), List.mem_of_getElem? (i := 639) (by decide +kernel)⟩
theorem lw_p55 : lw_okq (⟨"BribedClerks$Office", "wantedAt", "(I)I"⟩, 7) := ⟨⟨by decide +kernel, by decide +kernel⟩, List.mem_of_getElem? (i := 32) (by decide +kernel), List.mem_of_getElem? (i := 647) (by decide +kernel), List.mem_of_getElem? (i := 648) (by decide +kernel)⟩
theorem lw_p56 : lw_okq (⟨"BribedClerks$Reading", "knownListsOf", "(LBribedClerks$Office;I)I"⟩, 16) := ⟨⟨by decide +kernel, by decide +kernel⟩, List.mem_of_getElem? (i := 67) (by decide +kernel), List.mem_of_getElem? (i := 664) (by decide +kernel), List.mem_of_getElem? (i := 665) (by decide +kernel)⟩
theorem lw_p57 : lw_okq (⟨"BribedClerks$Reading", "allLookUps", "()I"⟩, 16) := ⟨⟨by decide +kernel, by decide +kernel⟩, List.mem_of_getElem? (i := 67) (by decide +kernel), List.mem_of_getElem? (i := 678) (by decide +kernel), List.mem_of_getElem? (i := 679) (by decide +kernel)⟩
theorem lw_p58 : lw_okq (⟨"BribedClerks$Reading", "cost", "()I"⟩, 16) := ⟨⟨by decide +kernel, by decide +kernel⟩, List.mem_of_getElem? (i := 67) (by decide +kernel), List.mem_of_getElem? (i := 682) (by decide +kernel), List.mem_of_getElem? (i := 683) (by decide +kernel)⟩
theorem lw_p59 : lw_okq (⟨"BribedClerks$Reading", "lowOfLastTold", "(LBribedClerks$Office;)I"⟩, 16) := ⟨⟨by decide +kernel, by decide +kernel⟩, List.mem_of_getElem? (i := 67) (by decide +kernel), List.mem_of_getElem? (i := 689) (by decide +kernel), List.mem_of_getElem? (i := 690) (by decide +kernel)⟩
theorem lw_p60 : lw_okq (⟨"BribedClerks$Reading", "toldNotWanted", "(LBribedClerks$Office;)I"⟩, 16) := ⟨⟨by decide +kernel, by decide +kernel⟩, List.mem_of_getElem? (i := 67) (by decide +kernel), List.mem_of_getElem? (i := 694) (by decide +kernel), List.mem_of_getElem? (i := 695) (by decide +kernel)⟩
theorem lw_p61 : lw_okq (⟨"BribedClerks$Reading", "tellingLess", "(LBribedClerks$Office;)I"⟩, 16) := ⟨⟨by decide +kernel, by decide +kernel⟩, List.mem_of_getElem? (i := 67) (by decide +kernel), List.mem_of_getElem? (i := 699) (by decide +kernel), List.mem_of_getElem? (i := 700) (by decide +kernel)⟩
theorem lw_p62 : lw_okq (⟨"BribedClerks$Office", "wantedSize", "()I"⟩, 7) := ⟨⟨by decide +kernel, by decide +kernel⟩, List.mem_of_getElem? (i := 32) (by decide +kernel), List.mem_of_getElem? (i := 721) (by decide +kernel), List.mem_of_getElem? (i := 722) (by decide +kernel)⟩
theorem lw_p63 : lw_okq (⟨"BribedClerksModel", "entries", "()I"⟩, 12) := ⟨⟨by decide +kernel, by decide +kernel⟩, List.mem_of_getElem? (i := 726) (by decide +kernel), List.mem_of_getElem? (i := 777) (by decide +kernel), List.mem_of_getElem? (i := 778) (by decide +kernel)⟩
def lw_privs_4 : List (MethodName × Nat) := [(⟨"BribedClerks$Text", "numberFrom", "(II)I"⟩, 4), (⟨"BribedClerks$History", "takeLatest", "(LBribedClerks$State;)V"⟩, 2), (⟨"BribedClerks$Office", "entries", "()I"⟩, 7), (⟨"BribedClerks$Office", "deletedIn", "(I)I"⟩, 7), (⟨"BribedClerks$Office", "valueOf", "(I)I"⟩, 7), (⟨"BribedClerks$Office", "wantedPlaceOf", "(I)I"⟩, 7), (⟨"BribedClerks$Office", "isAnswer", "(I)Z"⟩, 7), (⟨"BribedClerks$Office", "wantedAt", "(I)I"⟩, 7), (⟨"BribedClerks$Reading", "knownListsOf", "(LBribedClerks$Office;I)I"⟩, 16), (⟨"BribedClerks$Reading", "allLookUps", "()I"⟩, 16), (⟨"BribedClerks$Reading", "cost", "()I"⟩, 16), (⟨"BribedClerks$Reading", "lowOfLastTold", "(LBribedClerks$Office;)I"⟩, 16), (⟨"BribedClerks$Reading", "toldNotWanted", "(LBribedClerks$Office;)I"⟩, 16), (⟨"BribedClerks$Reading", "tellingLess", "(LBribedClerks$Office;)I"⟩, 16), (⟨"BribedClerks$Office", "wantedSize", "()I"⟩, 7), (⟨"BribedClerksModel", "entries", "()I"⟩, 12)]
theorem lw_r4 : ∀ q ∈ lw_privs_4, lw_okq q := List.forall_mem_cons.mpr ⟨lw_p48, List.forall_mem_cons.mpr ⟨lw_p49, List.forall_mem_cons.mpr ⟨lw_p50, List.forall_mem_cons.mpr ⟨lw_p51, List.forall_mem_cons.mpr ⟨lw_p52, List.forall_mem_cons.mpr ⟨lw_p53, List.forall_mem_cons.mpr ⟨lw_p54, List.forall_mem_cons.mpr ⟨lw_p55, List.forall_mem_cons.mpr ⟨lw_p56, List.forall_mem_cons.mpr ⟨lw_p57, List.forall_mem_cons.mpr ⟨lw_p58, List.forall_mem_cons.mpr ⟨lw_p59, List.forall_mem_cons.mpr ⟨lw_p60, List.forall_mem_cons.mpr ⟨lw_p61, List.forall_mem_cons.mpr ⟨lw_p62, List.forall_mem_cons.mpr ⟨lw_p63, fun _ h => absurd h List.not_mem_nil⟩⟩⟩⟩⟩⟩⟩⟩⟩⟩⟩⟩⟩⟩⟩⟩
theorem lw_p64 : lw_okq (⟨"BribedClerksModel", "record", "()V"⟩, 12) := ⟨⟨by decide +kernel, by decide +kernel⟩, List.mem_of_getElem? (i := 726) (by decide +kernel), List.mem_of_getElem? (i := 785) (by decide +kernel), List.mem_of_getElem? (i := 786) (by decide +kernel)⟩
theorem lw_p65 : lw_okq (⟨"BribedClerksModel", "placeOf", "(II)I"⟩, 12) := ⟨⟨by decide +kernel, by decide +kernel⟩, List.mem_of_getElem? (i := 726) (by decide +kernel), List.mem_of_getElem? (i := 799) (by decide +kernel), List.mem_of_getElem? (i := 800) (by decide +kernel)⟩
theorem lw_p66 : lw_okq (⟨"BribedClerksModel", "takeOut", "(II)V"⟩, 12) := ⟨⟨by decide +kernel, by decide +kernel⟩, List.mem_of_getElem? (i := 726) (by decide +kernel), List.mem_of_getElem? (i := 803) (by decide +kernel), List.mem_of_getElem? (i := 804) (by decide +kernel)⟩
theorem lw_p67 : lw_okq (⟨"BribedClerksModel", "putIn", "(III)I"⟩, 12) := ⟨⟨by decide +kernel, by decide +kernel⟩, List.mem_of_getElem? (i := 726) (by decide +kernel), List.mem_of_getElem? (i := 807) (by decide +kernel), List.mem_of_getElem? (i := 808) (by decide +kernel)⟩
theorem lw_p68 : lw_okq (⟨"BribedClerksModel", "gone", "(II)I"⟩, 12) := ⟨⟨by decide +kernel, by decide +kernel⟩, List.mem_of_getElem? (i := 726) (by decide +kernel), List.mem_of_getElem? (i := 819) (by decide +kernel), List.mem_of_getElem? (i := 820) (by decide +kernel)⟩
theorem lw_p69 : lw_okq (⟨"BribedClerksModel", "listsOf", "(I)I"⟩, 12) := ⟨⟨by decide +kernel, by decide +kernel⟩, List.mem_of_getElem? (i := 726) (by decide +kernel), List.mem_of_getElem? (i := 823) (by decide +kernel), List.mem_of_getElem? (i := 824) (by decide +kernel)⟩
theorem lw_p70 : lw_okq (⟨"BribedClerksModel", "setOf", "(IIII)I"⟩, 12) := ⟨⟨by decide +kernel, by decide +kernel⟩, List.mem_of_getElem? (i := 726) (by decide +kernel), List.mem_of_getElem? (i := 838) (by decide +kernel), List.mem_of_getElem? (i := 839) (by decide +kernel)⟩
theorem lw_p71 : lw_okq (⟨"BribedClerksModel", "wantedPlace", "(I)I"⟩, 12) := ⟨⟨by decide +kernel, by decide +kernel⟩, List.mem_of_getElem? (i := 726) (by decide +kernel), List.mem_of_getElem? (i := 854) (by decide +kernel), List.mem_of_getElem? (i := 855) (by decide +kernel)⟩
theorem lw_p72 : lw_okq (⟨"BribedClerksModel", "mayBeWanted", "(I)Z"⟩, 12) := ⟨⟨by decide +kernel, by decide +kernel⟩, List.mem_of_getElem? (i := 726) (by decide +kernel), List.mem_of_getElem? (i := 858) (by decide +kernel), List.mem_of_getElem? (i := 859) (by decide +kernel)⟩
theorem lw_p73 : lw_okq (⟨"BribedClerksModel", "value", "(I)I"⟩, 12) := ⟨⟨by decide +kernel, by decide +kernel⟩, List.mem_of_getElem? (i := 726) (by decide +kernel), List.mem_of_getElem? (i := 862) (by decide +kernel), List.mem_of_getElem? (i := 863) (by decide +kernel)⟩
theorem lw_p74 : lw_okq (⟨"BribedClerksModel", "scoreOf", "(II)I"⟩, 12) := ⟨⟨by decide +kernel, by decide +kernel⟩, List.mem_of_getElem? (i := 726) (by decide +kernel), List.mem_of_getElem? (i := 866) (by decide +kernel), List.mem_of_getElem? (i := 867) (by decide +kernel)⟩
theorem lw_p75 : lw_okq (⟨"BribedClerksModel", "asked", "()I"⟩, 12) := ⟨⟨by decide +kernel, by decide +kernel⟩, List.mem_of_getElem? (i := 726) (by decide +kernel), List.mem_of_getElem? (i := 886) (by decide +kernel), List.mem_of_getElem? (i := 887) (by decide +kernel)⟩
theorem lw_p76 : lw_okq (⟨"BribedClerksModel", "isAsked", "(I)Z"⟩, 12) := ⟨⟨by decide +kernel, by decide +kernel⟩, List.mem_of_getElem? (i := 726) (by decide +kernel), List.mem_of_getElem? (i := 890) (by decide +kernel), List.mem_of_getElem? (i := 891) (by decide +kernel)⟩
theorem lw_p77 : lw_okq (⟨"BribedClerksModel", "startReading", "(IZ)V"⟩, 12) := ⟨⟨by decide +kernel, by decide +kernel⟩, List.mem_of_getElem? (i := 726) (by decide +kernel), List.mem_of_getElem? (i := 894) (by decide +kernel), List.mem_of_getElem? (i := 895) (by decide +kernel)⟩
theorem lw_p78 : lw_okq (⟨"BribedClerksModel", "isOver", "()Z"⟩, 12) := ⟨⟨by decide +kernel, by decide +kernel⟩, List.mem_of_getElem? (i := 726) (by decide +kernel), List.mem_of_getElem? (i := 898) (by decide +kernel), List.mem_of_getElem? (i := 899) (by decide +kernel)⟩
theorem lw_p79 : lw_okq (⟨"BribedClerksModel", "canBeRead", "(I)Z"⟩, 12) := ⟨⟨by decide +kernel, by decide +kernel⟩, List.mem_of_getElem? (i := 726) (by decide +kernel), List.mem_of_getElem? (i := 902) (by decide +kernel), List.mem_of_getElem? (i := 903) (by decide +kernel)⟩
def lw_privs_5 : List (MethodName × Nat) := [(⟨"BribedClerksModel", "record", "()V"⟩, 12), (⟨"BribedClerksModel", "placeOf", "(II)I"⟩, 12), (⟨"BribedClerksModel", "takeOut", "(II)V"⟩, 12), (⟨"BribedClerksModel", "putIn", "(III)I"⟩, 12), (⟨"BribedClerksModel", "gone", "(II)I"⟩, 12), (⟨"BribedClerksModel", "listsOf", "(I)I"⟩, 12), (⟨"BribedClerksModel", "setOf", "(IIII)I"⟩, 12), (⟨"BribedClerksModel", "wantedPlace", "(I)I"⟩, 12), (⟨"BribedClerksModel", "mayBeWanted", "(I)Z"⟩, 12), (⟨"BribedClerksModel", "value", "(I)I"⟩, 12), (⟨"BribedClerksModel", "scoreOf", "(II)I"⟩, 12), (⟨"BribedClerksModel", "asked", "()I"⟩, 12), (⟨"BribedClerksModel", "isAsked", "(I)Z"⟩, 12), (⟨"BribedClerksModel", "startReading", "(IZ)V"⟩, 12), (⟨"BribedClerksModel", "isOver", "()Z"⟩, 12), (⟨"BribedClerksModel", "canBeRead", "(I)Z"⟩, 12)]
theorem lw_r5 : ∀ q ∈ lw_privs_5, lw_okq q := List.forall_mem_cons.mpr ⟨lw_p64, List.forall_mem_cons.mpr ⟨lw_p65, List.forall_mem_cons.mpr ⟨lw_p66, List.forall_mem_cons.mpr ⟨lw_p67, List.forall_mem_cons.mpr ⟨lw_p68, List.forall_mem_cons.mpr ⟨lw_p69, List.forall_mem_cons.mpr ⟨lw_p70, List.forall_mem_cons.mpr ⟨lw_p71, List.forall_mem_cons.mpr ⟨lw_p72, List.forall_mem_cons.mpr ⟨lw_p73, List.forall_mem_cons.mpr ⟨lw_p74, List.forall_mem_cons.mpr ⟨lw_p75, List.forall_mem_cons.mpr ⟨lw_p76, List.forall_mem_cons.mpr ⟨lw_p77, List.forall_mem_cons.mpr ⟨lw_p78, List.forall_mem_cons.mpr ⟨lw_p79, fun _ h => absurd h List.not_mem_nil⟩⟩⟩⟩⟩⟩⟩⟩⟩⟩⟩⟩⟩⟩⟩⟩
theorem lw_p80 : lw_okq (⟨"BribedClerksModel", "left", "(I)I"⟩, 12) := ⟨⟨by decide +kernel, by decide +kernel⟩, List.mem_of_getElem? (i := 726) (by decide +kernel), List.mem_of_getElem? (i := 906) (by decide +kernel), List.mem_of_getElem? (i := 907) (by decide +kernel)⟩
theorem lw_p81 : lw_okq (⟨"BribedClerksModel", "seenMany", "()I"⟩, 12) := ⟨⟨by decide +kernel, by decide +kernel⟩, List.mem_of_getElem? (i := 726) (by decide +kernel), List.mem_of_getElem? (i := 910) (by decide +kernel), List.mem_of_getElem? (i := 911) (by decide +kernel)⟩
theorem lw_p82 : lw_okq (⟨"BribedClerksModel", "isSeen", "(I)Z"⟩, 12) := ⟨⟨by decide +kernel, by decide +kernel⟩, List.mem_of_getElem? (i := 726) (by decide +kernel), List.mem_of_getElem? (i := 914) (by decide +kernel), List.mem_of_getElem? (i := 915) (by decide +kernel)⟩
theorem lw_p83 : lw_okq (⟨"BribedClerksModel", "reckon", "()V"⟩, 12) := ⟨⟨by decide +kernel, by decide +kernel⟩, List.mem_of_getElem? (i := 726) (by decide +kernel), List.mem_of_getElem? (i := 918) (by decide +kernel), List.mem_of_getElem? (i := 919) (by decide +kernel)⟩
theorem lw_p84 : lw_okq (⟨"BribedClerksModel", "low", "(I)I"⟩, 12) := ⟨⟨by decide +kernel, by decide +kernel⟩, List.mem_of_getElem? (i := 726) (by decide +kernel), List.mem_of_getElem? (i := 922) (by decide +kernel), List.mem_of_getElem? (i := 923) (by decide +kernel)⟩
theorem lw_p85 : lw_okq (⟨"BribedClerksModel", "isKnown", "(II)Z"⟩, 12) := ⟨⟨by decide +kernel, by decide +kernel⟩, List.mem_of_getElem? (i := 726) (by decide +kernel), List.mem_of_getElem? (i := 926) (by decide +kernel), List.mem_of_getElem? (i := 927) (by decide +kernel)⟩
theorem lw_p86 : lw_okq (⟨"BribedClerksModel", "frontAt", "(I)I"⟩, 12) := ⟨⟨by decide +kernel, by decide +kernel⟩, List.mem_of_getElem? (i := 726) (by decide +kernel), List.mem_of_getElem? (i := 930) (by decide +kernel), List.mem_of_getElem? (i := 931) (by decide +kernel)⟩
theorem lw_p87 : lw_okq (⟨"BribedClerksModel", "frontPlace", "(I)I"⟩, 12) := ⟨⟨by decide +kernel, by decide +kernel⟩, List.mem_of_getElem? (i := 726) (by decide +kernel), List.mem_of_getElem? (i := 934) (by decide +kernel), List.mem_of_getElem? (i := 935) (by decide +kernel)⟩
theorem lw_p88 : lw_okq (⟨"BribedClerksModel", "boundsTogether", "()I"⟩, 12) := ⟨⟨by decide +kernel, by decide +kernel⟩, List.mem_of_getElem? (i := 726) (by decide +kernel), List.mem_of_getElem? (i := 938) (by decide +kernel), List.mem_of_getElem? (i := 939) (by decide +kernel)⟩
theorem lw_p89 : lw_okq (⟨"BribedClerksModel", "toldBound", "(I)I"⟩, 12) := ⟨⟨by decide +kernel, by decide +kernel⟩, List.mem_of_getElem? (i := 726) (by decide +kernel), List.mem_of_getElem? (i := 942) (by decide +kernel), List.mem_of_getElem? (i := 943) (by decide +kernel)⟩
theorem lw_p90 : lw_okq (⟨"BribedClerksModel", "bound", "(I)I"⟩, 12) := ⟨⟨by decide +kernel, by decide +kernel⟩, List.mem_of_getElem? (i := 726) (by decide +kernel), List.mem_of_getElem? (i := 946) (by decide +kernel), List.mem_of_getElem? (i := 947) (by decide +kernel)⟩
theorem lw_p91 : lw_okq (⟨"BribedClerksModel", "high", "(I)I"⟩, 12) := ⟨⟨by decide +kernel, by decide +kernel⟩, List.mem_of_getElem? (i := 726) (by decide +kernel), List.mem_of_getElem? (i := 950) (by decide +kernel), List.mem_of_getElem? (i := 951) (by decide +kernel)⟩
theorem lw_p92 : lw_okq (⟨"BribedClerksModel", "oneStep", "()V"⟩, 12) := ⟨⟨by decide +kernel, by decide +kernel⟩, List.mem_of_getElem? (i := 726) (by decide +kernel), List.mem_of_getElem? (i := 958) (by decide +kernel), List.mem_of_getElem? (i := 959) (by decide +kernel)⟩
theorem lw_p93 : lw_okq (⟨"BribedClerksModel", "nextList", "()I"⟩, 12) := ⟨⟨by decide +kernel, by decide +kernel⟩, List.mem_of_getElem? (i := 726) (by decide +kernel), List.mem_of_getElem? (i := 962) (by decide +kernel), List.mem_of_getElem? (i := 963) (by decide +kernel)⟩
theorem lw_p94 : lw_okq (⟨"BribedClerksModel", "isChosenBefore", "(II)Z"⟩, 12) := ⟨⟨by decide +kernel, by decide +kernel⟩, List.mem_of_getElem? (i := 726) (by decide +kernel), List.mem_of_getElem? (i := 966) (by decide +kernel), List.mem_of_getElem? (i := 967) (by decide +kernel)⟩
theorem lw_p95 : lw_okq (⟨"BribedClerksModel", "sees", "(II)V"⟩, 12) := ⟨⟨by decide +kernel, by decide +kernel⟩, List.mem_of_getElem? (i := 726) (by decide +kernel), List.mem_of_getElem? (i := 970) (by decide +kernel), List.mem_of_getElem? (i := 971) (by decide +kernel)⟩
def lw_privs_6 : List (MethodName × Nat) := [(⟨"BribedClerksModel", "left", "(I)I"⟩, 12), (⟨"BribedClerksModel", "seenMany", "()I"⟩, 12), (⟨"BribedClerksModel", "isSeen", "(I)Z"⟩, 12), (⟨"BribedClerksModel", "reckon", "()V"⟩, 12), (⟨"BribedClerksModel", "low", "(I)I"⟩, 12), (⟨"BribedClerksModel", "isKnown", "(II)Z"⟩, 12), (⟨"BribedClerksModel", "frontAt", "(I)I"⟩, 12), (⟨"BribedClerksModel", "frontPlace", "(I)I"⟩, 12), (⟨"BribedClerksModel", "boundsTogether", "()I"⟩, 12), (⟨"BribedClerksModel", "toldBound", "(I)I"⟩, 12), (⟨"BribedClerksModel", "bound", "(I)I"⟩, 12), (⟨"BribedClerksModel", "high", "(I)I"⟩, 12), (⟨"BribedClerksModel", "oneStep", "()V"⟩, 12), (⟨"BribedClerksModel", "nextList", "()I"⟩, 12), (⟨"BribedClerksModel", "isChosenBefore", "(II)Z"⟩, 12), (⟨"BribedClerksModel", "sees", "(II)V"⟩, 12)]
theorem lw_r6 : ∀ q ∈ lw_privs_6, lw_okq q := List.forall_mem_cons.mpr ⟨lw_p80, List.forall_mem_cons.mpr ⟨lw_p81, List.forall_mem_cons.mpr ⟨lw_p82, List.forall_mem_cons.mpr ⟨lw_p83, List.forall_mem_cons.mpr ⟨lw_p84, List.forall_mem_cons.mpr ⟨lw_p85, List.forall_mem_cons.mpr ⟨lw_p86, List.forall_mem_cons.mpr ⟨lw_p87, List.forall_mem_cons.mpr ⟨lw_p88, List.forall_mem_cons.mpr ⟨lw_p89, List.forall_mem_cons.mpr ⟨lw_p90, List.forall_mem_cons.mpr ⟨lw_p91, List.forall_mem_cons.mpr ⟨lw_p92, List.forall_mem_cons.mpr ⟨lw_p93, List.forall_mem_cons.mpr ⟨lw_p94, List.forall_mem_cons.mpr ⟨lw_p95, fun _ h => absurd h List.not_mem_nil⟩⟩⟩⟩⟩⟩⟩⟩⟩⟩⟩⟩⟩⟩⟩⟩
theorem lw_p96 : lw_okq (⟨"BribedClerksModel", "toldMany", "()I"⟩, 12) := ⟨⟨by decide +kernel, by decide +kernel⟩, List.mem_of_getElem? (i := 726) (by decide +kernel), List.mem_of_getElem? (i := 978) (by decide +kernel), List.mem_of_getElem? (i := 979) (by decide +kernel)⟩
theorem lw_p97 : lw_okq (⟨"BribedClerksModel", "knownOf", "(I)I"⟩, 12) := ⟨⟨by decide +kernel, by decide +kernel⟩, List.mem_of_getElem? (i := 726) (by decide +kernel), List.mem_of_getElem? (i := 990) (by decide +kernel), List.mem_of_getElem? (i := 991) (by decide +kernel)⟩
theorem lw_p98 : lw_okq (⟨"BribedClerksModel", "sumOf", "(I)I"⟩, 12) := ⟨⟨by decide +kernel, by decide +kernel⟩, List.mem_of_getElem? (i := 726) (by decide +kernel), List.mem_of_getElem? (i := 1002) (by decide +kernel), List.mem_of_getElem? (i := 1003) (by decide +kernel)⟩
theorem lw_p99 : lw_okq (⟨"BribedClerksModel", "cost", "()I"⟩, 12) := ⟨⟨by decide +kernel, by decide +kernel⟩, List.mem_of_getElem? (i := 726) (by decide +kernel), List.mem_of_getElem? (i := 1006) (by decide +kernel), List.mem_of_getElem? (i := 1007) (by decide +kernel)⟩
theorem lw_p100 : lw_okq (⟨"BribedClerksModel", "toldNotWanted", "()I"⟩, 12) := ⟨⟨by decide +kernel, by decide +kernel⟩, List.mem_of_getElem? (i := 726) (by decide +kernel), List.mem_of_getElem? (i := 1010) (by decide +kernel), List.mem_of_getElem? (i := 1011) (by decide +kernel)⟩
theorem lw_p101 : lw_okq (⟨"BribedClerksModel", "tellLess", "()I"⟩, 12) := ⟨⟨by decide +kernel, by decide +kernel⟩, List.mem_of_getElem? (i := 726) (by decide +kernel), List.mem_of_getElem? (i := 1014) (by decide +kernel), List.mem_of_getElem? (i := 1015) (by decide +kernel)⟩
theorem lw_p102 : lw_okq (⟨"BribedClerksModel", "tried", "(IZI)I"⟩, 12) := ⟨⟨by decide +kernel, by decide +kernel⟩, List.mem_of_getElem? (i := 726) (by decide +kernel), List.mem_of_getElem? (i := 1022) (by decide +kernel), List.mem_of_getElem? (i := 1023) (by decide +kernel)⟩
theorem lw_p103 : lw_okq (⟨"BribedClerksModel", "wantedMany", "()I"⟩, 12) := ⟨⟨by decide +kernel, by decide +kernel⟩, List.mem_of_getElem? (i := 726) (by decide +kernel), List.mem_of_getElem? (i := 1034) (by decide +kernel), List.mem_of_getElem? (i := 1035) (by decide +kernel)⟩
theorem lw_p104 : lw_okq (⟨"BribedClerksModel", "isWord", "(II)Z"⟩, 12) := ⟨⟨by decide +kernel, by decide +kernel⟩, List.mem_of_getElem? (i := 726) (by decide +kernel), List.mem_of_getElem? (i := 1053) (by decide +kernel), List.mem_of_getElem? (i := 1054) (by decide +kernel)⟩
theorem lw_p105 : lw_okq (⟨"BribedClerksModel", "spells", "(IIII)Z"⟩, 12) := ⟨⟨by decide +kernel, by decide +kernel⟩, List.mem_of_getElem? (i := 726) (by decide +kernel), List.mem_of_getElem? (i := 1057) (by decide +kernel), List.mem_of_getElem? (i := 1058) (by decide +kernel)⟩
theorem lw_p106 : lw_okq (⟨"BribedClerksModel", "readNumber", "(I)V"⟩, 12) := ⟨⟨by decide +kernel, by decide +kernel⟩, List.mem_of_getElem? (i := 726) (by decide +kernel), List.mem_of_getElem? (i := 1061) (by decide +kernel), List.mem_of_getElem? (i := 1062) (by decide +kernel)⟩
theorem lw_p107 : lw_okq (⟨"BribedClerksModel", "letter", "(I)I"⟩, 12) := ⟨⟨by decide +kernel, by decide +kernel⟩, List.mem_of_getElem? (i := 726) (by decide +kernel), List.mem_of_getElem? (i := 1065) (by decide +kernel), List.mem_of_getElem? (i := 1066) (by decide +kernel)⟩
theorem lw_p108 : lw_okq (⟨"BribedClerksModel", "does", "(I)I"⟩, 12) := ⟨⟨by decide +kernel, by decide +kernel⟩, List.mem_of_getElem? (i := 726) (by decide +kernel), List.mem_of_getElem? (i := 1072) (by decide +kernel), List.mem_of_getElem? (i := 1073) (by decide +kernel)⟩
def lw_privs_7 : List (MethodName × Nat) := [(⟨"BribedClerksModel", "toldMany", "()I"⟩, 12), (⟨"BribedClerksModel", "knownOf", "(I)I"⟩, 12), (⟨"BribedClerksModel", "sumOf", "(I)I"⟩, 12), (⟨"BribedClerksModel", "cost", "()I"⟩, 12), (⟨"BribedClerksModel", "toldNotWanted", "()I"⟩, 12), (⟨"BribedClerksModel", "tellLess", "()I"⟩, 12), (⟨"BribedClerksModel", "tried", "(IZI)I"⟩, 12), (⟨"BribedClerksModel", "wantedMany", "()I"⟩, 12), (⟨"BribedClerksModel", "isWord", "(II)Z"⟩, 12), (⟨"BribedClerksModel", "spells", "(IIII)Z"⟩, 12), (⟨"BribedClerksModel", "readNumber", "(I)V"⟩, 12), (⟨"BribedClerksModel", "letter", "(I)I"⟩, 12), (⟨"BribedClerksModel", "does", "(I)I"⟩, 12)]
theorem lw_r7 : ∀ q ∈ lw_privs_7, lw_okq q := List.forall_mem_cons.mpr ⟨lw_p96, List.forall_mem_cons.mpr ⟨lw_p97, List.forall_mem_cons.mpr ⟨lw_p98, List.forall_mem_cons.mpr ⟨lw_p99, List.forall_mem_cons.mpr ⟨lw_p100, List.forall_mem_cons.mpr ⟨lw_p101, List.forall_mem_cons.mpr ⟨lw_p102, List.forall_mem_cons.mpr ⟨lw_p103, List.forall_mem_cons.mpr ⟨lw_p104, List.forall_mem_cons.mpr ⟨lw_p105, List.forall_mem_cons.mpr ⟨lw_p106, List.forall_mem_cons.mpr ⟨lw_p107, List.forall_mem_cons.mpr ⟨lw_p108, fun _ h => absurd h List.not_mem_nil⟩⟩⟩⟩⟩⟩⟩⟩⟩⟩⟩⟩⟩
def lw_privs : List (MethodName × Nat) := lw_privs_1 ++ (lw_privs_2 ++ (lw_privs_3 ++ (lw_privs_4 ++ (lw_privs_5 ++ (lw_privs_6 ++ (lw_privs_7))))))
def lw_tbl : List Cond := k2_sels lw_privs ++ tables_1
theorem lw_privs_ok : ∀ q ∈ lw_privs, lw_okq q := by
  show ∀ q ∈ lw_privs_1 ++ (lw_privs_2 ++ (lw_privs_3 ++ (lw_privs_4 ++ (lw_privs_5 ++ (lw_privs_6 ++ (lw_privs_7)))))), lw_okq q
  exact List.forall_mem_append.mpr ⟨lw_r1, List.forall_mem_append.mpr ⟨lw_r2, List.forall_mem_append.mpr ⟨lw_r3, List.forall_mem_append.mpr ⟨lw_r4, List.forall_mem_append.mpr ⟨lw_r5, List.forall_mem_append.mpr ⟨lw_r6, lw_r7⟩⟩⟩⟩⟩⟩
end
section
def RX0 : String := "BribedClerks$History"
def TX0 : u_T := fun k => match k with
  | 0 => ("BribedClerks$History", "states", "[LBribedClerks$State;", true)
  | _ => ("BribedClerks$History", "size", "I", false)
def tyX0 : Nat → FieldType := fun k => match k with
  | 0 => .array (.object "BribedClerks$State")
  | _ => .int
abbrev wsX00 : List Cond := u_ws RX0 TX0 2
theorem nmX0 : ∀ a, a < 2 → ∀ b, b < 2 → a ≠ b → (TX0 a).2.1 ≠ (TX0 b).2.1 := by decide +kernel
theorem tyX0_ok : ∀ k, k < 2 → parseFieldDescriptor (TX0 k).2.2.1 = some (tyX0 k) := by decide +kernel
abbrev cX0_init : ByteArray := prog_2_method_1_code
def yX0_init : MethodName := ⟨RX0, "<init>", "()V"⟩
abbrev cX0_record : ByteArray := prog_2_method_2_code
def yX0_record : MethodName := ⟨RX0, "record", "(LBribedClerks$State;)V"⟩
abbrev cX0_moveOldestToEnd : ByteArray := prog_2_method_3_code
def yX0_moveOldestToEnd : MethodName := ⟨RX0, "moveOldestToEnd", "()V"⟩
abbrev cX0_takeLatest : ByteArray := prog_2_method_4_code
def yX0_takeLatest : MethodName := ⟨RX0, "takeLatest", "(LBribedClerks$State;)V"⟩
abbrev cX0_stateAt : ByteArray := prog_2_method_5_code
def yX0_stateAt : MethodName := ⟨RX0, "stateAt", "(I)LBribedClerks$State;"⟩
def RX1 : String := "BribedClerks$Office"
def TX1 : u_T := fun k => match k with
  | 0 => ("BribedClerks$Office", "scores", "[I", true)
  | 1 => ("BribedClerks$Office", "order", "[I", true)
  | 2 => ("BribedClerks$Office", "sizes", "[I", true)
  | 3 => ("BribedClerks$Office", "weights", "[I", true)
  | 4 => ("BribedClerks$Office", "bribes", "[I", true)
  | 5 => ("BribedClerks$Office", "deleted", "J", false)
  | _ => ("BribedClerks$Office", "most", "I", false)
def tyX1 : Nat → FieldType := fun k => match k with
  | 0 => .array .int
  | 1 => .array .int
  | 2 => .array .int
  | 3 => .array .int
  | 4 => .array .int
  | 5 => .long
  | _ => .int
abbrev wsX10 : List Cond := u_ws RX1 TX1 7
theorem nmX1 : ∀ a, a < 7 → ∀ b, b < 7 → a ≠ b → (TX1 a).2.1 ≠ (TX1 b).2.1 := by decide +kernel
theorem tyX1_ok : ∀ k, k < 7 → parseFieldDescriptor (TX1 k).2.2.1 = some (tyX1 k) := by decide +kernel
abbrev cX1_init : ByteArray := prog_3_method_1_code
def yX1_init : MethodName := ⟨RX1, "<init>", "()V"⟩
abbrev cX1_copyFrom : ByteArray := prog_3_method_2_code
def yX1_copyFrom : MethodName := ⟨RX1, "copyFrom", "(LBribedClerks$Office;)V"⟩
abbrev cX1_sizeOf : ByteArray := prog_3_method_3_code
def yX1_sizeOf : MethodName := ⟨RX1, "sizeOf", "(I)I"⟩
abbrev cX1_weightOf : ByteArray := prog_3_method_4_code
def yX1_weightOf : MethodName := ⟨RX1, "weightOf", "(I)I"⟩
abbrev cX1_isAsked : ByteArray := prog_3_method_5_code
def yX1_isAsked : MethodName := ⟨RX1, "isAsked", "(I)Z"⟩
abbrev cX1_questionSize : ByteArray := prog_3_method_6_code
def yX1_questionSize : MethodName := ⟨RX1, "questionSize", "()I"⟩
abbrev cX1_entries : ByteArray := prog_3_method_7_code
def yX1_entries : MethodName := ⟨RX1, "entries", "()I"⟩
abbrev cX1_scoreOf : ByteArray := prog_3_method_8_code
def yX1_scoreOf : MethodName := ⟨RX1, "scoreOf", "(II)I"⟩
abbrev cX1_documentAt : ByteArray := prog_3_method_9_code
def yX1_documentAt : MethodName := ⟨RX1, "documentAt", "(II)I"⟩
abbrev cX1_scoreAt : ByteArray := prog_3_method_10_code
def yX1_scoreAt : MethodName := ⟨RX1, "scoreAt", "(II)I"⟩
abbrev cX1_putIn : ByteArray := prog_3_method_11_code
def yX1_putIn : MethodName := ⟨RX1, "putIn", "(III)I"⟩
abbrev cX1_standsAhead : ByteArray := prog_3_method_12_code
def yX1_standsAhead : MethodName := ⟨RX1, "standsAhead", "(IIII)Z"⟩
abbrev cX1_takeOut : ByteArray := prog_3_method_13_code
def yX1_takeOut : MethodName := ⟨RX1, "takeOut", "(II)V"⟩
abbrev cX1_isDeleted : ByteArray := prog_3_method_14_code
def yX1_isDeleted : MethodName := ⟨RX1, "isDeleted", "(I)Z"⟩
abbrev cX1_deletedIn : ByteArray := prog_3_method_15_code
def yX1_deletedIn : MethodName := ⟨RX1, "deletedIn", "(I)I"⟩
abbrev cX1_listsWith : ByteArray := prog_3_method_16_code
def yX1_listsWith : MethodName := ⟨RX1, "listsWith", "(I)I"⟩
abbrev cX1_valueOf : ByteArray := prog_3_method_17_code
def yX1_valueOf : MethodName := ⟨RX1, "valueOf", "(I)I"⟩
abbrev cX1_isAnswer : ByteArray := prog_3_method_18_code
def yX1_isAnswer : MethodName := ⟨RX1, "isAnswer", "(I)Z"⟩
abbrev cX1_wantedPlaceOf : ByteArray := prog_3_method_19_code
def yX1_wantedPlaceOf : MethodName := ⟨RX1, "wantedPlaceOf", "(I)I"⟩
abbrev cX1_wantedAt : ByteArray := prog_3_method_20_code
def yX1_wantedAt : MethodName := ⟨RX1, "wantedAt", "(I)I"⟩
abbrev cX1_wantedSize : ByteArray := prog_3_method_21_code
def yX1_wantedSize : MethodName := ⟨RX1, "wantedSize", "()I"⟩
def RX2 : String := "BribedClerks$Reading"
def TX2 : u_T := fun k => match k with
  | 0 => ("BribedClerks$Reading", "on", "Z", false)
  | 1 => ("BribedClerks$Reading", "way", "I", false)
  | 2 => ("BribedClerks$Reading", "looksUp", "Z", false)
  | 3 => ("BribedClerks$Reading", "lastList", "I", false)
  | 4 => ("BribedClerks$Reading", "steps", "I", false)
  | 5 => ("BribedClerks$Reading", "wasted", "I", false)
  | 6 => ("BribedClerks$Reading", "caught", "I", false)
  | 7 => ("BribedClerks$Reading", "read", "[I", true)
  | 8 => ("BribedClerks$Reading", "lookUps", "[I", true)
  | 9 => ("BribedClerks$Reading", "trueBounds", "[I", true)
  | 10 => ("BribedClerks$Reading", "toldBounds", "[I", true)
  | 11 => ("BribedClerks$Reading", "known", "[I", true)
  | 12 => ("BribedClerks$Reading", "lows", "[I", true)
  | 13 => ("BribedClerks$Reading", "firstSteps", "[I", true)
  | 14 => ("BribedClerks$Reading", "front", "[I", true)
  | _ => ("BribedClerks$Reading", "seenSize", "I", false)
def tyX2 : Nat → FieldType := fun k => match k with
  | 0 => .boolean
  | 1 => .int
  | 2 => .boolean
  | 3 => .int
  | 4 => .int
  | 5 => .int
  | 6 => .int
  | 7 => .array .int
  | 8 => .array .int
  | 9 => .array .int
  | 10 => .array .int
  | 11 => .array .int
  | 12 => .array .int
  | 13 => .array .int
  | 14 => .array .int
  | _ => .int
abbrev wsX20 : List Cond := u_ws RX2 TX2 16
theorem nmX2 : ∀ a, a < 16 → ∀ b, b < 16 → a ≠ b → (TX2 a).2.1 ≠ (TX2 b).2.1 := by decide +kernel
theorem tyX2_ok : ∀ k, k < 16 → parseFieldDescriptor (TX2 k).2.2.1 = some (tyX2 k) := by decide +kernel
abbrev cX2_init : ByteArray := prog_4_method_1_code
def yX2_init : MethodName := ⟨RX2, "<init>", "()V"⟩
abbrev cX2_copyFrom : ByteArray := prog_4_method_2_code
def yX2_copyFrom : MethodName := ⟨RX2, "copyFrom", "(LBribedClerks$Reading;)V"⟩
abbrev cX2_start : ByteArray := prog_4_method_3_code
def yX2_start : MethodName := ⟨RX2, "start", "(LBribedClerks$Office;IZ)V"⟩
abbrev cX2_findBounds : ByteArray := prog_4_method_4_code
def yX2_findBounds : MethodName := ⟨RX2, "findBounds", "(LBribedClerks$Office;I)V"⟩
abbrev cX2_goOn : ByteArray := prog_4_method_5_code
def yX2_goOn : MethodName := ⟨RX2, "goOn", "(LBribedClerks$Office;I)I"⟩
abbrev cX2_readEntry : ByteArray := prog_4_method_6_code
def yX2_readEntry : MethodName := ⟨RX2, "readEntry", "(LBribedClerks$Office;I)V"⟩
abbrev cX2_see : ByteArray := prog_4_method_7_code
def yX2_see : MethodName := ⟨RX2, "see", "(LBribedClerks$Office;II)V"⟩
abbrev cX2_learn : ByteArray := prog_4_method_8_code
def yX2_learn : MethodName := ⟨RX2, "learn", "(LBribedClerks$Office;II)V"⟩
abbrev cX2_moveAhead : ByteArray := prog_4_method_9_code
def yX2_moveAhead : MethodName := ⟨RX2, "moveAhead", "(I)V"⟩
abbrev cX2_isAhead : ByteArray := prog_4_method_10_code
def yX2_isAhead : MethodName := ⟨RX2, "isAhead", "(II)Z"⟩
abbrev cX2_nextList : ByteArray := prog_4_method_11_code
def yX2_nextList : MethodName := ⟨RX2, "nextList", "(LBribedClerks$Office;)I"⟩
abbrev cX2_nextInTurn : ByteArray := prog_4_method_12_code
def yX2_nextInTurn : MethodName := ⟨RX2, "nextInTurn", "(LBribedClerks$Office;)I"⟩
abbrev cX2_nextByBounds : ByteArray := prog_4_method_13_code
def yX2_nextByBounds : MethodName := ⟨RX2, "nextByBounds", "(LBribedClerks$Office;)I"⟩
abbrev cX2_nextByRest : ByteArray := prog_4_method_14_code
def yX2_nextByRest : MethodName := ⟨RX2, "nextByRest", "(LBribedClerks$Office;)I"⟩
abbrev cX2_hasRest : ByteArray := prog_4_method_15_code
def yX2_hasRest : MethodName := ⟨RX2, "hasRest", "(LBribedClerks$Office;I)Z"⟩
abbrev cX2_isOver : ByteArray := prog_4_method_16_code
def yX2_isOver : MethodName := ⟨RX2, "isOver", "(LBribedClerks$Office;)Z"⟩
abbrev cX2_highOf : ByteArray := prog_4_method_17_code
def yX2_highOf : MethodName := ⟨RX2, "highOf", "(LBribedClerks$Office;I)I"⟩
abbrev cX2_weighedBounds : ByteArray := prog_4_method_18_code
def yX2_weighedBounds : MethodName := ⟨RX2, "weighedBounds", "(LBribedClerks$Office;)I"⟩
abbrev cX2_isSeen : ByteArray := prog_4_method_19_code
def yX2_isSeen : MethodName := ⟨RX2, "isSeen", "(I)Z"⟩
abbrev cX2_knownListsOf : ByteArray := prog_4_method_20_code
def yX2_knownListsOf : MethodName := ⟨RX2, "knownListsOf", "(LBribedClerks$Office;I)I"⟩
abbrev cX2_frontPlaceOf : ByteArray := prog_4_method_21_code
def yX2_frontPlaceOf : MethodName := ⟨RX2, "frontPlaceOf", "(I)I"⟩
abbrev cX2_toldSize : ByteArray := prog_4_method_22_code
def yX2_toldSize : MethodName := ⟨RX2, "toldSize", "(LBribedClerks$Office;)I"⟩
abbrev cX2_lowOfLastTold : ByteArray := prog_4_method_23_code
def yX2_lowOfLastTold : MethodName := ⟨RX2, "lowOfLastTold", "(LBribedClerks$Office;)I"⟩
abbrev cX2_toldNotWanted : ByteArray := prog_4_method_24_code
def yX2_toldNotWanted : MethodName := ⟨RX2, "toldNotWanted", "(LBribedClerks$Office;)I"⟩
abbrev cX2_isCaught : ByteArray := prog_4_method_25_code
def yX2_isCaught : MethodName := ⟨RX2, "isCaught", "(I)Z"⟩
abbrev cX2_caughtSize : ByteArray := prog_4_method_26_code
def yX2_caughtSize : MethodName := ⟨RX2, "caughtSize", "()I"⟩
abbrev cX2_tellingLess : ByteArray := prog_4_method_27_code
def yX2_tellingLess : MethodName := ⟨RX2, "tellingLess", "(LBribedClerks$Office;)I"⟩
abbrev cX2_allLookUps : ByteArray := prog_4_method_28_code
def yX2_allLookUps : MethodName := ⟨RX2, "allLookUps", "()I"⟩
abbrev cX2_cost : ByteArray := prog_4_method_29_code
def yX2_cost : MethodName := ⟨RX2, "cost", "()I"⟩
def RX3 : String := "BribedClerks$State"
def TX3 : u_T := fun k => match k with
  | 0 => ("BribedClerks$State", "office", "LBribedClerks$Office;", true)
  | 1 => ("BribedClerks$State", "reading", "LBribedClerks$Reading;", true)
  | 2 => ("BribedClerks$State", "begun", "I", false)
  | _ => ("BribedClerks$State", "caughtInAll", "I", false)
def tyX3 : Nat → FieldType := fun k => match k with
  | 0 => .object "BribedClerks$Office"
  | 1 => .object "BribedClerks$Reading"
  | 2 => .int
  | _ => .int
abbrev wsX30 : List Cond := u_ws RX3 TX3 4
theorem nmX3 : ∀ a, a < 4 → ∀ b, b < 4 → a ≠ b → (TX3 a).2.1 ≠ (TX3 b).2.1 := by decide +kernel
theorem tyX3_ok : ∀ k, k < 4 → parseFieldDescriptor (TX3 k).2.2.1 = some (tyX3 k) := by decide +kernel
abbrev cX3_init : ByteArray := prog_5_method_1_code
def yX3_init : MethodName := ⟨RX3, "<init>", "()V"⟩
abbrev cX3_copyFrom : ByteArray := prog_5_method_2_code
def yX3_copyFrom : MethodName := ⟨RX3, "copyFrom", "(LBribedClerks$State;)V"⟩
def RX4 : String := "BribedClerks$Text"
def TX4 : u_T := fun k => match k with
  | 0 => ("BribedClerks$Text", "signs", "[C", true)
  | 1 => ("BribedClerks$Text", "length", "I", false)
  | 2 => ("BribedClerks$Text", "command", "I", false)
  | _ => ("BribedClerks$Text", "numbers", "[I", true)
def tyX4 : Nat → FieldType := fun k => match k with
  | 0 => .array .char
  | 1 => .int
  | 2 => .int
  | _ => .array .int
abbrev wsX40 : List Cond := u_ws RX4 TX4 4
theorem nmX4 : ∀ a, a < 4 → ∀ b, b < 4 → a ≠ b → (TX4 a).2.1 ≠ (TX4 b).2.1 := by decide +kernel
theorem tyX4_ok : ∀ k, k < 4 → parseFieldDescriptor (TX4 k).2.2.1 = some (tyX4 k) := by decide +kernel
abbrev cX4_init : ByteArray := prog_6_method_1_code
def yX4_init : MethodName := ⟨RX4, "<init>", "()V"⟩
abbrev cX4_append : ByteArray := prog_6_method_2_code
def yX4_append : MethodName := ⟨RX4, "append", "(C)V"⟩
abbrev cX4_signAt : ByteArray := prog_6_method_3_code
def yX4_signAt : MethodName := ⟨RX4, "signAt", "(I)C"⟩
abbrev cX4_readCommand : ByteArray := prog_6_method_4_code
def yX4_readCommand : MethodName := ⟨RX4, "readCommand", "()I"⟩
abbrev cX4_wordLength : ByteArray := prog_6_method_5_code
def yX4_wordLength : MethodName := ⟨RX4, "wordLength", "()I"⟩
abbrev cX4_commandOfWord : ByteArray := prog_6_method_6_code
def yX4_commandOfWord : MethodName := ⟨RX4, "commandOfWord", "(I)I"⟩
abbrev cX4_isWord : ByteArray := prog_6_method_7_code
def yX4_isWord : MethodName := ⟨RX4, "isWord", "(Ljava/lang/String;I)Z"⟩
abbrev cX4_wordOf : ByteArray := prog_6_method_8_code
def yX4_wordOf : MethodName := ⟨RX4, "wordOf", "(I)Ljava/lang/String;"⟩
abbrev cX4_numbersOf : ByteArray := prog_6_method_9_code
def yX4_numbersOf : MethodName := ⟨RX4, "numbersOf", "(I)I"⟩
abbrev cX4_digitsFrom : ByteArray := prog_6_method_10_code
def yX4_digitsFrom : MethodName := ⟨RX4, "digitsFrom", "(I)I"⟩
abbrev cX4_isDigit : ByteArray := prog_6_method_11_code
def yX4_isDigit : MethodName := ⟨RX4, "isDigit", "(C)Z"⟩
abbrev cX4_numberFrom : ByteArray := prog_6_method_12_code
def yX4_numberFrom : MethodName := ⟨RX4, "numberFrom", "(II)I"⟩
def RX5 : String := "BribedClerks"
def TX5 : u_T := fun k => match k with
  | 0 => ("BribedClerks", "now", "LBribedClerks$State;", true)
  | 1 => ("BribedClerks", "history", "LBribedClerks$History;", true)
  | 2 => ("BribedClerks", "snapshot", "LBribedClerks$State;", true)
  | 3 => ("BribedClerks", "hasSnapshot", "Z", false)
  | 4 => ("BribedClerks", "text", "LBribedClerks$Text;", true)
  | _ => ("BribedClerks", "rehearsal", "LBribedClerks$Reading;", true)
def tyX5 : Nat → FieldType := fun k => match k with
  | 0 => .object "BribedClerks$State"
  | 1 => .object "BribedClerks$History"
  | 2 => .object "BribedClerks$State"
  | 3 => .boolean
  | 4 => .object "BribedClerks$Text"
  | _ => .object "BribedClerks$Reading"
abbrev wsX50 : List Cond := u_ws RX5 TX5 6
theorem nmX5 : ∀ a, a < 6 → ∀ b, b < 6 → a ≠ b → (TX5 a).2.1 ≠ (TX5 b).2.1 := by decide +kernel
theorem tyX5_ok : ∀ k, k < 6 → parseFieldDescriptor (TX5 k).2.2.1 = some (tyX5 k) := by decide +kernel
abbrev cX5_init : ByteArray := prog_1_method_1_code
def yX5_init : MethodName := ⟨RX5, "<init>", "()V"⟩
abbrev cX5_add : ByteArray := prog_1_method_2_code
def yX5_add : MethodName := ⟨RX5, "add", "(III)I"⟩
abbrev cX5_drop : ByteArray := prog_1_method_3_code
def yX5_drop : MethodName := ⟨RX5, "drop", "(II)I"⟩
abbrev cX5_delete : ByteArray := prog_1_method_4_code
def yX5_delete : MethodName := ⟨RX5, "delete", "(I)I"⟩
abbrev cX5_bring : ByteArray := prog_1_method_5_code
def yX5_bring : MethodName := ⟨RX5, "bring", "(I)I"⟩
abbrev cX5_setDeleted : ByteArray := prog_1_method_6_code
def yX5_setDeleted : MethodName := ⟨RX5, "setDeleted", "(IZ)I"⟩
abbrev cX5_weight : ByteArray := prog_1_method_7_code
def yX5_weight : MethodName := ⟨RX5, "weight", "(II)I"⟩
abbrev cX5_want : ByteArray := prog_1_method_8_code
def yX5_want : MethodName := ⟨RX5, "want", "(I)I"⟩
abbrev cX5_bribe : ByteArray := prog_1_method_9_code
def yX5_bribe : MethodName := ⟨RX5, "bribe", "(II)I"⟩
abbrev cX5_setOfList : ByteArray := prog_1_method_10_code
def yX5_setOfList : MethodName := ⟨RX5, "setOfList", "([IIII)I"⟩
abbrev cX5_begin : ByteArray := prog_1_method_11_code
def yX5_begin : MethodName := ⟨RX5, "begin", "(IZ)I"⟩
abbrev cX5_step : ByteArray := prog_1_method_12_code
def yX5_step : MethodName := ⟨RX5, "step", "(I)I"⟩
abbrev cX5_end : ByteArray := prog_1_method_13_code
def yX5_end : MethodName := ⟨RX5, "end", "()I"⟩
abbrev cX5_type : ByteArray := prog_1_method_14_code
def yX5_type : MethodName := ⟨RX5, "type", "(C)I"⟩
abbrev cX5_clearText : ByteArray := prog_1_method_15_code
def yX5_clearText : MethodName := ⟨RX5, "clearText", "()I"⟩
abbrev cX5_perform : ByteArray := prog_1_method_16_code
def yX5_perform : MethodName := ⟨RX5, "perform", "()I"⟩
abbrev cX5_undo : ByteArray := prog_1_method_17_code
def yX5_undo : MethodName := ⟨RX5, "undo", "()I"⟩
abbrev cX5_keep : ByteArray := prog_1_method_18_code
def yX5_keep : MethodName := ⟨RX5, "keep", "()I"⟩
abbrev cX5_restore : ByteArray := prog_1_method_19_code
def yX5_restore : MethodName := ⟨RX5, "restore", "()I"⟩
abbrev cX5_list : ByteArray := prog_1_method_20_code
def yX5_list : MethodName := ⟨RX5, "list", "(II)I"⟩
abbrev cX5_entry : ByteArray := prog_1_method_21_code
def yX5_entry : MethodName := ⟨RX5, "entry", "(III)I"⟩
abbrev cX5_document : ByteArray := prog_1_method_22_code
def yX5_document : MethodName := ⟨RX5, "document", "(II)I"⟩
abbrev cX5_wanted : ByteArray := prog_1_method_23_code
def yX5_wanted : MethodName := ⟨RX5, "wanted", "(I)I"⟩
abbrev cX5_clerk : ByteArray := prog_1_method_24_code
def yX5_clerk : MethodName := ⟨RX5, "clerk", "(II)I"⟩
abbrev cX5_seen : ByteArray := prog_1_method_25_code
def yX5_seen : MethodName := ⟨RX5, "seen", "(II)I"⟩
abbrev cX5_told : ByteArray := prog_1_method_26_code
def yX5_told : MethodName := ⟨RX5, "told", "(I)I"⟩
abbrev cX5_reading : ByteArray := prog_1_method_27_code
def yX5_reading : MethodName := ⟨RX5, "reading", "(I)I"⟩
abbrev cX5_trial : ByteArray := prog_1_method_28_code
def yX5_trial : MethodName := ⟨RX5, "trial", "(IZI)I"⟩
abbrev cX5_cheapest : ByteArray := prog_1_method_29_code
def yX5_cheapest : MethodName := ⟨RX5, "cheapest", "()I"⟩
abbrev cX5_count : ByteArray := prog_1_method_30_code
def yX5_count : MethodName := ⟨RX5, "count", "(I)I"⟩
abbrev cX5_isList : ByteArray := prog_1_method_31_code
def yX5_isList : MethodName := ⟨RX5, "isList", "(I)Z"⟩
abbrev cX5_isDocument : ByteArray := prog_1_method_32_code
def yX5_isDocument : MethodName := ⟨RX5, "isDocument", "(I)Z"⟩
abbrev cX5_isWay : ByteArray := prog_1_method_33_code
def yX5_isWay : MethodName := ⟨RX5, "isWay", "(I)Z"⟩
abbrev cX5_oneIf : ByteArray := prog_1_method_34_code
def yX5_oneIf : MethodName := ⟨RX5, "oneIf", "(Z)I"⟩
abbrev cX5_at : ByteArray := prog_1_method_35_code
def yX5_at : MethodName := ⟨RX5, "at", "([II)I"⟩
abbrev cX5_put : ByteArray := prog_1_method_36_code
def yX5_put : MethodName := ⟨RX5, "put", "([III)V"⟩
abbrev cX5_copyRow : ByteArray := prog_1_method_37_code
def yX5_copyRow : MethodName := ⟨RX5, "copyRow", "([I[I)V"⟩
def RX6 : String := "BribedClerksModel"
def TX6 : u_T := fun k => match k with
  | 0 => ("BribedClerksModel", "z", "[I", true)
  | 1 => ("BribedClerksModel", "past", "[I", true)
  | 2 => ("BribedClerksModel", "kept", "[I", true)
  | 3 => ("BribedClerksModel", "spare", "[I", true)
  | 4 => ("BribedClerksModel", "lows", "[I", true)
  | 5 => ("BribedClerksModel", "pastMany", "I", false)
  | 6 => ("BribedClerksModel", "isKept", "Z", false)
  | 7 => ("BribedClerksModel", "text", "[C", true)
  | 8 => ("BribedClerksModel", "typed", "I", false)
  | 9 => ("BribedClerksModel", "at", "I", false)
  | 10 => ("BribedClerksModel", "isWrong", "Z", false)
  | _ => ("BribedClerksModel", "numbers", "[I", true)
def tyX6 : Nat → FieldType := fun k => match k with
  | 0 => .array .int
  | 1 => .array .int
  | 2 => .array .int
  | 3 => .array .int
  | 4 => .array .int
  | 5 => .int
  | 6 => .boolean
  | 7 => .array .char
  | 8 => .int
  | 9 => .int
  | 10 => .boolean
  | _ => .array .int
abbrev wsX60 : List Cond := u_ws RX6 TX6 12
theorem nmX6 : ∀ a, a < 12 → ∀ b, b < 12 → a ≠ b → (TX6 a).2.1 ≠ (TX6 b).2.1 := by decide +kernel
theorem tyX6_ok : ∀ k, k < 12 → parseFieldDescriptor (TX6 k).2.2.1 = some (tyX6 k) := by decide +kernel
abbrev cX6_init : ByteArray := prog_8_method_1_code
def yX6_init : MethodName := ⟨RX6, "<init>", "()V"⟩
abbrev cX6_record : ByteArray := prog_8_method_2_code
def yX6_record : MethodName := ⟨RX6, "record", "()V"⟩
abbrev cX6_entries : ByteArray := prog_8_method_3_code
def yX6_entries : MethodName := ⟨RX6, "entries", "()I"⟩
abbrev cX6_undo : ByteArray := prog_8_method_4_code
def yX6_undo : MethodName := ⟨RX6, "undo", "()I"⟩
abbrev cX6_keep : ByteArray := prog_8_method_5_code
def yX6_keep : MethodName := ⟨RX6, "keep", "()I"⟩
abbrev cX6_restore : ByteArray := prog_8_method_6_code
def yX6_restore : MethodName := ⟨RX6, "restore", "()I"⟩
abbrev cX6_isList : ByteArray := prog_8_method_7_code
def yX6_isList : MethodName := ⟨RX6, "isList", "(I)Z"⟩
abbrev cX6_isDocument : ByteArray := prog_8_method_8_code
def yX6_isDocument : MethodName := ⟨RX6, "isDocument", "(I)Z"⟩
abbrev cX6_placeOf : ByteArray := prog_8_method_9_code
def yX6_placeOf : MethodName := ⟨RX6, "placeOf", "(II)I"⟩
abbrev cX6_scoreOf : ByteArray := prog_8_method_10_code
def yX6_scoreOf : MethodName := ⟨RX6, "scoreOf", "(II)I"⟩
abbrev cX6_takeOut : ByteArray := prog_8_method_11_code
def yX6_takeOut : MethodName := ⟨RX6, "takeOut", "(II)V"⟩
abbrev cX6_putIn : ByteArray := prog_8_method_12_code
def yX6_putIn : MethodName := ⟨RX6, "putIn", "(III)I"⟩
abbrev cX6_add : ByteArray := prog_8_method_13_code
def yX6_add : MethodName := ⟨RX6, "add", "(III)I"⟩
abbrev cX6_drop : ByteArray := prog_8_method_14_code
def yX6_drop : MethodName := ⟨RX6, "drop", "(II)I"⟩
abbrev cX6_listsOf : ByteArray := prog_8_method_15_code
def yX6_listsOf : MethodName := ⟨RX6, "listsOf", "(I)I"⟩
abbrev cX6_bits : ByteArray := prog_8_method_16_code
def yX6_bits : MethodName := ⟨RX6, "bits", "(I)I"⟩
abbrev cX6_gone : ByteArray := prog_8_method_17_code
def yX6_gone : MethodName := ⟨RX6, "gone", "(II)I"⟩
abbrev cX6_delete : ByteArray := prog_8_method_18_code
def yX6_delete : MethodName := ⟨RX6, "delete", "(I)I"⟩
abbrev cX6_bring : ByteArray := prog_8_method_19_code
def yX6_bring : MethodName := ⟨RX6, "bring", "(I)I"⟩
abbrev cX6_setOf : ByteArray := prog_8_method_20_code
def yX6_setOf : MethodName := ⟨RX6, "setOf", "(IIII)I"⟩
abbrev cX6_weight : ByteArray := prog_8_method_21_code
def yX6_weight : MethodName := ⟨RX6, "weight", "(II)I"⟩
abbrev cX6_bribe : ByteArray := prog_8_method_22_code
def yX6_bribe : MethodName := ⟨RX6, "bribe", "(II)I"⟩
abbrev cX6_want : ByteArray := prog_8_method_23_code
def yX6_want : MethodName := ⟨RX6, "want", "(I)I"⟩
abbrev cX6_isAsked : ByteArray := prog_8_method_24_code
def yX6_isAsked : MethodName := ⟨RX6, "isAsked", "(I)Z"⟩
abbrev cX6_asked : ByteArray := prog_8_method_25_code
def yX6_asked : MethodName := ⟨RX6, "asked", "()I"⟩
abbrev cX6_value : ByteArray := prog_8_method_26_code
def yX6_value : MethodName := ⟨RX6, "value", "(I)I"⟩
abbrev cX6_mayBeWanted : ByteArray := prog_8_method_27_code
def yX6_mayBeWanted : MethodName := ⟨RX6, "mayBeWanted", "(I)Z"⟩
abbrev cX6_wantedPlace : ByteArray := prog_8_method_28_code
def yX6_wantedPlace : MethodName := ⟨RX6, "wantedPlace", "(I)I"⟩
abbrev cX6_wantedMany : ByteArray := prog_8_method_29_code
def yX6_wantedMany : MethodName := ⟨RX6, "wantedMany", "()I"⟩
abbrev cX6_wanted : ByteArray := prog_8_method_30_code
def yX6_wanted : MethodName := ⟨RX6, "wanted", "(I)I"⟩
abbrev cX6_document : ByteArray := prog_8_method_31_code
def yX6_document : MethodName := ⟨RX6, "document", "(II)I"⟩
abbrev cX6_list : ByteArray := prog_8_method_32_code
def yX6_list : MethodName := ⟨RX6, "list", "(II)I"⟩
abbrev cX6_entry : ByteArray := prog_8_method_33_code
def yX6_entry : MethodName := ⟨RX6, "entry", "(III)I"⟩
abbrev cX6_left : ByteArray := prog_8_method_34_code
def yX6_left : MethodName := ⟨RX6, "left", "(I)I"⟩
abbrev cX6_canBeRead : ByteArray := prog_8_method_35_code
def yX6_canBeRead : MethodName := ⟨RX6, "canBeRead", "(I)Z"⟩
abbrev cX6_bound : ByteArray := prog_8_method_36_code
def yX6_bound : MethodName := ⟨RX6, "bound", "(I)I"⟩
abbrev cX6_toldBound : ByteArray := prog_8_method_37_code
def yX6_toldBound : MethodName := ⟨RX6, "toldBound", "(I)I"⟩
abbrev cX6_boundsTogether : ByteArray := prog_8_method_38_code
def yX6_boundsTogether : MethodName := ⟨RX6, "boundsTogether", "()I"⟩
abbrev cX6_isKnown : ByteArray := prog_8_method_39_code
def yX6_isKnown : MethodName := ⟨RX6, "isKnown", "(II)Z"⟩
abbrev cX6_low : ByteArray := prog_8_method_40_code
def yX6_low : MethodName := ⟨RX6, "low", "(I)I"⟩
abbrev cX6_reckon : ByteArray := prog_8_method_41_code
def yX6_reckon : MethodName := ⟨RX6, "reckon", "()V"⟩
abbrev cX6_high : ByteArray := prog_8_method_42_code
def yX6_high : MethodName := ⟨RX6, "high", "(I)I"⟩
abbrev cX6_isSeen : ByteArray := prog_8_method_43_code
def yX6_isSeen : MethodName := ⟨RX6, "isSeen", "(I)Z"⟩
abbrev cX6_seenMany : ByteArray := prog_8_method_44_code
def yX6_seenMany : MethodName := ⟨RX6, "seenMany", "()I"⟩
abbrev cX6_toldMany : ByteArray := prog_8_method_45_code
def yX6_toldMany : MethodName := ⟨RX6, "toldMany", "()I"⟩
abbrev cX6_frontPlace : ByteArray := prog_8_method_46_code
def yX6_frontPlace : MethodName := ⟨RX6, "frontPlace", "(I)I"⟩
abbrev cX6_frontAt : ByteArray := prog_8_method_47_code
def yX6_frontAt : MethodName := ⟨RX6, "frontAt", "(I)I"⟩
abbrev cX6_isOver : ByteArray := prog_8_method_48_code
def yX6_isOver : MethodName := ⟨RX6, "isOver", "()Z"⟩
abbrev cX6_nextList : ByteArray := prog_8_method_49_code
def yX6_nextList : MethodName := ⟨RX6, "nextList", "()I"⟩
abbrev cX6_isChosenBefore : ByteArray := prog_8_method_50_code
def yX6_isChosenBefore : MethodName := ⟨RX6, "isChosenBefore", "(II)Z"⟩
abbrev cX6_startReading : ByteArray := prog_8_method_51_code
def yX6_startReading : MethodName := ⟨RX6, "startReading", "(IZ)V"⟩
abbrev cX6_oneStep : ByteArray := prog_8_method_52_code
def yX6_oneStep : MethodName := ⟨RX6, "oneStep", "()V"⟩
abbrev cX6_sees : ByteArray := prog_8_method_53_code
def yX6_sees : MethodName := ⟨RX6, "sees", "(II)V"⟩
abbrev cX6_begin : ByteArray := prog_8_method_54_code
def yX6_begin : MethodName := ⟨RX6, "begin", "(IZ)I"⟩
abbrev cX6_step : ByteArray := prog_8_method_55_code
def yX6_step : MethodName := ⟨RX6, "step", "(I)I"⟩
abbrev cX6_end : ByteArray := prog_8_method_56_code
def yX6_end : MethodName := ⟨RX6, "end", "()I"⟩
abbrev cX6_clerk : ByteArray := prog_8_method_57_code
def yX6_clerk : MethodName := ⟨RX6, "clerk", "(II)I"⟩
abbrev cX6_knownOf : ByteArray := prog_8_method_58_code
def yX6_knownOf : MethodName := ⟨RX6, "knownOf", "(I)I"⟩
abbrev cX6_seen : ByteArray := prog_8_method_59_code
def yX6_seen : MethodName := ⟨RX6, "seen", "(II)I"⟩
abbrev cX6_told : ByteArray := prog_8_method_60_code
def yX6_told : MethodName := ⟨RX6, "told", "(I)I"⟩
abbrev cX6_sumOf : ByteArray := prog_8_method_61_code
def yX6_sumOf : MethodName := ⟨RX6, "sumOf", "(I)I"⟩
abbrev cX6_cost : ByteArray := prog_8_method_62_code
def yX6_cost : MethodName := ⟨RX6, "cost", "()I"⟩
abbrev cX6_toldNotWanted : ByteArray := prog_8_method_63_code
def yX6_toldNotWanted : MethodName := ⟨RX6, "toldNotWanted", "()I"⟩
abbrev cX6_tellLess : ByteArray := prog_8_method_64_code
def yX6_tellLess : MethodName := ⟨RX6, "tellLess", "()I"⟩
abbrev cX6_reading : ByteArray := prog_8_method_65_code
def yX6_reading : MethodName := ⟨RX6, "reading", "(I)I"⟩
abbrev cX6_tried : ByteArray := prog_8_method_66_code
def yX6_tried : MethodName := ⟨RX6, "tried", "(IZI)I"⟩
abbrev cX6_trial : ByteArray := prog_8_method_67_code
def yX6_trial : MethodName := ⟨RX6, "trial", "(IZI)I"⟩
abbrev cX6_cheapest : ByteArray := prog_8_method_68_code
def yX6_cheapest : MethodName := ⟨RX6, "cheapest", "()I"⟩
abbrev cX6_count : ByteArray := prog_8_method_69_code
def yX6_count : MethodName := ⟨RX6, "count", "(I)I"⟩
abbrev cX6_type : ByteArray := prog_8_method_70_code
def yX6_type : MethodName := ⟨RX6, "type", "(C)I"⟩
abbrev cX6_clearText : ByteArray := prog_8_method_71_code
def yX6_clearText : MethodName := ⟨RX6, "clearText", "()I"⟩
abbrev cX6_letter : ByteArray := prog_8_method_72_code
def yX6_letter : MethodName := ⟨RX6, "letter", "(I)I"⟩
abbrev cX6_isSmall : ByteArray := prog_8_method_73_code
def yX6_isSmall : MethodName := ⟨RX6, "isSmall", "(I)Z"⟩
abbrev cX6_isDigit : ByteArray := prog_8_method_74_code
def yX6_isDigit : MethodName := ⟨RX6, "isDigit", "(I)Z"⟩
abbrev cX6_isWord : ByteArray := prog_8_method_75_code
def yX6_isWord : MethodName := ⟨RX6, "isWord", "(II)Z"⟩
abbrev cX6_spells : ByteArray := prog_8_method_76_code
def yX6_spells : MethodName := ⟨RX6, "spells", "(IIII)Z"⟩
abbrev cX6_readNumber : ByteArray := prog_8_method_77_code
def yX6_readNumber : MethodName := ⟨RX6, "readNumber", "(I)V"⟩
abbrev cX6_perform : ByteArray := prog_8_method_78_code
def yX6_perform : MethodName := ⟨RX6, "perform", "()I"⟩
abbrev cX6_does : ByteArray := prog_8_method_79_code
def yX6_does : MethodName := ⟨RX6, "does", "(I)I"⟩
def RJx145de : String := "java/io/Serializable"
def TJx145de : u_T := fun k => match k with
  | _ => ("", "", "", false)
def tyJx145de : Nat → FieldType := fun k => match k with
  | _ => .int
theorem nmJx145de : ∀ a, a < 0 → ∀ b, b < 0 → a ≠ b → (TJx145de a).2.1 ≠ (TJx145de b).2.1 := by decide +kernel
theorem tyJx145de_ok : ∀ k, k < 0 → parseFieldDescriptor (TJx145de k).2.2.1 = some (tyJx145de k) := by decide +kernel
def RJx9f9b0 : String := "java/lang/CharSequence"
def TJx9f9b0 : u_T := fun k => match k with
  | _ => ("", "", "", false)
def tyJx9f9b0 : Nat → FieldType := fun k => match k with
  | _ => .int
theorem nmJx9f9b0 : ∀ a, a < 0 → ∀ b, b < 0 → a ≠ b → (TJx9f9b0 a).2.1 ≠ (TJx9f9b0 b).2.1 := by decide +kernel
theorem tyJx9f9b0_ok : ∀ k, k < 0 → parseFieldDescriptor (TJx9f9b0 k).2.2.1 = some (tyJx9f9b0 k) := by decide +kernel
def RJxb160c : String := "java/lang/Comparable"
def TJxb160c : u_T := fun k => match k with
  | _ => ("", "", "", false)
def tyJxb160c : Nat → FieldType := fun k => match k with
  | _ => .int
theorem nmJxb160c : ∀ a, a < 0 → ∀ b, b < 0 → a ≠ b → (TJxb160c a).2.1 ≠ (TJxb160c b).2.1 := by decide +kernel
theorem tyJxb160c_ok : ∀ k, k < 0 → parseFieldDescriptor (TJxb160c k).2.2.1 = some (tyJxb160c k) := by decide +kernel
def RJ6 : String := "java/lang/Integer"
def TJ6 : u_T := fun k => match k with
  | _ => ("", "", "", false)
def tyJ6 : Nat → FieldType := fun k => match k with
  | _ => .int
abbrev wsJ60 : List Cond := u_ws RJ6 TJ6 0
theorem nmJ6 : ∀ a, a < 0 → ∀ b, b < 0 → a ≠ b → (TJ6 a).2.1 ≠ (TJ6 b).2.1 := by decide +kernel
theorem tyJ6_ok : ∀ k, k < 0 → parseFieldDescriptor (TJ6 k).2.2.1 = some (tyJ6 k) := by decide +kernel
abbrev cJ6_bitCount_0f7a4 : ByteArray := prog_9_method_49_code
def yJ6_bitCount_0f7a4 : MethodName := ⟨RJ6, "bitCount", "(I)I"⟩
def RJ13 : String := "java/lang/Long"
def TJ13 : u_T := fun k => match k with
  | _ => ("", "", "", false)
def tyJ13 : Nat → FieldType := fun k => match k with
  | _ => .int
abbrev wsJ130 : List Cond := u_ws RJ13 TJ13 0
theorem nmJ13 : ∀ a, a < 0 → ∀ b, b < 0 → a ≠ b → (TJ13 a).2.1 ≠ (TJ13 b).2.1 := by decide +kernel
theorem tyJ13_ok : ∀ k, k < 0 → parseFieldDescriptor (TJ13 k).2.2.1 = some (tyJ13 k) := by decide +kernel
abbrev cJ13_bitCount_95d88 : ByteArray := prog_10_method_50_code
def yJ13_bitCount_95d88 : MethodName := ⟨RJ13, "bitCount", "(J)I"⟩
def RJ9 : String := "java/lang/Math"
def TJ9 : u_T := fun k => match k with
  | _ => ("", "", "", false)
def tyJ9 : Nat → FieldType := fun k => match k with
  | _ => .int
abbrev wsJ90 : List Cond := u_ws RJ9 TJ9 0
theorem nmJ9 : ∀ a, a < 0 → ∀ b, b < 0 → a ≠ b → (TJ9 a).2.1 ≠ (TJ9 b).2.1 := by decide +kernel
theorem tyJ9_ok : ∀ k, k < 0 → parseFieldDescriptor (TJ9 k).2.2.1 = some (tyJ9 k) := by decide +kernel
abbrev cJ9_max_7cf53 : ByteArray := prog_11_method_65_code
def yJ9_max_7cf53 : MethodName := ⟨RJ9, "max", "(II)I"⟩
abbrev cJ9_min_7cf53 : ByteArray := prog_11_method_69_code
def yJ9_min_7cf53 : MethodName := ⟨RJ9, "min", "(II)I"⟩
def RJ0 : String := "java/lang/String"
def TJ0 : u_T := fun k => match k with
  | _ => ("", "", "", false)
def tyJ0 : Nat → FieldType := fun k => match k with
  | _ => .int
abbrev wsJ00 : List Cond := u_ws RJ0 TJ0 0
theorem nmJ0 : ∀ a, a < 0 → ∀ b, b < 0 → a ≠ b → (TJ0 a).2.1 ≠ (TJ0 b).2.1 := by decide +kernel
theorem tyJ0_ok : ∀ k, k < 0 → parseFieldDescriptor (TJ0 k).2.2.1 = some (tyJ0 k) := by decide +kernel
abbrev cJ0_length_8abf5 : ByteArray := prog_12_method_54_code
def yJ0_length_8abf5 : MethodName := ⟨RJ0, "length", "()I"⟩
abbrev cJ0_charAt_5068e : ByteArray := prog_12_method_56_code
def yJ0_charAt_5068e : MethodName := ⟨RJ0, "charAt", "(I)C"⟩
abbrev cJ0_coder_7d493 : ByteArray := prog_12_method_152_code
def yJ0_coder_7d493 : MethodName := ⟨RJ0, "coder", "()B"⟩
abbrev cJ0_isLatin1_aae02 : ByteArray := prog_12_method_154_code
def yJ0_isLatin1_aae02 : MethodName := ⟨RJ0, "isLatin1", "()Z"⟩
abbrev cJ0_checkIndex_df160 : ByteArray := prog_12_method_155_code
def yJ0_checkIndex_df160 : MethodName := ⟨RJ0, "checkIndex", "(II)V"⟩
def RJ1 : String := "java/lang/StringLatin1"
def TJ1 : u_T := fun k => match k with
  | _ => ("", "", "", false)
def tyJ1 : Nat → FieldType := fun k => match k with
  | _ => .int
abbrev wsJ10 : List Cond := u_ws RJ1 TJ1 0
theorem nmJ1 : ∀ a, a < 0 → ∀ b, b < 0 → a ≠ b → (TJ1 a).2.1 ≠ (TJ1 b).2.1 := by decide +kernel
theorem tyJ1_ok : ∀ k, k < 0 → parseFieldDescriptor (TJ1 k).2.2.1 = some (tyJ1 k) := by decide +kernel
abbrev cJ1_charAt_3b067 : ByteArray := prog_13_method_2_code
def yJ1_charAt_3b067 : MethodName := ⟨RJ1, "charAt", "([BI)C"⟩
def RJ2 : String := "java/lang/StringUTF16"
def TJ2 : u_T := fun k => match k with
  | _ => ("", "", "", false)
def tyJ2 : Nat → FieldType := fun k => match k with
  | _ => .int
abbrev wsJ20 : List Cond := u_ws RJ2 TJ2 0
theorem nmJ2 : ∀ a, a < 0 → ∀ b, b < 0 → a ≠ b → (TJ2 a).2.1 ≠ (TJ2 b).2.1 := by decide +kernel
theorem tyJ2_ok : ∀ k, k < 0 → parseFieldDescriptor (TJ2 k).2.2.1 = some (tyJ2 k) := by decide +kernel
abbrev cJ2_getChar_3b067 : ByteArray := prog_14_method_5_code
def yJ2_getChar_3b067 : MethodName := ⟨RJ2, "getChar", "([BI)C"⟩
abbrev cJ2_length_9d52b : ByteArray := prog_14_method_6_code
def yJ2_length_9d52b : MethodName := ⟨RJ2, "length", "([B)I"⟩
abbrev cJ2_charAt_3b067 : ByteArray := prog_14_method_83_code
def yJ2_charAt_3b067 : MethodName := ⟨RJ2, "charAt", "([BI)C"⟩
abbrev cJ2_checkIndex_2214a : ByteArray := prog_14_method_91_code
def yJ2_checkIndex_2214a : MethodName := ⟨RJ2, "checkIndex", "(I[B)V"⟩
def RJ10 : String := "java/lang/System"
def TJ10 : u_T := fun k => match k with
  | _ => ("", "", "", false)
def tyJ10 : Nat → FieldType := fun k => match k with
  | _ => .int
abbrev wsJ100 : List Cond := u_ws RJ10 TJ10 0
theorem nmJ10 : ∀ a, a < 0 → ∀ b, b < 0 → a ≠ b → (TJ10 a).2.1 ≠ (TJ10 b).2.1 := by decide +kernel
theorem tyJ10_ok : ∀ k, k < 0 → parseFieldDescriptor (TJ10 k).2.2.1 = some (tyJ10 k) := by decide +kernel
def RJxfd54e : String := "java/lang/constant/Constable"
def TJxfd54e : u_T := fun k => match k with
  | _ => ("", "", "", false)
def tyJxfd54e : Nat → FieldType := fun k => match k with
  | _ => .int
theorem nmJxfd54e : ∀ a, a < 0 → ∀ b, b < 0 → a ≠ b → (TJxfd54e a).2.1 ≠ (TJxfd54e b).2.1 := by decide +kernel
theorem tyJxfd54e_ok : ∀ k, k < 0 → parseFieldDescriptor (TJxfd54e k).2.2.1 = some (tyJxfd54e k) := by decide +kernel
def RJx3cf43 : String := "java/lang/constant/ConstantDesc"
def TJx3cf43 : u_T := fun k => match k with
  | _ => ("", "", "", false)
def tyJx3cf43 : Nat → FieldType := fun k => match k with
  | _ => .int
theorem nmJx3cf43 : ∀ a, a < 0 → ∀ b, b < 0 → a ≠ b → (TJx3cf43 a).2.1 ≠ (TJx3cf43 b).2.1 := by decide +kernel
theorem tyJx3cf43_ok : ∀ k, k < 0 → parseFieldDescriptor (TJx3cf43 k).2.2.1 = some (tyJx3cf43 k) := by decide +kernel
def RJ7 : String := "java/util/Arrays"
def TJ7 : u_T := fun k => match k with
  | _ => ("", "", "", false)
def tyJ7 : Nat → FieldType := fun k => match k with
  | _ => .int
abbrev wsJ70 : List Cond := u_ws RJ7 TJ7 0
theorem nmJ7 : ∀ a, a < 0 → ∀ b, b < 0 → a ≠ b → (TJ7 a).2.1 ≠ (TJ7 b).2.1 := by decide +kernel
theorem tyJ7_ok : ∀ k, k < 0 → parseFieldDescriptor (TJ7 k).2.2.1 = some (tyJ7 k) := by decide +kernel
abbrev cJ7_fill_53178 : ByteArray := prog_16_method_103_code
def yJ7_fill_53178 : MethodName := ⟨RJ7, "fill", "([II)V"⟩
def RJ3 : String := "jdk/internal/util/Preconditions"
def TJ3 : u_T := fun k => match k with
  | _ => ("", "", "", false)
def tyJ3 : Nat → FieldType := fun k => match k with
  | _ => .int
abbrev wsJ30 : List Cond := u_ws RJ3 TJ3 0
theorem nmJ3 : ∀ a, a < 0 → ∀ b, b < 0 → a ≠ b → (TJ3 a).2.1 ≠ (TJ3 b).2.1 := by decide +kernel
theorem tyJ3_ok : ∀ k, k < 0 → parseFieldDescriptor (TJ3 k).2.2.1 = some (tyJ3 k) := by decide +kernel
abbrev cJ3_checkIndex_8e157 : ByteArray := prog_17_method_11_code
def yJ3_checkIndex_8e157 : MethodName := ⟨RJ3, "checkIndex", "(IILjava/util/function/BiFunction;)I"⟩
def RL : String := "BribedClerksLaw"
abbrev cL_law : ByteArray := code
def yL_law : MethodName := ⟨RL, "law", "([I)Z"⟩
abbrev vwCl : List vw_C := [(RX0, TX0, 2), (RX1, TX1, 7), (RX2, TX2, 16), (RX3, TX3, 4), (RX4, TX4, 4), (RX5, TX5, 6), (RX6, TX6, 12)]
end
section
theorem dX0_init_0 : decode cX0_init 0 = .ok (.aload_n 0, 1) := by decide +kernel
theorem dX0_init_1 : decode cX0_init 1 = .ok (.invokespecial 3, 3) := by decide +kernel
theorem dX0_init_4 : decode cX0_init 4 = .ok (.aload_n 0, 1) := by decide +kernel
theorem dX0_init_5 : decode cX0_init 5 = .ok (.iconst 4, 1) := by decide +kernel
theorem dX0_init_6 : decode cX0_init 6 = .ok (.anewarray 9, 3) := by decide +kernel
theorem dX0_init_9 : decode cX0_init 9 = .ok (.putfield 11, 3) := by decide +kernel
theorem dX0_init_12 : decode cX0_init 12 = .ok (.aload_n 0, 1) := by decide +kernel
theorem dX0_init_13 : decode cX0_init 13 = .ok (.iconst 0, 1) := by decide +kernel
theorem dX0_init_14 : decode cX0_init 14 = .ok (.putfield 17, 3) := by decide +kernel
theorem dX0_init_17 : decode cX0_init 17 = .ok (.iconst 0, 1) := by decide +kernel
theorem dX0_init_18 : decode cX0_init 18 = .ok (.istore_n 1, 1) := by decide +kernel
theorem dX0_init_19 : decode cX0_init 19 = .ok (.iload_n 1, 1) := by decide +kernel
theorem dX0_init_20 : decode cX0_init 20 = .ok (.aload_n 0, 1) := by decide +kernel
theorem dX0_init_21 : decode cX0_init 21 = .ok (.getfield 11, 3) := by decide +kernel
theorem dX0_init_24 : decode cX0_init 24 = .ok (.arraylength, 1) := by decide +kernel
theorem dX0_init_25 : decode cX0_init 25 = .ok (.if_icmp .ge 22, 3) := by decide +kernel
theorem dX0_init_28 : decode cX0_init 28 = .ok (.aload_n 0, 1) := by decide +kernel
theorem dX0_init_29 : decode cX0_init 29 = .ok (.getfield 11, 3) := by decide +kernel
theorem dX0_init_32 : decode cX0_init 32 = .ok (.iload_n 1, 1) := by decide +kernel
theorem dX0_init_33 : decode cX0_init 33 = .ok (.new 9, 3) := by decide +kernel
theorem dX0_init_36 : decode cX0_init 36 = .ok (.dup, 1) := by decide +kernel
theorem dX0_init_37 : decode cX0_init 37 = .ok (.invokespecial 21, 3) := by decide +kernel
theorem dX0_init_40 : decode cX0_init 40 = .ok (.aastore, 1) := by decide +kernel
theorem dX0_init_41 : decode cX0_init 41 = .ok (.iinc 1 1, 3) := by decide +kernel
theorem dX0_init_44 : decode cX0_init 44 = .ok (.goto (-25), 3) := by decide +kernel
theorem dX0_init_47 : decode cX0_init 47 = .ok (.return_, 1) := by decide +kernel
theorem dX0_record_0 : decode cX0_record 0 = .ok (.aload_n 0, 1) := by decide +kernel
theorem dX0_record_1 : decode cX0_record 1 = .ok (.getfield 17, 3) := by decide +kernel
theorem dX0_record_4 : decode cX0_record 4 = .ok (.iconst 4, 1) := by decide +kernel
theorem dX0_record_5 : decode cX0_record 5 = .ok (.if_icmp .lt 12, 3) := by decide +kernel
theorem dX0_record_8 : decode cX0_record 8 = .ok (.aload_n 0, 1) := by decide +kernel
theorem dX0_record_9 : decode cX0_record 9 = .ok (.invokevirtual 22, 3) := by decide +kernel
theorem dX0_record_12 : decode cX0_record 12 = .ok (.aload_n 0, 1) := by decide +kernel
theorem dX0_record_13 : decode cX0_record 13 = .ok (.iconst 3, 1) := by decide +kernel
theorem dX0_record_14 : decode cX0_record 14 = .ok (.putfield 17, 3) := by decide +kernel
theorem dX0_record_17 : decode cX0_record 17 = .ok (.aload_n 0, 1) := by decide +kernel
theorem dX0_record_18 : decode cX0_record 18 = .ok (.aload_n 0, 1) := by decide +kernel
theorem dX0_record_19 : decode cX0_record 19 = .ok (.getfield 17, 3) := by decide +kernel
theorem dX0_record_22 : decode cX0_record 22 = .ok (.invokevirtual 25, 3) := by decide +kernel
theorem dX0_record_25 : decode cX0_record 25 = .ok (.astore_n 2, 1) := by decide +kernel
theorem dX0_record_26 : decode cX0_record 26 = .ok (.aload_n 2, 1) := by decide +kernel
theorem dX0_record_27 : decode cX0_record 27 = .ok (.ifnull 18, 3) := by decide +kernel
theorem dX0_record_30 : decode cX0_record 30 = .ok (.aload_n 2, 1) := by decide +kernel
theorem dX0_record_31 : decode cX0_record 31 = .ok (.aload_n 1, 1) := by decide +kernel
theorem dX0_record_32 : decode cX0_record 32 = .ok (.invokevirtual 29, 3) := by decide +kernel
theorem dX0_record_35 : decode cX0_record 35 = .ok (.aload_n 0, 1) := by decide +kernel
theorem dX0_record_36 : decode cX0_record 36 = .ok (.dup, 1) := by decide +kernel
theorem dX0_record_37 : decode cX0_record 37 = .ok (.getfield 17, 3) := by decide +kernel
theorem dX0_record_40 : decode cX0_record 40 = .ok (.iconst 1, 1) := by decide +kernel
theorem dX0_record_41 : decode cX0_record 41 = .ok (.iadd, 1) := by decide +kernel
theorem dX0_record_42 : decode cX0_record 42 = .ok (.putfield 17, 3) := by decide +kernel
theorem dX0_record_45 : decode cX0_record 45 = .ok (.return_, 1) := by decide +kernel
theorem dX0_moveOldestToEnd_0 : decode cX0_moveOldestToEnd 0 = .ok (.iconst 1, 1) := by decide +kernel
theorem dX0_moveOldestToEnd_1 : decode cX0_moveOldestToEnd 1 = .ok (.istore_n 1, 1) := by decide +kernel
theorem dX0_moveOldestToEnd_2 : decode cX0_moveOldestToEnd 2 = .ok (.iload_n 1, 1) := by decide +kernel
theorem dX0_moveOldestToEnd_3 : decode cX0_moveOldestToEnd 3 = .ok (.aload_n 0, 1) := by decide +kernel
theorem dX0_moveOldestToEnd_4 : decode cX0_moveOldestToEnd 4 = .ok (.getfield 11, 3) := by decide +kernel
theorem dX0_moveOldestToEnd_7 : decode cX0_moveOldestToEnd 7 = .ok (.arraylength, 1) := by decide +kernel
theorem dX0_moveOldestToEnd_8 : decode cX0_moveOldestToEnd 8 = .ok (.if_icmp .ge 39, 3) := by decide +kernel
theorem dX0_moveOldestToEnd_11 : decode cX0_moveOldestToEnd 11 = .ok (.aload_n 0, 1) := by decide +kernel
theorem dX0_moveOldestToEnd_12 : decode cX0_moveOldestToEnd 12 = .ok (.getfield 11, 3) := by decide +kernel
theorem dX0_moveOldestToEnd_15 : decode cX0_moveOldestToEnd 15 = .ok (.iload_n 1, 1) := by decide +kernel
theorem dX0_moveOldestToEnd_16 : decode cX0_moveOldestToEnd 16 = .ok (.iconst 1, 1) := by decide +kernel
theorem dX0_moveOldestToEnd_17 : decode cX0_moveOldestToEnd 17 = .ok (.isub, 1) := by decide +kernel
theorem dX0_moveOldestToEnd_18 : decode cX0_moveOldestToEnd 18 = .ok (.aaload, 1) := by decide +kernel
theorem dX0_moveOldestToEnd_19 : decode cX0_moveOldestToEnd 19 = .ok (.astore_n 2, 1) := by decide +kernel
theorem dX0_moveOldestToEnd_20 : decode cX0_moveOldestToEnd 20 = .ok (.aload_n 0, 1) := by decide +kernel
theorem dX0_moveOldestToEnd_21 : decode cX0_moveOldestToEnd 21 = .ok (.getfield 11, 3) := by decide +kernel
theorem dX0_moveOldestToEnd_24 : decode cX0_moveOldestToEnd 24 = .ok (.iload_n 1, 1) := by decide +kernel
theorem dX0_moveOldestToEnd_25 : decode cX0_moveOldestToEnd 25 = .ok (.iconst 1, 1) := by decide +kernel
theorem dX0_moveOldestToEnd_26 : decode cX0_moveOldestToEnd 26 = .ok (.isub, 1) := by decide +kernel
theorem dX0_moveOldestToEnd_27 : decode cX0_moveOldestToEnd 27 = .ok (.aload_n 0, 1) := by decide +kernel
theorem dX0_moveOldestToEnd_28 : decode cX0_moveOldestToEnd 28 = .ok (.getfield 11, 3) := by decide +kernel
theorem dX0_moveOldestToEnd_31 : decode cX0_moveOldestToEnd 31 = .ok (.iload_n 1, 1) := by decide +kernel
theorem dX0_moveOldestToEnd_32 : decode cX0_moveOldestToEnd 32 = .ok (.aaload, 1) := by decide +kernel
theorem dX0_moveOldestToEnd_33 : decode cX0_moveOldestToEnd 33 = .ok (.aastore, 1) := by decide +kernel
theorem dX0_moveOldestToEnd_34 : decode cX0_moveOldestToEnd 34 = .ok (.aload_n 0, 1) := by decide +kernel
theorem dX0_moveOldestToEnd_35 : decode cX0_moveOldestToEnd 35 = .ok (.getfield 11, 3) := by decide +kernel
theorem dX0_moveOldestToEnd_38 : decode cX0_moveOldestToEnd 38 = .ok (.iload_n 1, 1) := by decide +kernel
theorem dX0_moveOldestToEnd_39 : decode cX0_moveOldestToEnd 39 = .ok (.aload_n 2, 1) := by decide +kernel
theorem dX0_moveOldestToEnd_40 : decode cX0_moveOldestToEnd 40 = .ok (.aastore, 1) := by decide +kernel
theorem dX0_moveOldestToEnd_41 : decode cX0_moveOldestToEnd 41 = .ok (.iinc 1 1, 3) := by decide +kernel
theorem dX0_moveOldestToEnd_44 : decode cX0_moveOldestToEnd 44 = .ok (.goto (-42), 3) := by decide +kernel
theorem dX0_moveOldestToEnd_47 : decode cX0_moveOldestToEnd 47 = .ok (.return_, 1) := by decide +kernel
theorem dX0_takeLatest_0 : decode cX0_takeLatest 0 = .ok (.aload_n 0, 1) := by decide +kernel
theorem dX0_takeLatest_1 : decode cX0_takeLatest 1 = .ok (.aload_n 0, 1) := by decide +kernel
theorem dX0_takeLatest_2 : decode cX0_takeLatest 2 = .ok (.getfield 17, 3) := by decide +kernel
theorem dX0_takeLatest_5 : decode cX0_takeLatest 5 = .ok (.iconst 1, 1) := by decide +kernel
theorem dX0_takeLatest_6 : decode cX0_takeLatest 6 = .ok (.isub, 1) := by decide +kernel
theorem dX0_takeLatest_7 : decode cX0_takeLatest 7 = .ok (.invokevirtual 25, 3) := by decide +kernel
theorem dX0_takeLatest_10 : decode cX0_takeLatest 10 = .ok (.astore_n 2, 1) := by decide +kernel
theorem dX0_takeLatest_11 : decode cX0_takeLatest 11 = .ok (.aload_n 2, 1) := by decide +kernel
theorem dX0_takeLatest_12 : decode cX0_takeLatest 12 = .ok (.ifnull 18, 3) := by decide +kernel
theorem dX0_takeLatest_15 : decode cX0_takeLatest 15 = .ok (.aload_n 1, 1) := by decide +kernel
theorem dX0_takeLatest_16 : decode cX0_takeLatest 16 = .ok (.aload_n 2, 1) := by decide +kernel
theorem dX0_takeLatest_17 : decode cX0_takeLatest 17 = .ok (.invokevirtual 29, 3) := by decide +kernel
theorem dX0_takeLatest_20 : decode cX0_takeLatest 20 = .ok (.aload_n 0, 1) := by decide +kernel
theorem dX0_takeLatest_21 : decode cX0_takeLatest 21 = .ok (.dup, 1) := by decide +kernel
theorem dX0_takeLatest_22 : decode cX0_takeLatest 22 = .ok (.getfield 17, 3) := by decide +kernel
theorem dX0_takeLatest_25 : decode cX0_takeLatest 25 = .ok (.iconst 1, 1) := by decide +kernel
theorem dX0_takeLatest_26 : decode cX0_takeLatest 26 = .ok (.isub, 1) := by decide +kernel
theorem dX0_takeLatest_27 : decode cX0_takeLatest 27 = .ok (.putfield 17, 3) := by decide +kernel
theorem dX0_takeLatest_30 : decode cX0_takeLatest 30 = .ok (.return_, 1) := by decide +kernel
theorem dX0_stateAt_0 : decode cX0_stateAt 0 = .ok (.iload_n 1, 1) := by decide +kernel
theorem dX0_stateAt_1 : decode cX0_stateAt 1 = .ok (.ifCond .lt 21, 3) := by decide +kernel
theorem dX0_stateAt_4 : decode cX0_stateAt 4 = .ok (.iload_n 1, 1) := by decide +kernel
theorem dX0_stateAt_5 : decode cX0_stateAt 5 = .ok (.aload_n 0, 1) := by decide +kernel
theorem dX0_stateAt_6 : decode cX0_stateAt 6 = .ok (.getfield 11, 3) := by decide +kernel
theorem dX0_stateAt_9 : decode cX0_stateAt 9 = .ok (.arraylength, 1) := by decide +kernel
theorem dX0_stateAt_10 : decode cX0_stateAt 10 = .ok (.if_icmp .ge 12, 3) := by decide +kernel
theorem dX0_stateAt_13 : decode cX0_stateAt 13 = .ok (.aload_n 0, 1) := by decide +kernel
theorem dX0_stateAt_14 : decode cX0_stateAt 14 = .ok (.getfield 11, 3) := by decide +kernel
theorem dX0_stateAt_17 : decode cX0_stateAt 17 = .ok (.iload_n 1, 1) := by decide +kernel
theorem dX0_stateAt_18 : decode cX0_stateAt 18 = .ok (.aaload, 1) := by decide +kernel
theorem dX0_stateAt_19 : decode cX0_stateAt 19 = .ok (.goto 4, 3) := by decide +kernel
theorem dX0_stateAt_22 : decode cX0_stateAt 22 = .ok (.aconst_null, 1) := by decide +kernel
theorem dX0_stateAt_23 : decode cX0_stateAt 23 = .ok (.areturn, 1) := by decide +kernel
theorem dX1_init_0 : decode cX1_init 0 = .ok (.aload_n 0, 1) := by decide +kernel
theorem dX1_init_1 : decode cX1_init 1 = .ok (.invokespecial 3, 3) := by decide +kernel
theorem dX1_init_4 : decode cX1_init 4 = .ok (.aload_n 0, 1) := by decide +kernel
theorem dX1_init_5 : decode cX1_init 5 = .ok (.sipush 360, 3) := by decide +kernel
theorem dX1_init_8 : decode cX1_init 8 = .ok (.newarray .int, 2) := by decide +kernel
theorem dX1_init_10 : decode cX1_init 10 = .ok (.putfield 9, 3) := by decide +kernel
theorem dX1_init_13 : decode cX1_init 13 = .ok (.aload_n 0, 1) := by decide +kernel
theorem dX1_init_14 : decode cX1_init 14 = .ok (.sipush 240, 3) := by decide +kernel
theorem dX1_init_17 : decode cX1_init 17 = .ok (.newarray .int, 2) := by decide +kernel
theorem dX1_init_19 : decode cX1_init 19 = .ok (.putfield 15, 3) := by decide +kernel
theorem dX1_init_22 : decode cX1_init 22 = .ok (.aload_n 0, 1) := by decide +kernel
theorem dX1_init_23 : decode cX1_init 23 = .ok (.bipush 6, 2) := by decide +kernel
theorem dX1_init_25 : decode cX1_init 25 = .ok (.newarray .int, 2) := by decide +kernel
theorem dX1_init_27 : decode cX1_init 27 = .ok (.putfield 18, 3) := by decide +kernel
theorem dX1_init_30 : decode cX1_init 30 = .ok (.aload_n 0, 1) := by decide +kernel
theorem dX1_init_31 : decode cX1_init 31 = .ok (.bipush 6, 2) := by decide +kernel
theorem dX1_init_33 : decode cX1_init 33 = .ok (.newarray .int, 2) := by decide +kernel
theorem dX1_init_35 : decode cX1_init 35 = .ok (.putfield 21, 3) := by decide +kernel
theorem dX1_init_38 : decode cX1_init 38 = .ok (.aload_n 0, 1) := by decide +kernel
theorem dX1_init_39 : decode cX1_init 39 = .ok (.bipush 6, 2) := by decide +kernel
theorem dX1_init_41 : decode cX1_init 41 = .ok (.newarray .int, 2) := by decide +kernel
theorem dX1_init_43 : decode cX1_init 43 = .ok (.putfield 24, 3) := by decide +kernel
theorem dX1_init_46 : decode cX1_init 46 = .ok (.aload_n 0, 1) := by decide +kernel
theorem dX1_init_47 : decode cX1_init 47 = .ok (.lconst 0, 1) := by decide +kernel
theorem dX1_init_48 : decode cX1_init 48 = .ok (.putfield 27, 3) := by decide +kernel
theorem dX1_init_51 : decode cX1_init 51 = .ok (.aload_n 0, 1) := by decide +kernel
theorem dX1_init_52 : decode cX1_init 52 = .ok (.iconst 3, 1) := by decide +kernel
theorem dX1_init_53 : decode cX1_init 53 = .ok (.putfield 31, 3) := by decide +kernel
theorem dX1_init_56 : decode cX1_init 56 = .ok (.return_, 1) := by decide +kernel
theorem dX1_copyFrom_0 : decode cX1_copyFrom 0 = .ok (.aload_n 1, 1) := by decide +kernel
theorem dX1_copyFrom_1 : decode cX1_copyFrom 1 = .ok (.getfield 9, 3) := by decide +kernel
theorem dX1_copyFrom_4 : decode cX1_copyFrom 4 = .ok (.aload_n 0, 1) := by decide +kernel
theorem dX1_copyFrom_5 : decode cX1_copyFrom 5 = .ok (.getfield 9, 3) := by decide +kernel
theorem dX1_copyFrom_8 : decode cX1_copyFrom 8 = .ok (.invokestatic 35, 3) := by decide +kernel
theorem dX1_copyFrom_11 : decode cX1_copyFrom 11 = .ok (.aload_n 1, 1) := by decide +kernel
theorem dX1_copyFrom_12 : decode cX1_copyFrom 12 = .ok (.getfield 15, 3) := by decide +kernel
theorem dX1_copyFrom_15 : decode cX1_copyFrom 15 = .ok (.aload_n 0, 1) := by decide +kernel
theorem dX1_copyFrom_16 : decode cX1_copyFrom 16 = .ok (.getfield 15, 3) := by decide +kernel
theorem dX1_copyFrom_19 : decode cX1_copyFrom 19 = .ok (.invokestatic 35, 3) := by decide +kernel
theorem dX1_copyFrom_22 : decode cX1_copyFrom 22 = .ok (.aload_n 1, 1) := by decide +kernel
theorem dX1_copyFrom_23 : decode cX1_copyFrom 23 = .ok (.getfield 18, 3) := by decide +kernel
theorem dX1_copyFrom_26 : decode cX1_copyFrom 26 = .ok (.aload_n 0, 1) := by decide +kernel
theorem dX1_copyFrom_27 : decode cX1_copyFrom 27 = .ok (.getfield 18, 3) := by decide +kernel
theorem dX1_copyFrom_30 : decode cX1_copyFrom 30 = .ok (.invokestatic 35, 3) := by decide +kernel
theorem dX1_copyFrom_33 : decode cX1_copyFrom 33 = .ok (.aload_n 1, 1) := by decide +kernel
theorem dX1_copyFrom_34 : decode cX1_copyFrom 34 = .ok (.getfield 21, 3) := by decide +kernel
theorem dX1_copyFrom_37 : decode cX1_copyFrom 37 = .ok (.aload_n 0, 1) := by decide +kernel
theorem dX1_copyFrom_38 : decode cX1_copyFrom 38 = .ok (.getfield 21, 3) := by decide +kernel
theorem dX1_copyFrom_41 : decode cX1_copyFrom 41 = .ok (.invokestatic 35, 3) := by decide +kernel
theorem dX1_copyFrom_44 : decode cX1_copyFrom 44 = .ok (.aload_n 1, 1) := by decide +kernel
theorem dX1_copyFrom_45 : decode cX1_copyFrom 45 = .ok (.getfield 24, 3) := by decide +kernel
theorem dX1_copyFrom_48 : decode cX1_copyFrom 48 = .ok (.aload_n 0, 1) := by decide +kernel
theorem dX1_copyFrom_49 : decode cX1_copyFrom 49 = .ok (.getfield 24, 3) := by decide +kernel
theorem dX1_copyFrom_52 : decode cX1_copyFrom 52 = .ok (.invokestatic 35, 3) := by decide +kernel
theorem dX1_copyFrom_55 : decode cX1_copyFrom 55 = .ok (.aload_n 0, 1) := by decide +kernel
theorem dX1_copyFrom_56 : decode cX1_copyFrom 56 = .ok (.aload_n 1, 1) := by decide +kernel
theorem dX1_copyFrom_57 : decode cX1_copyFrom 57 = .ok (.getfield 27, 3) := by decide +kernel
theorem dX1_copyFrom_60 : decode cX1_copyFrom 60 = .ok (.putfield 27, 3) := by decide +kernel
theorem dX1_copyFrom_63 : decode cX1_copyFrom 63 = .ok (.aload_n 0, 1) := by decide +kernel
theorem dX1_copyFrom_64 : decode cX1_copyFrom 64 = .ok (.aload_n 1, 1) := by decide +kernel
theorem dX1_copyFrom_65 : decode cX1_copyFrom 65 = .ok (.getfield 31, 3) := by decide +kernel
theorem dX1_copyFrom_68 : decode cX1_copyFrom 68 = .ok (.putfield 31, 3) := by decide +kernel
theorem dX1_copyFrom_71 : decode cX1_copyFrom 71 = .ok (.return_, 1) := by decide +kernel
theorem dX1_sizeOf_0 : decode cX1_sizeOf 0 = .ok (.aload_n 0, 1) := by decide +kernel
theorem dX1_sizeOf_1 : decode cX1_sizeOf 1 = .ok (.getfield 18, 3) := by decide +kernel
theorem dX1_sizeOf_4 : decode cX1_sizeOf 4 = .ok (.iload_n 1, 1) := by decide +kernel
theorem dX1_sizeOf_5 : decode cX1_sizeOf 5 = .ok (.invokestatic 39, 3) := by decide +kernel
theorem dX1_sizeOf_8 : decode cX1_sizeOf 8 = .ok (.ireturn, 1) := by decide +kernel
theorem dX1_weightOf_0 : decode cX1_weightOf 0 = .ok (.aload_n 0, 1) := by decide +kernel
theorem dX1_weightOf_1 : decode cX1_weightOf 1 = .ok (.getfield 21, 3) := by decide +kernel
theorem dX1_weightOf_4 : decode cX1_weightOf 4 = .ok (.iload_n 1, 1) := by decide +kernel
theorem dX1_weightOf_5 : decode cX1_weightOf 5 = .ok (.invokestatic 39, 3) := by decide +kernel
theorem dX1_weightOf_8 : decode cX1_weightOf 8 = .ok (.ireturn, 1) := by decide +kernel
theorem dX1_isAsked_0 : decode cX1_isAsked 0 = .ok (.aload_n 0, 1) := by decide +kernel
theorem dX1_isAsked_1 : decode cX1_isAsked 1 = .ok (.getfield 21, 3) := by decide +kernel
theorem dX1_isAsked_4 : decode cX1_isAsked 4 = .ok (.iload_n 1, 1) := by decide +kernel
theorem dX1_isAsked_5 : decode cX1_isAsked 5 = .ok (.invokestatic 39, 3) := by decide +kernel
theorem dX1_isAsked_8 : decode cX1_isAsked 8 = .ok (.ifCond .le 7, 3) := by decide +kernel
theorem dX1_isAsked_11 : decode cX1_isAsked 11 = .ok (.iconst 1, 1) := by decide +kernel
theorem dX1_isAsked_12 : decode cX1_isAsked 12 = .ok (.goto 4, 3) := by decide +kernel
theorem dX1_isAsked_15 : decode cX1_isAsked 15 = .ok (.iconst 0, 1) := by decide +kernel
theorem dX1_isAsked_16 : decode cX1_isAsked 16 = .ok (.ireturn, 1) := by decide +kernel
theorem dX1_questionSize_0 : decode cX1_questionSize 0 = .ok (.iconst 0, 1) := by decide +kernel
theorem dX1_questionSize_1 : decode cX1_questionSize 1 = .ok (.istore_n 1, 1) := by decide +kernel
theorem dX1_questionSize_2 : decode cX1_questionSize 2 = .ok (.iconst 0, 1) := by decide +kernel
theorem dX1_questionSize_3 : decode cX1_questionSize 3 = .ok (.istore_n 2, 1) := by decide +kernel
theorem dX1_questionSize_4 : decode cX1_questionSize 4 = .ok (.iload_n 2, 1) := by decide +kernel
theorem dX1_questionSize_5 : decode cX1_questionSize 5 = .ok (.bipush 6, 2) := by decide +kernel
theorem dX1_questionSize_7 : decode cX1_questionSize 7 = .ok (.if_icmp .ge 20, 3) := by decide +kernel
theorem dX1_questionSize_10 : decode cX1_questionSize 10 = .ok (.iload_n 1, 1) := by decide +kernel
theorem dX1_questionSize_11 : decode cX1_questionSize 11 = .ok (.aload_n 0, 1) := by decide +kernel
theorem dX1_questionSize_12 : decode cX1_questionSize 12 = .ok (.iload_n 2, 1) := by decide +kernel
theorem dX1_questionSize_13 : decode cX1_questionSize 13 = .ok (.invokevirtual 43, 3) := by decide +kernel
theorem dX1_questionSize_16 : decode cX1_questionSize 16 = .ok (.invokestatic 47, 3) := by decide +kernel
theorem dX1_questionSize_19 : decode cX1_questionSize 19 = .ok (.iadd, 1) := by decide +kernel
theorem dX1_questionSize_20 : decode cX1_questionSize 20 = .ok (.istore_n 1, 1) := by decide +kernel
theorem dX1_questionSize_21 : decode cX1_questionSize 21 = .ok (.iinc 2 1, 3) := by decide +kernel
theorem dX1_questionSize_24 : decode cX1_questionSize 24 = .ok (.goto (-20), 3) := by decide +kernel
theorem dX1_questionSize_27 : decode cX1_questionSize 27 = .ok (.iload_n 1, 1) := by decide +kernel
theorem dX1_questionSize_28 : decode cX1_questionSize 28 = .ok (.ireturn, 1) := by decide +kernel
theorem dX1_entries_0 : decode cX1_entries 0 = .ok (.iconst 0, 1) := by decide +kernel
theorem dX1_entries_1 : decode cX1_entries 1 = .ok (.istore_n 1, 1) := by decide +kernel
theorem dX1_entries_2 : decode cX1_entries 2 = .ok (.iconst 0, 1) := by decide +kernel
theorem dX1_entries_3 : decode cX1_entries 3 = .ok (.istore_n 2, 1) := by decide +kernel
theorem dX1_entries_4 : decode cX1_entries 4 = .ok (.iload_n 2, 1) := by decide +kernel
theorem dX1_entries_5 : decode cX1_entries 5 = .ok (.bipush 6, 2) := by decide +kernel
theorem dX1_entries_7 : decode cX1_entries 7 = .ok (.if_icmp .ge 20, 3) := by decide +kernel
theorem dX1_entries_10 : decode cX1_entries 10 = .ok (.iload_n 1, 1) := by decide +kernel
theorem dX1_entries_11 : decode cX1_entries 11 = .ok (.aload_n 0, 1) := by decide +kernel
theorem dX1_entries_12 : decode cX1_entries 12 = .ok (.getfield 18, 3) := by decide +kernel
theorem dX1_entries_15 : decode cX1_entries 15 = .ok (.iload_n 2, 1) := by decide +kernel
theorem dX1_entries_16 : decode cX1_entries 16 = .ok (.invokestatic 39, 3) := by decide +kernel
theorem dX1_entries_19 : decode cX1_entries 19 = .ok (.iadd, 1) := by decide +kernel
theorem dX1_entries_20 : decode cX1_entries 20 = .ok (.istore_n 1, 1) := by decide +kernel
theorem dX1_entries_21 : decode cX1_entries 21 = .ok (.iinc 2 1, 3) := by decide +kernel
theorem dX1_entries_24 : decode cX1_entries 24 = .ok (.goto (-20), 3) := by decide +kernel
theorem dX1_entries_27 : decode cX1_entries 27 = .ok (.iload_n 1, 1) := by decide +kernel
theorem dX1_entries_28 : decode cX1_entries 28 = .ok (.ireturn, 1) := by decide +kernel
theorem dX1_scoreOf_0 : decode cX1_scoreOf 0 = .ok (.iload_n 2, 1) := by decide +kernel
theorem dX1_scoreOf_1 : decode cX1_scoreOf 1 = .ok (.invokestatic 51, 3) := by decide +kernel
theorem dX1_scoreOf_4 : decode cX1_scoreOf 4 = .ok (.ifCond .eq 19, 3) := by decide +kernel
theorem dX1_scoreOf_7 : decode cX1_scoreOf 7 = .ok (.aload_n 0, 1) := by decide +kernel
theorem dX1_scoreOf_8 : decode cX1_scoreOf 8 = .ok (.getfield 9, 3) := by decide +kernel
theorem dX1_scoreOf_11 : decode cX1_scoreOf 11 = .ok (.iload_n 1, 1) := by decide +kernel
theorem dX1_scoreOf_12 : decode cX1_scoreOf 12 = .ok (.bipush 60, 2) := by decide +kernel
theorem dX1_scoreOf_14 : decode cX1_scoreOf 14 = .ok (.imul, 1) := by decide +kernel
theorem dX1_scoreOf_15 : decode cX1_scoreOf 15 = .ok (.iload_n 2, 1) := by decide +kernel
theorem dX1_scoreOf_16 : decode cX1_scoreOf 16 = .ok (.iadd, 1) := by decide +kernel
theorem dX1_scoreOf_17 : decode cX1_scoreOf 17 = .ok (.invokestatic 39, 3) := by decide +kernel
theorem dX1_scoreOf_20 : decode cX1_scoreOf 20 = .ok (.goto 4, 3) := by decide +kernel
theorem dX1_scoreOf_23 : decode cX1_scoreOf 23 = .ok (.iconst 0, 1) := by decide +kernel
theorem dX1_scoreOf_24 : decode cX1_scoreOf 24 = .ok (.ireturn, 1) := by decide +kernel
theorem dX1_documentAt_0 : decode cX1_documentAt 0 = .ok (.aload_n 0, 1) := by decide +kernel
theorem dX1_documentAt_1 : decode cX1_documentAt 1 = .ok (.getfield 15, 3) := by decide +kernel
theorem dX1_documentAt_4 : decode cX1_documentAt 4 = .ok (.iload_n 1, 1) := by decide +kernel
theorem dX1_documentAt_5 : decode cX1_documentAt 5 = .ok (.bipush 40, 2) := by decide +kernel
theorem dX1_documentAt_7 : decode cX1_documentAt 7 = .ok (.imul, 1) := by decide +kernel
theorem dX1_documentAt_8 : decode cX1_documentAt 8 = .ok (.iload_n 2, 1) := by decide +kernel
theorem dX1_documentAt_9 : decode cX1_documentAt 9 = .ok (.iadd, 1) := by decide +kernel
theorem dX1_documentAt_10 : decode cX1_documentAt 10 = .ok (.invokestatic 39, 3) := by decide +kernel
theorem dX1_documentAt_13 : decode cX1_documentAt 13 = .ok (.ireturn, 1) := by decide +kernel
theorem dX1_scoreAt_0 : decode cX1_scoreAt 0 = .ok (.iload_n 2, 1) := by decide +kernel
theorem dX1_scoreAt_1 : decode cX1_scoreAt 1 = .ok (.aload_n 0, 1) := by decide +kernel
theorem dX1_scoreAt_2 : decode cX1_scoreAt 2 = .ok (.getfield 18, 3) := by decide +kernel
theorem dX1_scoreAt_5 : decode cX1_scoreAt 5 = .ok (.iload_n 1, 1) := by decide +kernel
theorem dX1_scoreAt_6 : decode cX1_scoreAt 6 = .ok (.invokestatic 39, 3) := by decide +kernel
theorem dX1_scoreAt_9 : decode cX1_scoreAt 9 = .ok (.if_icmp .ge 17, 3) := by decide +kernel
theorem dX1_scoreAt_12 : decode cX1_scoreAt 12 = .ok (.aload_n 0, 1) := by decide +kernel
theorem dX1_scoreAt_13 : decode cX1_scoreAt 13 = .ok (.iload_n 1, 1) := by decide +kernel
theorem dX1_scoreAt_14 : decode cX1_scoreAt 14 = .ok (.aload_n 0, 1) := by decide +kernel
theorem dX1_scoreAt_15 : decode cX1_scoreAt 15 = .ok (.iload_n 1, 1) := by decide +kernel
theorem dX1_scoreAt_16 : decode cX1_scoreAt 16 = .ok (.iload_n 2, 1) := by decide +kernel
theorem dX1_scoreAt_17 : decode cX1_scoreAt 17 = .ok (.invokevirtual 54, 3) := by decide +kernel
theorem dX1_scoreAt_20 : decode cX1_scoreAt 20 = .ok (.invokevirtual 58, 3) := by decide +kernel
theorem dX1_scoreAt_23 : decode cX1_scoreAt 23 = .ok (.goto 4, 3) := by decide +kernel
theorem dX1_scoreAt_26 : decode cX1_scoreAt 26 = .ok (.iconst 0, 1) := by decide +kernel
theorem dX1_scoreAt_27 : decode cX1_scoreAt 27 = .ok (.ireturn, 1) := by decide +kernel
theorem dX1_putIn_0 : decode cX1_putIn 0 = .ok (.aload_n 0, 1) := by decide +kernel
theorem dX1_putIn_1 : decode cX1_putIn 1 = .ok (.iload_n 1, 1) := by decide +kernel
theorem dX1_putIn_2 : decode cX1_putIn 2 = .ok (.iload_n 2, 1) := by decide +kernel
theorem dX1_putIn_3 : decode cX1_putIn 3 = .ok (.invokevirtual 61, 3) := by decide +kernel
theorem dX1_putIn_6 : decode cX1_putIn 6 = .ok (.aload_n 0, 1) := by decide +kernel
theorem dX1_putIn_7 : decode cX1_putIn 7 = .ok (.getfield 18, 3) := by decide +kernel
theorem dX1_putIn_10 : decode cX1_putIn 10 = .ok (.iload_n 1, 1) := by decide +kernel
theorem dX1_putIn_11 : decode cX1_putIn 11 = .ok (.invokestatic 39, 3) := by decide +kernel
theorem dX1_putIn_14 : decode cX1_putIn 14 = .ok (.istore 4, 2) := by decide +kernel
theorem dX1_putIn_16 : decode cX1_putIn 16 = .ok (.iconst 0, 1) := by decide +kernel
theorem dX1_putIn_17 : decode cX1_putIn 17 = .ok (.istore 5, 2) := by decide +kernel
theorem dX1_putIn_19 : decode cX1_putIn 19 = .ok (.iload 5, 2) := by decide +kernel
theorem dX1_putIn_21 : decode cX1_putIn 21 = .ok (.iload 4, 2) := by decide +kernel
theorem dX1_putIn_23 : decode cX1_putIn 23 = .ok (.if_icmp .ge 21, 3) := by decide +kernel
theorem dX1_putIn_26 : decode cX1_putIn 26 = .ok (.aload_n 0, 1) := by decide +kernel
theorem dX1_putIn_27 : decode cX1_putIn 27 = .ok (.iload_n 1, 1) := by decide +kernel
theorem dX1_putIn_28 : decode cX1_putIn 28 = .ok (.iload 5, 2) := by decide +kernel
theorem dX1_putIn_30 : decode cX1_putIn 30 = .ok (.iload_n 2, 1) := by decide +kernel
theorem dX1_putIn_31 : decode cX1_putIn 31 = .ok (.iload_n 3, 1) := by decide +kernel
theorem dX1_putIn_32 : decode cX1_putIn 32 = .ok (.invokevirtual 65, 3) := by decide +kernel
theorem dX1_putIn_35 : decode cX1_putIn 35 = .ok (.ifCond .eq 9, 3) := by decide +kernel
theorem dX1_putIn_38 : decode cX1_putIn 38 = .ok (.iinc 5 1, 3) := by decide +kernel
theorem dX1_putIn_41 : decode cX1_putIn 41 = .ok (.goto (-22), 3) := by decide +kernel
theorem dX1_putIn_44 : decode cX1_putIn 44 = .ok (.iload_n 1, 1) := by decide +kernel
theorem dX1_putIn_45 : decode cX1_putIn 45 = .ok (.bipush 40, 2) := by decide +kernel
theorem dX1_putIn_47 : decode cX1_putIn 47 = .ok (.imul, 1) := by decide +kernel
theorem dX1_putIn_48 : decode cX1_putIn 48 = .ok (.istore 6, 2) := by decide +kernel
theorem dX1_putIn_50 : decode cX1_putIn 50 = .ok (.iload 4, 2) := by decide +kernel
theorem dX1_putIn_52 : decode cX1_putIn 52 = .ok (.istore 7, 2) := by decide +kernel
theorem dX1_putIn_54 : decode cX1_putIn 54 = .ok (.iload 7, 2) := by decide +kernel
theorem dX1_putIn_56 : decode cX1_putIn 56 = .ok (.iload 5, 2) := by decide +kernel
theorem dX1_putIn_58 : decode cX1_putIn 58 = .ok (.if_icmp .le 35, 3) := by decide +kernel
theorem dX1_putIn_61 : decode cX1_putIn 61 = .ok (.aload_n 0, 1) := by decide +kernel
theorem dX1_putIn_62 : decode cX1_putIn 62 = .ok (.getfield 15, 3) := by decide +kernel
theorem dX1_putIn_65 : decode cX1_putIn 65 = .ok (.iload 6, 2) := by decide +kernel
theorem dX1_putIn_67 : decode cX1_putIn 67 = .ok (.iload 7, 2) := by decide +kernel
theorem dX1_putIn_69 : decode cX1_putIn 69 = .ok (.iadd, 1) := by decide +kernel
theorem dX1_putIn_70 : decode cX1_putIn 70 = .ok (.aload_n 0, 1) := by decide +kernel
theorem dX1_putIn_71 : decode cX1_putIn 71 = .ok (.getfield 15, 3) := by decide +kernel
theorem dX1_putIn_74 : decode cX1_putIn 74 = .ok (.iload 6, 2) := by decide +kernel
theorem dX1_putIn_76 : decode cX1_putIn 76 = .ok (.iload 7, 2) := by decide +kernel
theorem dX1_putIn_78 : decode cX1_putIn 78 = .ok (.iadd, 1) := by decide +kernel
theorem dX1_putIn_79 : decode cX1_putIn 79 = .ok (.iconst 1, 1) := by decide +kernel
theorem dX1_putIn_80 : decode cX1_putIn 80 = .ok (.isub, 1) := by decide +kernel
theorem dX1_putIn_81 : decode cX1_putIn 81 = .ok (.invokestatic 39, 3) := by decide +kernel
theorem dX1_putIn_84 : decode cX1_putIn 84 = .ok (.invokestatic 69, 3) := by decide +kernel
theorem dX1_putIn_87 : decode cX1_putIn 87 = .ok (.iinc 7 (-1), 3) := by decide +kernel
theorem dX1_putIn_90 : decode cX1_putIn 90 = .ok (.goto (-36), 3) := by decide +kernel
theorem dX1_putIn_93 : decode cX1_putIn 93 = .ok (.aload_n 0, 1) := by decide +kernel
theorem dX1_putIn_94 : decode cX1_putIn 94 = .ok (.getfield 15, 3) := by decide +kernel
theorem dX1_putIn_97 : decode cX1_putIn 97 = .ok (.iload 6, 2) := by decide +kernel
theorem dX1_putIn_99 : decode cX1_putIn 99 = .ok (.iload 5, 2) := by decide +kernel
theorem dX1_putIn_101 : decode cX1_putIn 101 = .ok (.iadd, 1) := by decide +kernel
theorem dX1_putIn_102 : decode cX1_putIn 102 = .ok (.iload_n 2, 1) := by decide +kernel
theorem dX1_putIn_103 : decode cX1_putIn 103 = .ok (.invokestatic 69, 3) := by decide +kernel
theorem dX1_putIn_106 : decode cX1_putIn 106 = .ok (.aload_n 0, 1) := by decide +kernel
theorem dX1_putIn_107 : decode cX1_putIn 107 = .ok (.getfield 18, 3) := by decide +kernel
theorem dX1_putIn_110 : decode cX1_putIn 110 = .ok (.iload_n 1, 1) := by decide +kernel
theorem dX1_putIn_111 : decode cX1_putIn 111 = .ok (.iload 4, 2) := by decide +kernel
theorem dX1_putIn_113 : decode cX1_putIn 113 = .ok (.iconst 1, 1) := by decide +kernel
theorem dX1_putIn_114 : decode cX1_putIn 114 = .ok (.iadd, 1) := by decide +kernel
theorem dX1_putIn_115 : decode cX1_putIn 115 = .ok (.invokestatic 69, 3) := by decide +kernel
theorem dX1_putIn_118 : decode cX1_putIn 118 = .ok (.aload_n 0, 1) := by decide +kernel
theorem dX1_putIn_119 : decode cX1_putIn 119 = .ok (.getfield 9, 3) := by decide +kernel
theorem dX1_putIn_122 : decode cX1_putIn 122 = .ok (.iload_n 1, 1) := by decide +kernel
theorem dX1_putIn_123 : decode cX1_putIn 123 = .ok (.bipush 60, 2) := by decide +kernel
theorem dX1_putIn_125 : decode cX1_putIn 125 = .ok (.imul, 1) := by decide +kernel
theorem dX1_putIn_126 : decode cX1_putIn 126 = .ok (.iload_n 2, 1) := by decide +kernel
theorem dX1_putIn_127 : decode cX1_putIn 127 = .ok (.iadd, 1) := by decide +kernel
theorem dX1_putIn_128 : decode cX1_putIn 128 = .ok (.iload_n 3, 1) := by decide +kernel
theorem dX1_putIn_129 : decode cX1_putIn 129 = .ok (.invokestatic 69, 3) := by decide +kernel
theorem dX1_putIn_132 : decode cX1_putIn 132 = .ok (.iload 5, 2) := by decide +kernel
theorem dX1_putIn_134 : decode cX1_putIn 134 = .ok (.ireturn, 1) := by decide +kernel
theorem dX1_standsAhead_0 : decode cX1_standsAhead 0 = .ok (.aload_n 0, 1) := by decide +kernel
theorem dX1_standsAhead_1 : decode cX1_standsAhead 1 = .ok (.iload_n 1, 1) := by decide +kernel
theorem dX1_standsAhead_2 : decode cX1_standsAhead 2 = .ok (.iload_n 2, 1) := by decide +kernel
theorem dX1_standsAhead_3 : decode cX1_standsAhead 3 = .ok (.invokevirtual 73, 3) := by decide +kernel
theorem dX1_standsAhead_6 : decode cX1_standsAhead 6 = .ok (.istore 5, 2) := by decide +kernel
theorem dX1_standsAhead_8 : decode cX1_standsAhead 8 = .ok (.iload 5, 2) := by decide +kernel
theorem dX1_standsAhead_10 : decode cX1_standsAhead 10 = .ok (.iload 4, 2) := by decide +kernel
theorem dX1_standsAhead_12 : decode cX1_standsAhead 12 = .ok (.if_icmp .gt 20, 3) := by decide +kernel
theorem dX1_standsAhead_15 : decode cX1_standsAhead 15 = .ok (.iload 5, 2) := by decide +kernel
theorem dX1_standsAhead_17 : decode cX1_standsAhead 17 = .ok (.iload 4, 2) := by decide +kernel
theorem dX1_standsAhead_19 : decode cX1_standsAhead 19 = .ok (.if_icmp .ne 17, 3) := by decide +kernel
theorem dX1_standsAhead_22 : decode cX1_standsAhead 22 = .ok (.aload_n 0, 1) := by decide +kernel
theorem dX1_standsAhead_23 : decode cX1_standsAhead 23 = .ok (.iload_n 1, 1) := by decide +kernel
theorem dX1_standsAhead_24 : decode cX1_standsAhead 24 = .ok (.iload_n 2, 1) := by decide +kernel
theorem dX1_standsAhead_25 : decode cX1_standsAhead 25 = .ok (.invokevirtual 54, 3) := by decide +kernel
theorem dX1_standsAhead_28 : decode cX1_standsAhead 28 = .ok (.iload_n 3, 1) := by decide +kernel
theorem dX1_standsAhead_29 : decode cX1_standsAhead 29 = .ok (.if_icmp .ge 7, 3) := by decide +kernel
theorem dX1_standsAhead_32 : decode cX1_standsAhead 32 = .ok (.iconst 1, 1) := by decide +kernel
theorem dX1_standsAhead_33 : decode cX1_standsAhead 33 = .ok (.goto 4, 3) := by decide +kernel
theorem dX1_standsAhead_36 : decode cX1_standsAhead 36 = .ok (.iconst 0, 1) := by decide +kernel
theorem dX1_standsAhead_37 : decode cX1_standsAhead 37 = .ok (.ireturn, 1) := by decide +kernel
theorem dX1_takeOut_0 : decode cX1_takeOut 0 = .ok (.aload_n 0, 1) := by decide +kernel
theorem dX1_takeOut_1 : decode cX1_takeOut 1 = .ok (.iload_n 1, 1) := by decide +kernel
theorem dX1_takeOut_2 : decode cX1_takeOut 2 = .ok (.iload_n 2, 1) := by decide +kernel
theorem dX1_takeOut_3 : decode cX1_takeOut 3 = .ok (.invokevirtual 58, 3) := by decide +kernel
theorem dX1_takeOut_6 : decode cX1_takeOut 6 = .ok (.ifCond .ne 4, 3) := by decide +kernel
theorem dX1_takeOut_9 : decode cX1_takeOut 9 = .ok (.return_, 1) := by decide +kernel
theorem dX1_takeOut_10 : decode cX1_takeOut 10 = .ok (.aload_n 0, 1) := by decide +kernel
theorem dX1_takeOut_11 : decode cX1_takeOut 11 = .ok (.getfield 18, 3) := by decide +kernel
theorem dX1_takeOut_14 : decode cX1_takeOut 14 = .ok (.iload_n 1, 1) := by decide +kernel
theorem dX1_takeOut_15 : decode cX1_takeOut 15 = .ok (.invokestatic 39, 3) := by decide +kernel
theorem dX1_takeOut_18 : decode cX1_takeOut 18 = .ok (.istore_n 3, 1) := by decide +kernel
theorem dX1_takeOut_19 : decode cX1_takeOut 19 = .ok (.iload_n 1, 1) := by decide +kernel
theorem dX1_takeOut_20 : decode cX1_takeOut 20 = .ok (.bipush 40, 2) := by decide +kernel
theorem dX1_takeOut_22 : decode cX1_takeOut 22 = .ok (.imul, 1) := by decide +kernel
theorem dX1_takeOut_23 : decode cX1_takeOut 23 = .ok (.istore 4, 2) := by decide +kernel
theorem dX1_takeOut_25 : decode cX1_takeOut 25 = .ok (.iconst 0, 1) := by decide +kernel
theorem dX1_takeOut_26 : decode cX1_takeOut 26 = .ok (.istore 5, 2) := by decide +kernel
theorem dX1_takeOut_28 : decode cX1_takeOut 28 = .ok (.iload 5, 2) := by decide +kernel
theorem dX1_takeOut_30 : decode cX1_takeOut 30 = .ok (.iload_n 3, 1) := by decide +kernel
theorem dX1_takeOut_31 : decode cX1_takeOut 31 = .ok (.if_icmp .ge 25, 3) := by decide +kernel
theorem dX1_takeOut_34 : decode cX1_takeOut 34 = .ok (.aload_n 0, 1) := by decide +kernel
theorem dX1_takeOut_35 : decode cX1_takeOut 35 = .ok (.getfield 15, 3) := by decide +kernel
theorem dX1_takeOut_38 : decode cX1_takeOut 38 = .ok (.iload 4, 2) := by decide +kernel
theorem dX1_takeOut_40 : decode cX1_takeOut 40 = .ok (.iload 5, 2) := by decide +kernel
theorem dX1_takeOut_42 : decode cX1_takeOut 42 = .ok (.iadd, 1) := by decide +kernel
theorem dX1_takeOut_43 : decode cX1_takeOut 43 = .ok (.invokestatic 39, 3) := by decide +kernel
theorem dX1_takeOut_46 : decode cX1_takeOut 46 = .ok (.iload_n 2, 1) := by decide +kernel
theorem dX1_takeOut_47 : decode cX1_takeOut 47 = .ok (.if_icmp .eq 9, 3) := by decide +kernel
theorem dX1_takeOut_50 : decode cX1_takeOut 50 = .ok (.iinc 5 1, 3) := by decide +kernel
theorem dX1_takeOut_53 : decode cX1_takeOut 53 = .ok (.goto (-25), 3) := by decide +kernel
theorem dX1_takeOut_56 : decode cX1_takeOut 56 = .ok (.iload 5, 2) := by decide +kernel
theorem dX1_takeOut_58 : decode cX1_takeOut 58 = .ok (.iconst 1, 1) := by decide +kernel
theorem dX1_takeOut_59 : decode cX1_takeOut 59 = .ok (.iadd, 1) := by decide +kernel
theorem dX1_takeOut_60 : decode cX1_takeOut 60 = .ok (.istore 6, 2) := by decide +kernel
theorem dX1_takeOut_62 : decode cX1_takeOut 62 = .ok (.iload 6, 2) := by decide +kernel
theorem dX1_takeOut_64 : decode cX1_takeOut 64 = .ok (.iload_n 3, 1) := by decide +kernel
theorem dX1_takeOut_65 : decode cX1_takeOut 65 = .ok (.if_icmp .ge 35, 3) := by decide +kernel
theorem dX1_takeOut_68 : decode cX1_takeOut 68 = .ok (.aload_n 0, 1) := by decide +kernel
theorem dX1_takeOut_69 : decode cX1_takeOut 69 = .ok (.getfield 15, 3) := by decide +kernel
theorem dX1_takeOut_72 : decode cX1_takeOut 72 = .ok (.iload 4, 2) := by decide +kernel
theorem dX1_takeOut_74 : decode cX1_takeOut 74 = .ok (.iload 6, 2) := by decide +kernel
theorem dX1_takeOut_76 : decode cX1_takeOut 76 = .ok (.iadd, 1) := by decide +kernel
theorem dX1_takeOut_77 : decode cX1_takeOut 77 = .ok (.iconst 1, 1) := by decide +kernel
theorem dX1_takeOut_78 : decode cX1_takeOut 78 = .ok (.isub, 1) := by decide +kernel
theorem dX1_takeOut_79 : decode cX1_takeOut 79 = .ok (.aload_n 0, 1) := by decide +kernel
theorem dX1_takeOut_80 : decode cX1_takeOut 80 = .ok (.getfield 15, 3) := by decide +kernel
theorem dX1_takeOut_83 : decode cX1_takeOut 83 = .ok (.iload 4, 2) := by decide +kernel
theorem dX1_takeOut_85 : decode cX1_takeOut 85 = .ok (.iload 6, 2) := by decide +kernel
theorem dX1_takeOut_87 : decode cX1_takeOut 87 = .ok (.iadd, 1) := by decide +kernel
theorem dX1_takeOut_88 : decode cX1_takeOut 88 = .ok (.invokestatic 39, 3) := by decide +kernel
theorem dX1_takeOut_91 : decode cX1_takeOut 91 = .ok (.invokestatic 69, 3) := by decide +kernel
theorem dX1_takeOut_94 : decode cX1_takeOut 94 = .ok (.iinc 6 1, 3) := by decide +kernel
theorem dX1_takeOut_97 : decode cX1_takeOut 97 = .ok (.goto (-35), 3) := by decide +kernel
theorem dX1_takeOut_100 : decode cX1_takeOut 100 = .ok (.aload_n 0, 1) := by decide +kernel
theorem dX1_takeOut_101 : decode cX1_takeOut 101 = .ok (.getfield 18, 3) := by decide +kernel
theorem dX1_takeOut_104 : decode cX1_takeOut 104 = .ok (.iload_n 1, 1) := by decide +kernel
theorem dX1_takeOut_105 : decode cX1_takeOut 105 = .ok (.iload_n 3, 1) := by decide +kernel
theorem dX1_takeOut_106 : decode cX1_takeOut 106 = .ok (.iconst 1, 1) := by decide +kernel
theorem dX1_takeOut_107 : decode cX1_takeOut 107 = .ok (.isub, 1) := by decide +kernel
theorem dX1_takeOut_108 : decode cX1_takeOut 108 = .ok (.invokestatic 69, 3) := by decide +kernel
theorem dX1_takeOut_111 : decode cX1_takeOut 111 = .ok (.aload_n 0, 1) := by decide +kernel
theorem dX1_takeOut_112 : decode cX1_takeOut 112 = .ok (.getfield 9, 3) := by decide +kernel
theorem dX1_takeOut_115 : decode cX1_takeOut 115 = .ok (.iload_n 1, 1) := by decide +kernel
theorem dX1_takeOut_116 : decode cX1_takeOut 116 = .ok (.bipush 60, 2) := by decide +kernel
theorem dX1_takeOut_118 : decode cX1_takeOut 118 = .ok (.imul, 1) := by decide +kernel
theorem dX1_takeOut_119 : decode cX1_takeOut 119 = .ok (.iload_n 2, 1) := by decide +kernel
theorem dX1_takeOut_120 : decode cX1_takeOut 120 = .ok (.iadd, 1) := by decide +kernel
theorem dX1_takeOut_121 : decode cX1_takeOut 121 = .ok (.iconst 0, 1) := by decide +kernel
theorem dX1_takeOut_122 : decode cX1_takeOut 122 = .ok (.invokestatic 69, 3) := by decide +kernel
theorem dX1_takeOut_125 : decode cX1_takeOut 125 = .ok (.return_, 1) := by decide +kernel
theorem dX1_isDeleted_0 : decode cX1_isDeleted 0 = .ok (.aload_n 0, 1) := by decide +kernel
theorem dX1_isDeleted_1 : decode cX1_isDeleted 1 = .ok (.getfield 27, 3) := by decide +kernel
theorem dX1_isDeleted_4 : decode cX1_isDeleted 4 = .ok (.iload_n 1, 1) := by decide +kernel
theorem dX1_isDeleted_5 : decode cX1_isDeleted 5 = .ok (.lshr, 1) := by decide +kernel
theorem dX1_isDeleted_6 : decode cX1_isDeleted 6 = .ok (.lconst 1, 1) := by decide +kernel
theorem dX1_isDeleted_7 : decode cX1_isDeleted 7 = .ok (.land, 1) := by decide +kernel
theorem dX1_isDeleted_8 : decode cX1_isDeleted 8 = .ok (.lconst 1, 1) := by decide +kernel
theorem dX1_isDeleted_9 : decode cX1_isDeleted 9 = .ok (.lcmp, 1) := by decide +kernel
theorem dX1_isDeleted_10 : decode cX1_isDeleted 10 = .ok (.ifCond .ne 7, 3) := by decide +kernel
theorem dX1_isDeleted_13 : decode cX1_isDeleted 13 = .ok (.iconst 1, 1) := by decide +kernel
theorem dX1_isDeleted_14 : decode cX1_isDeleted 14 = .ok (.goto 4, 3) := by decide +kernel
theorem dX1_isDeleted_17 : decode cX1_isDeleted 17 = .ok (.iconst 0, 1) := by decide +kernel
theorem dX1_isDeleted_18 : decode cX1_isDeleted 18 = .ok (.ireturn, 1) := by decide +kernel
theorem dX1_deletedIn_0 : decode cX1_deletedIn 0 = .ok (.iconst 0, 1) := by decide +kernel
theorem dX1_deletedIn_1 : decode cX1_deletedIn 1 = .ok (.istore_n 2, 1) := by decide +kernel
theorem dX1_deletedIn_2 : decode cX1_deletedIn 2 = .ok (.aload_n 0, 1) := by decide +kernel
theorem dX1_deletedIn_3 : decode cX1_deletedIn 3 = .ok (.getfield 18, 3) := by decide +kernel
theorem dX1_deletedIn_6 : decode cX1_deletedIn 6 = .ok (.iload_n 1, 1) := by decide +kernel
theorem dX1_deletedIn_7 : decode cX1_deletedIn 7 = .ok (.invokestatic 39, 3) := by decide +kernel
theorem dX1_deletedIn_10 : decode cX1_deletedIn 10 = .ok (.istore_n 3, 1) := by decide +kernel
theorem dX1_deletedIn_11 : decode cX1_deletedIn 11 = .ok (.iconst 0, 1) := by decide +kernel
theorem dX1_deletedIn_12 : decode cX1_deletedIn 12 = .ok (.istore 4, 2) := by decide +kernel
theorem dX1_deletedIn_14 : decode cX1_deletedIn 14 = .ok (.iload 4, 2) := by decide +kernel
theorem dX1_deletedIn_16 : decode cX1_deletedIn 16 = .ok (.iload_n 3, 1) := by decide +kernel
theorem dX1_deletedIn_17 : decode cX1_deletedIn 17 = .ok (.if_icmp .ge 26, 3) := by decide +kernel
theorem dX1_deletedIn_20 : decode cX1_deletedIn 20 = .ok (.iload_n 2, 1) := by decide +kernel
theorem dX1_deletedIn_21 : decode cX1_deletedIn 21 = .ok (.aload_n 0, 1) := by decide +kernel
theorem dX1_deletedIn_22 : decode cX1_deletedIn 22 = .ok (.aload_n 0, 1) := by decide +kernel
theorem dX1_deletedIn_23 : decode cX1_deletedIn 23 = .ok (.iload_n 1, 1) := by decide +kernel
theorem dX1_deletedIn_24 : decode cX1_deletedIn 24 = .ok (.iload 4, 2) := by decide +kernel
theorem dX1_deletedIn_26 : decode cX1_deletedIn 26 = .ok (.invokevirtual 54, 3) := by decide +kernel
theorem dX1_deletedIn_29 : decode cX1_deletedIn 29 = .ok (.invokevirtual 76, 3) := by decide +kernel
theorem dX1_deletedIn_32 : decode cX1_deletedIn 32 = .ok (.invokestatic 47, 3) := by decide +kernel
theorem dX1_deletedIn_35 : decode cX1_deletedIn 35 = .ok (.iadd, 1) := by decide +kernel
theorem dX1_deletedIn_36 : decode cX1_deletedIn 36 = .ok (.istore_n 2, 1) := by decide +kernel
theorem dX1_deletedIn_37 : decode cX1_deletedIn 37 = .ok (.iinc 4 1, 3) := by decide +kernel
theorem dX1_deletedIn_40 : decode cX1_deletedIn 40 = .ok (.goto (-26), 3) := by decide +kernel
theorem dX1_deletedIn_43 : decode cX1_deletedIn 43 = .ok (.iload_n 2, 1) := by decide +kernel
theorem dX1_deletedIn_44 : decode cX1_deletedIn 44 = .ok (.ireturn, 1) := by decide +kernel
theorem dX1_listsWith_0 : decode cX1_listsWith 0 = .ok (.iconst 0, 1) := by decide +kernel
theorem dX1_listsWith_1 : decode cX1_listsWith 1 = .ok (.istore_n 2, 1) := by decide +kernel
theorem dX1_listsWith_2 : decode cX1_listsWith 2 = .ok (.iconst 0, 1) := by decide +kernel
theorem dX1_listsWith_3 : decode cX1_listsWith 3 = .ok (.istore_n 3, 1) := by decide +kernel
theorem dX1_listsWith_4 : decode cX1_listsWith 4 = .ok (.iload_n 3, 1) := by decide +kernel
theorem dX1_listsWith_5 : decode cX1_listsWith 5 = .ok (.bipush 6, 2) := by decide +kernel
theorem dX1_listsWith_7 : decode cX1_listsWith 7 = .ok (.if_icmp .ge 31, 3) := by decide +kernel
theorem dX1_listsWith_10 : decode cX1_listsWith 10 = .ok (.iload_n 2, 1) := by decide +kernel
theorem dX1_listsWith_11 : decode cX1_listsWith 11 = .ok (.aload_n 0, 1) := by decide +kernel
theorem dX1_listsWith_12 : decode cX1_listsWith 12 = .ok (.iload_n 3, 1) := by decide +kernel
theorem dX1_listsWith_13 : decode cX1_listsWith 13 = .ok (.iload_n 1, 1) := by decide +kernel
theorem dX1_listsWith_14 : decode cX1_listsWith 14 = .ok (.invokevirtual 58, 3) := by decide +kernel
theorem dX1_listsWith_17 : decode cX1_listsWith 17 = .ok (.ifCond .le 7, 3) := by decide +kernel
theorem dX1_listsWith_20 : decode cX1_listsWith 20 = .ok (.iconst 1, 1) := by decide +kernel
theorem dX1_listsWith_21 : decode cX1_listsWith 21 = .ok (.goto 4, 3) := by decide +kernel
theorem dX1_listsWith_24 : decode cX1_listsWith 24 = .ok (.iconst 0, 1) := by decide +kernel
theorem dX1_listsWith_25 : decode cX1_listsWith 25 = .ok (.invokestatic 47, 3) := by decide +kernel
theorem dX1_listsWith_28 : decode cX1_listsWith 28 = .ok (.iload_n 3, 1) := by decide +kernel
theorem dX1_listsWith_29 : decode cX1_listsWith 29 = .ok (.ishl, 1) := by decide +kernel
theorem dX1_listsWith_30 : decode cX1_listsWith 30 = .ok (.ior, 1) := by decide +kernel
theorem dX1_listsWith_31 : decode cX1_listsWith 31 = .ok (.istore_n 2, 1) := by decide +kernel
theorem dX1_listsWith_32 : decode cX1_listsWith 32 = .ok (.iinc 3 1, 3) := by decide +kernel
theorem dX1_listsWith_35 : decode cX1_listsWith 35 = .ok (.goto (-31), 3) := by decide +kernel
theorem dX1_listsWith_38 : decode cX1_listsWith 38 = .ok (.iload_n 2, 1) := by decide +kernel
theorem dX1_listsWith_39 : decode cX1_listsWith 39 = .ok (.ireturn, 1) := by decide +kernel
theorem dX1_valueOf_0 : decode cX1_valueOf 0 = .ok (.iconst 0, 1) := by decide +kernel
theorem dX1_valueOf_1 : decode cX1_valueOf 1 = .ok (.istore_n 2, 1) := by decide +kernel
theorem dX1_valueOf_2 : decode cX1_valueOf 2 = .ok (.iconst 0, 1) := by decide +kernel
theorem dX1_valueOf_3 : decode cX1_valueOf 3 = .ok (.istore_n 3, 1) := by decide +kernel
theorem dX1_valueOf_4 : decode cX1_valueOf 4 = .ok (.iload_n 3, 1) := by decide +kernel
theorem dX1_valueOf_5 : decode cX1_valueOf 5 = .ok (.bipush 6, 2) := by decide +kernel
theorem dX1_valueOf_7 : decode cX1_valueOf 7 = .ok (.if_icmp .ge 27, 3) := by decide +kernel
theorem dX1_valueOf_10 : decode cX1_valueOf 10 = .ok (.iload_n 2, 1) := by decide +kernel
theorem dX1_valueOf_11 : decode cX1_valueOf 11 = .ok (.aload_n 0, 1) := by decide +kernel
theorem dX1_valueOf_12 : decode cX1_valueOf 12 = .ok (.getfield 21, 3) := by decide +kernel
theorem dX1_valueOf_15 : decode cX1_valueOf 15 = .ok (.iload_n 3, 1) := by decide +kernel
theorem dX1_valueOf_16 : decode cX1_valueOf 16 = .ok (.invokestatic 39, 3) := by decide +kernel
theorem dX1_valueOf_19 : decode cX1_valueOf 19 = .ok (.aload_n 0, 1) := by decide +kernel
theorem dX1_valueOf_20 : decode cX1_valueOf 20 = .ok (.iload_n 3, 1) := by decide +kernel
theorem dX1_valueOf_21 : decode cX1_valueOf 21 = .ok (.iload_n 1, 1) := by decide +kernel
theorem dX1_valueOf_22 : decode cX1_valueOf 22 = .ok (.invokevirtual 58, 3) := by decide +kernel
theorem dX1_valueOf_25 : decode cX1_valueOf 25 = .ok (.imul, 1) := by decide +kernel
theorem dX1_valueOf_26 : decode cX1_valueOf 26 = .ok (.iadd, 1) := by decide +kernel
theorem dX1_valueOf_27 : decode cX1_valueOf 27 = .ok (.istore_n 2, 1) := by decide +kernel
theorem dX1_valueOf_28 : decode cX1_valueOf 28 = .ok (.iinc 3 1, 3) := by decide +kernel
theorem dX1_valueOf_31 : decode cX1_valueOf 31 = .ok (.goto (-27), 3) := by decide +kernel
theorem dX1_valueOf_34 : decode cX1_valueOf 34 = .ok (.iload_n 2, 1) := by decide +kernel
theorem dX1_valueOf_35 : decode cX1_valueOf 35 = .ok (.ireturn, 1) := by decide +kernel
theorem dX1_isAnswer_0 : decode cX1_isAnswer 0 = .ok (.aload_n 0, 1) := by decide +kernel
theorem dX1_isAnswer_1 : decode cX1_isAnswer 1 = .ok (.iload_n 1, 1) := by decide +kernel
theorem dX1_isAnswer_2 : decode cX1_isAnswer 2 = .ok (.invokevirtual 76, 3) := by decide +kernel
theorem dX1_isAnswer_5 : decode cX1_isAnswer 5 = .ok (.ifCond .ne 15, 3) := by decide +kernel
theorem dX1_isAnswer_8 : decode cX1_isAnswer 8 = .ok (.aload_n 0, 1) := by decide +kernel
theorem dX1_isAnswer_9 : decode cX1_isAnswer 9 = .ok (.iload_n 1, 1) := by decide +kernel
theorem dX1_isAnswer_10 : decode cX1_isAnswer 10 = .ok (.invokevirtual 79, 3) := by decide +kernel
theorem dX1_isAnswer_13 : decode cX1_isAnswer 13 = .ok (.ifCond .le 7, 3) := by decide +kernel
theorem dX1_isAnswer_16 : decode cX1_isAnswer 16 = .ok (.iconst 1, 1) := by decide +kernel
theorem dX1_isAnswer_17 : decode cX1_isAnswer 17 = .ok (.goto 4, 3) := by decide +kernel
theorem dX1_isAnswer_20 : decode cX1_isAnswer 20 = .ok (.iconst 0, 1) := by decide +kernel
theorem dX1_isAnswer_21 : decode cX1_isAnswer 21 = .ok (.ireturn, 1) := by decide +kernel
theorem dX1_wantedPlaceOf_0 : decode cX1_wantedPlaceOf 0 = .ok (.aload_n 0, 1) := by decide +kernel
theorem dX1_wantedPlaceOf_1 : decode cX1_wantedPlaceOf 1 = .ok (.iload_n 1, 1) := by decide +kernel
theorem dX1_wantedPlaceOf_2 : decode cX1_wantedPlaceOf 2 = .ok (.invokevirtual 83, 3) := by decide +kernel
theorem dX1_wantedPlaceOf_5 : decode cX1_wantedPlaceOf 5 = .ok (.ifCond .ne 6, 3) := by decide +kernel
theorem dX1_wantedPlaceOf_8 : decode cX1_wantedPlaceOf 8 = .ok (.bipush (-5), 2) := by decide +kernel
theorem dX1_wantedPlaceOf_10 : decode cX1_wantedPlaceOf 10 = .ok (.ireturn, 1) := by decide +kernel
theorem dX1_wantedPlaceOf_11 : decode cX1_wantedPlaceOf 11 = .ok (.aload_n 0, 1) := by decide +kernel
theorem dX1_wantedPlaceOf_12 : decode cX1_wantedPlaceOf 12 = .ok (.iload_n 1, 1) := by decide +kernel
theorem dX1_wantedPlaceOf_13 : decode cX1_wantedPlaceOf 13 = .ok (.invokevirtual 79, 3) := by decide +kernel
theorem dX1_wantedPlaceOf_16 : decode cX1_wantedPlaceOf 16 = .ok (.istore_n 2, 1) := by decide +kernel
theorem dX1_wantedPlaceOf_17 : decode cX1_wantedPlaceOf 17 = .ok (.iconst 0, 1) := by decide +kernel
theorem dX1_wantedPlaceOf_18 : decode cX1_wantedPlaceOf 18 = .ok (.istore_n 3, 1) := by decide +kernel
theorem dX1_wantedPlaceOf_19 : decode cX1_wantedPlaceOf 19 = .ok (.iconst 0, 1) := by decide +kernel
theorem dX1_wantedPlaceOf_20 : decode cX1_wantedPlaceOf 20 = .ok (.istore 4, 2) := by decide +kernel
theorem dX1_wantedPlaceOf_22 : decode cX1_wantedPlaceOf 22 = .ok (.iload 4, 2) := by decide +kernel
theorem dX1_wantedPlaceOf_24 : decode cX1_wantedPlaceOf 24 = .ok (.bipush 60, 2) := by decide +kernel
theorem dX1_wantedPlaceOf_26 : decode cX1_wantedPlaceOf 26 = .ok (.if_icmp .ge 51, 3) := by decide +kernel
theorem dX1_wantedPlaceOf_29 : decode cX1_wantedPlaceOf 29 = .ok (.aload_n 0, 1) := by decide +kernel
theorem dX1_wantedPlaceOf_30 : decode cX1_wantedPlaceOf 30 = .ok (.iload 4, 2) := by decide +kernel
theorem dX1_wantedPlaceOf_32 : decode cX1_wantedPlaceOf 32 = .ok (.invokevirtual 76, 3) := by decide +kernel
theorem dX1_wantedPlaceOf_35 : decode cX1_wantedPlaceOf 35 = .ok (.ifCond .eq 7, 3) := by decide +kernel
theorem dX1_wantedPlaceOf_38 : decode cX1_wantedPlaceOf 38 = .ok (.iconst 0, 1) := by decide +kernel
theorem dX1_wantedPlaceOf_39 : decode cX1_wantedPlaceOf 39 = .ok (.goto 9, 3) := by decide +kernel
theorem dX1_wantedPlaceOf_42 : decode cX1_wantedPlaceOf 42 = .ok (.aload_n 0, 1) := by decide +kernel
theorem dX1_wantedPlaceOf_43 : decode cX1_wantedPlaceOf 43 = .ok (.iload 4, 2) := by decide +kernel
theorem dX1_wantedPlaceOf_45 : decode cX1_wantedPlaceOf 45 = .ok (.invokevirtual 79, 3) := by decide +kernel
theorem dX1_wantedPlaceOf_48 : decode cX1_wantedPlaceOf 48 = .ok (.istore 5, 2) := by decide +kernel
theorem dX1_wantedPlaceOf_50 : decode cX1_wantedPlaceOf 50 = .ok (.iload 5, 2) := by decide +kernel
theorem dX1_wantedPlaceOf_52 : decode cX1_wantedPlaceOf 52 = .ok (.iload_n 2, 1) := by decide +kernel
theorem dX1_wantedPlaceOf_53 : decode cX1_wantedPlaceOf 53 = .ok (.if_icmp .gt 15, 3) := by decide +kernel
theorem dX1_wantedPlaceOf_56 : decode cX1_wantedPlaceOf 56 = .ok (.iload 5, 2) := by decide +kernel
theorem dX1_wantedPlaceOf_58 : decode cX1_wantedPlaceOf 58 = .ok (.iload_n 2, 1) := by decide +kernel
theorem dX1_wantedPlaceOf_59 : decode cX1_wantedPlaceOf 59 = .ok (.if_icmp .ne 12, 3) := by decide +kernel
theorem dX1_wantedPlaceOf_62 : decode cX1_wantedPlaceOf 62 = .ok (.iload 4, 2) := by decide +kernel
theorem dX1_wantedPlaceOf_64 : decode cX1_wantedPlaceOf 64 = .ok (.iload_n 1, 1) := by decide +kernel
theorem dX1_wantedPlaceOf_65 : decode cX1_wantedPlaceOf 65 = .ok (.if_icmp .ge 6, 3) := by decide +kernel
theorem dX1_wantedPlaceOf_68 : decode cX1_wantedPlaceOf 68 = .ok (.iinc 3 1, 3) := by decide +kernel
theorem dX1_wantedPlaceOf_71 : decode cX1_wantedPlaceOf 71 = .ok (.iinc 4 1, 3) := by decide +kernel
theorem dX1_wantedPlaceOf_74 : decode cX1_wantedPlaceOf 74 = .ok (.goto (-52), 3) := by decide +kernel
theorem dX1_wantedPlaceOf_77 : decode cX1_wantedPlaceOf 77 = .ok (.iload_n 3, 1) := by decide +kernel
theorem dX1_wantedPlaceOf_78 : decode cX1_wantedPlaceOf 78 = .ok (.aload_n 0, 1) := by decide +kernel
theorem dX1_wantedPlaceOf_79 : decode cX1_wantedPlaceOf 79 = .ok (.getfield 31, 3) := by decide +kernel
theorem dX1_wantedPlaceOf_82 : decode cX1_wantedPlaceOf 82 = .ok (.if_icmp .ge 7, 3) := by decide +kernel
theorem dX1_wantedPlaceOf_85 : decode cX1_wantedPlaceOf 85 = .ok (.iload_n 3, 1) := by decide +kernel
theorem dX1_wantedPlaceOf_86 : decode cX1_wantedPlaceOf 86 = .ok (.goto 5, 3) := by decide +kernel
theorem dX1_wantedPlaceOf_89 : decode cX1_wantedPlaceOf 89 = .ok (.bipush (-5), 2) := by decide +kernel
theorem dX1_wantedPlaceOf_91 : decode cX1_wantedPlaceOf 91 = .ok (.ireturn, 1) := by decide +kernel
theorem dX1_wantedAt_0 : decode cX1_wantedAt 0 = .ok (.iconst 0, 1) := by decide +kernel
theorem dX1_wantedAt_1 : decode cX1_wantedAt 1 = .ok (.istore_n 2, 1) := by decide +kernel
theorem dX1_wantedAt_2 : decode cX1_wantedAt 2 = .ok (.iload_n 2, 1) := by decide +kernel
theorem dX1_wantedAt_3 : decode cX1_wantedAt 3 = .ok (.bipush 60, 2) := by decide +kernel
theorem dX1_wantedAt_5 : decode cX1_wantedAt 5 = .ok (.if_icmp .ge 20, 3) := by decide +kernel
theorem dX1_wantedAt_8 : decode cX1_wantedAt 8 = .ok (.aload_n 0, 1) := by decide +kernel
theorem dX1_wantedAt_9 : decode cX1_wantedAt 9 = .ok (.iload_n 2, 1) := by decide +kernel
theorem dX1_wantedAt_10 : decode cX1_wantedAt 10 = .ok (.invokevirtual 86, 3) := by decide +kernel
theorem dX1_wantedAt_13 : decode cX1_wantedAt 13 = .ok (.iload_n 1, 1) := by decide +kernel
theorem dX1_wantedAt_14 : decode cX1_wantedAt 14 = .ok (.if_icmp .ne 5, 3) := by decide +kernel
theorem dX1_wantedAt_17 : decode cX1_wantedAt 17 = .ok (.iload_n 2, 1) := by decide +kernel
theorem dX1_wantedAt_18 : decode cX1_wantedAt 18 = .ok (.ireturn, 1) := by decide +kernel
theorem dX1_wantedAt_19 : decode cX1_wantedAt 19 = .ok (.iinc 2 1, 3) := by decide +kernel
theorem dX1_wantedAt_22 : decode cX1_wantedAt 22 = .ok (.goto (-20), 3) := by decide +kernel
theorem dX1_wantedAt_25 : decode cX1_wantedAt 25 = .ok (.bipush (-5), 2) := by decide +kernel
theorem dX1_wantedAt_27 : decode cX1_wantedAt 27 = .ok (.ireturn, 1) := by decide +kernel
theorem dX1_wantedSize_0 : decode cX1_wantedSize 0 = .ok (.iconst 0, 1) := by decide +kernel
theorem dX1_wantedSize_1 : decode cX1_wantedSize 1 = .ok (.istore_n 1, 1) := by decide +kernel
theorem dX1_wantedSize_2 : decode cX1_wantedSize 2 = .ok (.iconst 0, 1) := by decide +kernel
theorem dX1_wantedSize_3 : decode cX1_wantedSize 3 = .ok (.istore_n 2, 1) := by decide +kernel
theorem dX1_wantedSize_4 : decode cX1_wantedSize 4 = .ok (.iload_n 2, 1) := by decide +kernel
theorem dX1_wantedSize_5 : decode cX1_wantedSize 5 = .ok (.bipush 60, 2) := by decide +kernel
theorem dX1_wantedSize_7 : decode cX1_wantedSize 7 = .ok (.if_icmp .ge 20, 3) := by decide +kernel
theorem dX1_wantedSize_10 : decode cX1_wantedSize 10 = .ok (.iload_n 1, 1) := by decide +kernel
theorem dX1_wantedSize_11 : decode cX1_wantedSize 11 = .ok (.aload_n 0, 1) := by decide +kernel
theorem dX1_wantedSize_12 : decode cX1_wantedSize 12 = .ok (.iload_n 2, 1) := by decide +kernel
theorem dX1_wantedSize_13 : decode cX1_wantedSize 13 = .ok (.invokevirtual 83, 3) := by decide +kernel
theorem dX1_wantedSize_16 : decode cX1_wantedSize 16 = .ok (.invokestatic 47, 3) := by decide +kernel
theorem dX1_wantedSize_19 : decode cX1_wantedSize 19 = .ok (.iadd, 1) := by decide +kernel
theorem dX1_wantedSize_20 : decode cX1_wantedSize 20 = .ok (.istore_n 1, 1) := by decide +kernel
theorem dX1_wantedSize_21 : decode cX1_wantedSize 21 = .ok (.iinc 2 1, 3) := by decide +kernel
theorem dX1_wantedSize_24 : decode cX1_wantedSize 24 = .ok (.goto (-20), 3) := by decide +kernel
theorem dX1_wantedSize_27 : decode cX1_wantedSize 27 = .ok (.iload_n 1, 1) := by decide +kernel
theorem dX1_wantedSize_28 : decode cX1_wantedSize 28 = .ok (.aload_n 0, 1) := by decide +kernel
theorem dX1_wantedSize_29 : decode cX1_wantedSize 29 = .ok (.getfield 31, 3) := by decide +kernel
theorem dX1_wantedSize_32 : decode cX1_wantedSize 32 = .ok (.invokestatic 89, 3) := by decide +kernel
theorem dX1_wantedSize_35 : decode cX1_wantedSize 35 = .ok (.ireturn, 1) := by decide +kernel
theorem dX2_init_0 : decode cX2_init 0 = .ok (.aload_n 0, 1) := by decide +kernel
theorem dX2_init_1 : decode cX2_init 1 = .ok (.invokespecial 3, 3) := by decide +kernel
theorem dX2_init_4 : decode cX2_init 4 = .ok (.aload_n 0, 1) := by decide +kernel
theorem dX2_init_5 : decode cX2_init 5 = .ok (.iconst 0, 1) := by decide +kernel
theorem dX2_init_6 : decode cX2_init 6 = .ok (.putfield 9, 3) := by decide +kernel
theorem dX2_init_9 : decode cX2_init 9 = .ok (.aload_n 0, 1) := by decide +kernel
theorem dX2_init_10 : decode cX2_init 10 = .ok (.iconst 0, 1) := by decide +kernel
theorem dX2_init_11 : decode cX2_init 11 = .ok (.putfield 15, 3) := by decide +kernel
theorem dX2_init_14 : decode cX2_init 14 = .ok (.aload_n 0, 1) := by decide +kernel
theorem dX2_init_15 : decode cX2_init 15 = .ok (.iconst 0, 1) := by decide +kernel
theorem dX2_init_16 : decode cX2_init 16 = .ok (.putfield 19, 3) := by decide +kernel
theorem dX2_init_19 : decode cX2_init 19 = .ok (.aload_n 0, 1) := by decide +kernel
theorem dX2_init_20 : decode cX2_init 20 = .ok (.iconst 0, 1) := by decide +kernel
theorem dX2_init_21 : decode cX2_init 21 = .ok (.putfield 22, 3) := by decide +kernel
theorem dX2_init_24 : decode cX2_init 24 = .ok (.aload_n 0, 1) := by decide +kernel
theorem dX2_init_25 : decode cX2_init 25 = .ok (.iconst 0, 1) := by decide +kernel
theorem dX2_init_26 : decode cX2_init 26 = .ok (.putfield 25, 3) := by decide +kernel
theorem dX2_init_29 : decode cX2_init 29 = .ok (.aload_n 0, 1) := by decide +kernel
theorem dX2_init_30 : decode cX2_init 30 = .ok (.iconst 0, 1) := by decide +kernel
theorem dX2_init_31 : decode cX2_init 31 = .ok (.putfield 28, 3) := by decide +kernel
theorem dX2_init_34 : decode cX2_init 34 = .ok (.aload_n 0, 1) := by decide +kernel
theorem dX2_init_35 : decode cX2_init 35 = .ok (.iconst 0, 1) := by decide +kernel
theorem dX2_init_36 : decode cX2_init 36 = .ok (.putfield 31, 3) := by decide +kernel
theorem dX2_init_39 : decode cX2_init 39 = .ok (.aload_n 0, 1) := by decide +kernel
theorem dX2_init_40 : decode cX2_init 40 = .ok (.bipush 6, 2) := by decide +kernel
theorem dX2_init_42 : decode cX2_init 42 = .ok (.newarray .int, 2) := by decide +kernel
theorem dX2_init_44 : decode cX2_init 44 = .ok (.putfield 34, 3) := by decide +kernel
theorem dX2_init_47 : decode cX2_init 47 = .ok (.aload_n 0, 1) := by decide +kernel
theorem dX2_init_48 : decode cX2_init 48 = .ok (.bipush 6, 2) := by decide +kernel
theorem dX2_init_50 : decode cX2_init 50 = .ok (.newarray .int, 2) := by decide +kernel
theorem dX2_init_52 : decode cX2_init 52 = .ok (.putfield 38, 3) := by decide +kernel
theorem dX2_init_55 : decode cX2_init 55 = .ok (.aload_n 0, 1) := by decide +kernel
theorem dX2_init_56 : decode cX2_init 56 = .ok (.bipush 6, 2) := by decide +kernel
theorem dX2_init_58 : decode cX2_init 58 = .ok (.newarray .int, 2) := by decide +kernel
theorem dX2_init_60 : decode cX2_init 60 = .ok (.putfield 41, 3) := by decide +kernel
theorem dX2_init_63 : decode cX2_init 63 = .ok (.aload_n 0, 1) := by decide +kernel
theorem dX2_init_64 : decode cX2_init 64 = .ok (.bipush 6, 2) := by decide +kernel
theorem dX2_init_66 : decode cX2_init 66 = .ok (.newarray .int, 2) := by decide +kernel
theorem dX2_init_68 : decode cX2_init 68 = .ok (.putfield 44, 3) := by decide +kernel
theorem dX2_init_71 : decode cX2_init 71 = .ok (.aload_n 0, 1) := by decide +kernel
theorem dX2_init_72 : decode cX2_init 72 = .ok (.bipush 60, 2) := by decide +kernel
theorem dX2_init_74 : decode cX2_init 74 = .ok (.newarray .int, 2) := by decide +kernel
theorem dX2_init_76 : decode cX2_init 76 = .ok (.putfield 47, 3) := by decide +kernel
theorem dX2_init_79 : decode cX2_init 79 = .ok (.aload_n 0, 1) := by decide +kernel
theorem dX2_init_80 : decode cX2_init 80 = .ok (.bipush 60, 2) := by decide +kernel
theorem dX2_init_82 : decode cX2_init 82 = .ok (.newarray .int, 2) := by decide +kernel
theorem dX2_init_84 : decode cX2_init 84 = .ok (.putfield 50, 3) := by decide +kernel
theorem dX2_init_87 : decode cX2_init 87 = .ok (.aload_n 0, 1) := by decide +kernel
theorem dX2_init_88 : decode cX2_init 88 = .ok (.bipush 60, 2) := by decide +kernel
theorem dX2_init_90 : decode cX2_init 90 = .ok (.newarray .int, 2) := by decide +kernel
theorem dX2_init_92 : decode cX2_init 92 = .ok (.putfield 53, 3) := by decide +kernel
theorem dX2_init_95 : decode cX2_init 95 = .ok (.aload_n 0, 1) := by decide +kernel
theorem dX2_init_96 : decode cX2_init 96 = .ok (.bipush 60, 2) := by decide +kernel
theorem dX2_init_98 : decode cX2_init 98 = .ok (.newarray .int, 2) := by decide +kernel
theorem dX2_init_100 : decode cX2_init 100 = .ok (.putfield 56, 3) := by decide +kernel
theorem dX2_init_103 : decode cX2_init 103 = .ok (.aload_n 0, 1) := by decide +kernel
theorem dX2_init_104 : decode cX2_init 104 = .ok (.iconst 0, 1) := by decide +kernel
theorem dX2_init_105 : decode cX2_init 105 = .ok (.putfield 59, 3) := by decide +kernel
theorem dX2_init_108 : decode cX2_init 108 = .ok (.return_, 1) := by decide +kernel
theorem dX2_copyFrom_0 : decode cX2_copyFrom 0 = .ok (.aload_n 0, 1) := by decide +kernel
theorem dX2_copyFrom_1 : decode cX2_copyFrom 1 = .ok (.aload_n 1, 1) := by decide +kernel
theorem dX2_copyFrom_2 : decode cX2_copyFrom 2 = .ok (.getfield 9, 3) := by decide +kernel
theorem dX2_copyFrom_5 : decode cX2_copyFrom 5 = .ok (.putfield 9, 3) := by decide +kernel
theorem dX2_copyFrom_8 : decode cX2_copyFrom 8 = .ok (.aload_n 0, 1) := by decide +kernel
theorem dX2_copyFrom_9 : decode cX2_copyFrom 9 = .ok (.aload_n 1, 1) := by decide +kernel
theorem dX2_copyFrom_10 : decode cX2_copyFrom 10 = .ok (.getfield 15, 3) := by decide +kernel
theorem dX2_copyFrom_13 : decode cX2_copyFrom 13 = .ok (.putfield 15, 3) := by decide +kernel
theorem dX2_copyFrom_16 : decode cX2_copyFrom 16 = .ok (.aload_n 0, 1) := by decide +kernel
theorem dX2_copyFrom_17 : decode cX2_copyFrom 17 = .ok (.aload_n 1, 1) := by decide +kernel
theorem dX2_copyFrom_18 : decode cX2_copyFrom 18 = .ok (.getfield 19, 3) := by decide +kernel
theorem dX2_copyFrom_21 : decode cX2_copyFrom 21 = .ok (.putfield 19, 3) := by decide +kernel
theorem dX2_copyFrom_24 : decode cX2_copyFrom 24 = .ok (.aload_n 0, 1) := by decide +kernel
theorem dX2_copyFrom_25 : decode cX2_copyFrom 25 = .ok (.aload_n 1, 1) := by decide +kernel
theorem dX2_copyFrom_26 : decode cX2_copyFrom 26 = .ok (.getfield 22, 3) := by decide +kernel
theorem dX2_copyFrom_29 : decode cX2_copyFrom 29 = .ok (.putfield 22, 3) := by decide +kernel
theorem dX2_copyFrom_32 : decode cX2_copyFrom 32 = .ok (.aload_n 0, 1) := by decide +kernel
theorem dX2_copyFrom_33 : decode cX2_copyFrom 33 = .ok (.aload_n 1, 1) := by decide +kernel
theorem dX2_copyFrom_34 : decode cX2_copyFrom 34 = .ok (.getfield 25, 3) := by decide +kernel
theorem dX2_copyFrom_37 : decode cX2_copyFrom 37 = .ok (.putfield 25, 3) := by decide +kernel
theorem dX2_copyFrom_40 : decode cX2_copyFrom 40 = .ok (.aload_n 0, 1) := by decide +kernel
theorem dX2_copyFrom_41 : decode cX2_copyFrom 41 = .ok (.aload_n 1, 1) := by decide +kernel
theorem dX2_copyFrom_42 : decode cX2_copyFrom 42 = .ok (.getfield 28, 3) := by decide +kernel
theorem dX2_copyFrom_45 : decode cX2_copyFrom 45 = .ok (.putfield 28, 3) := by decide +kernel
theorem dX2_copyFrom_48 : decode cX2_copyFrom 48 = .ok (.aload_n 0, 1) := by decide +kernel
theorem dX2_copyFrom_49 : decode cX2_copyFrom 49 = .ok (.aload_n 1, 1) := by decide +kernel
theorem dX2_copyFrom_50 : decode cX2_copyFrom 50 = .ok (.getfield 31, 3) := by decide +kernel
theorem dX2_copyFrom_53 : decode cX2_copyFrom 53 = .ok (.putfield 31, 3) := by decide +kernel
theorem dX2_copyFrom_56 : decode cX2_copyFrom 56 = .ok (.aload_n 1, 1) := by decide +kernel
theorem dX2_copyFrom_57 : decode cX2_copyFrom 57 = .ok (.getfield 34, 3) := by decide +kernel
theorem dX2_copyFrom_60 : decode cX2_copyFrom 60 = .ok (.aload_n 0, 1) := by decide +kernel
theorem dX2_copyFrom_61 : decode cX2_copyFrom 61 = .ok (.getfield 34, 3) := by decide +kernel
theorem dX2_copyFrom_64 : decode cX2_copyFrom 64 = .ok (.invokestatic 62, 3) := by decide +kernel
theorem dX2_copyFrom_67 : decode cX2_copyFrom 67 = .ok (.aload_n 1, 1) := by decide +kernel
theorem dX2_copyFrom_68 : decode cX2_copyFrom 68 = .ok (.getfield 38, 3) := by decide +kernel
theorem dX2_copyFrom_71 : decode cX2_copyFrom 71 = .ok (.aload_n 0, 1) := by decide +kernel
theorem dX2_copyFrom_72 : decode cX2_copyFrom 72 = .ok (.getfield 38, 3) := by decide +kernel
theorem dX2_copyFrom_75 : decode cX2_copyFrom 75 = .ok (.invokestatic 62, 3) := by decide +kernel
theorem dX2_copyFrom_78 : decode cX2_copyFrom 78 = .ok (.aload_n 1, 1) := by decide +kernel
theorem dX2_copyFrom_79 : decode cX2_copyFrom 79 = .ok (.getfield 41, 3) := by decide +kernel
theorem dX2_copyFrom_82 : decode cX2_copyFrom 82 = .ok (.aload_n 0, 1) := by decide +kernel
theorem dX2_copyFrom_83 : decode cX2_copyFrom 83 = .ok (.getfield 41, 3) := by decide +kernel
theorem dX2_copyFrom_86 : decode cX2_copyFrom 86 = .ok (.invokestatic 62, 3) := by decide +kernel
theorem dX2_copyFrom_89 : decode cX2_copyFrom 89 = .ok (.aload_n 1, 1) := by decide +kernel
theorem dX2_copyFrom_90 : decode cX2_copyFrom 90 = .ok (.getfield 44, 3) := by decide +kernel
theorem dX2_copyFrom_93 : decode cX2_copyFrom 93 = .ok (.aload_n 0, 1) := by decide +kernel
theorem dX2_copyFrom_94 : decode cX2_copyFrom 94 = .ok (.getfield 44, 3) := by decide +kernel
theorem dX2_copyFrom_97 : decode cX2_copyFrom 97 = .ok (.invokestatic 62, 3) := by decide +kernel
theorem dX2_copyFrom_100 : decode cX2_copyFrom 100 = .ok (.aload_n 1, 1) := by decide +kernel
theorem dX2_copyFrom_101 : decode cX2_copyFrom 101 = .ok (.getfield 47, 3) := by decide +kernel
theorem dX2_copyFrom_104 : decode cX2_copyFrom 104 = .ok (.aload_n 0, 1) := by decide +kernel
theorem dX2_copyFrom_105 : decode cX2_copyFrom 105 = .ok (.getfield 47, 3) := by decide +kernel
theorem dX2_copyFrom_108 : decode cX2_copyFrom 108 = .ok (.invokestatic 62, 3) := by decide +kernel
theorem dX2_copyFrom_111 : decode cX2_copyFrom 111 = .ok (.aload_n 1, 1) := by decide +kernel
theorem dX2_copyFrom_112 : decode cX2_copyFrom 112 = .ok (.getfield 50, 3) := by decide +kernel
theorem dX2_copyFrom_115 : decode cX2_copyFrom 115 = .ok (.aload_n 0, 1) := by decide +kernel
theorem dX2_copyFrom_116 : decode cX2_copyFrom 116 = .ok (.getfield 50, 3) := by decide +kernel
theorem dX2_copyFrom_119 : decode cX2_copyFrom 119 = .ok (.invokestatic 62, 3) := by decide +kernel
theorem dX2_copyFrom_122 : decode cX2_copyFrom 122 = .ok (.aload_n 1, 1) := by decide +kernel
theorem dX2_copyFrom_123 : decode cX2_copyFrom 123 = .ok (.getfield 53, 3) := by decide +kernel
theorem dX2_copyFrom_126 : decode cX2_copyFrom 126 = .ok (.aload_n 0, 1) := by decide +kernel
theorem dX2_copyFrom_127 : decode cX2_copyFrom 127 = .ok (.getfield 53, 3) := by decide +kernel
theorem dX2_copyFrom_130 : decode cX2_copyFrom 130 = .ok (.invokestatic 62, 3) := by decide +kernel
theorem dX2_copyFrom_133 : decode cX2_copyFrom 133 = .ok (.aload_n 1, 1) := by decide +kernel
theorem dX2_copyFrom_134 : decode cX2_copyFrom 134 = .ok (.getfield 56, 3) := by decide +kernel
theorem dX2_copyFrom_137 : decode cX2_copyFrom 137 = .ok (.aload_n 0, 1) := by decide +kernel
theorem dX2_copyFrom_138 : decode cX2_copyFrom 138 = .ok (.getfield 56, 3) := by decide +kernel
theorem dX2_copyFrom_141 : decode cX2_copyFrom 141 = .ok (.invokestatic 62, 3) := by decide +kernel
theorem dX2_copyFrom_144 : decode cX2_copyFrom 144 = .ok (.aload_n 0, 1) := by decide +kernel
theorem dX2_copyFrom_145 : decode cX2_copyFrom 145 = .ok (.aload_n 1, 1) := by decide +kernel
theorem dX2_copyFrom_146 : decode cX2_copyFrom 146 = .ok (.getfield 59, 3) := by decide +kernel
theorem dX2_copyFrom_149 : decode cX2_copyFrom 149 = .ok (.putfield 59, 3) := by decide +kernel
theorem dX2_copyFrom_152 : decode cX2_copyFrom 152 = .ok (.return_, 1) := by decide +kernel
theorem dX2_start_0 : decode cX2_start 0 = .ok (.aload_n 0, 1) := by decide +kernel
theorem dX2_start_1 : decode cX2_start 1 = .ok (.iconst 1, 1) := by decide +kernel
theorem dX2_start_2 : decode cX2_start 2 = .ok (.putfield 9, 3) := by decide +kernel
theorem dX2_start_5 : decode cX2_start 5 = .ok (.aload_n 0, 1) := by decide +kernel
theorem dX2_start_6 : decode cX2_start 6 = .ok (.iload_n 2, 1) := by decide +kernel
theorem dX2_start_7 : decode cX2_start 7 = .ok (.putfield 15, 3) := by decide +kernel
theorem dX2_start_10 : decode cX2_start 10 = .ok (.aload_n 0, 1) := by decide +kernel
theorem dX2_start_11 : decode cX2_start 11 = .ok (.iload_n 3, 1) := by decide +kernel
theorem dX2_start_12 : decode cX2_start 12 = .ok (.putfield 19, 3) := by decide +kernel
theorem dX2_start_15 : decode cX2_start 15 = .ok (.aload_n 0, 1) := by decide +kernel
theorem dX2_start_16 : decode cX2_start 16 = .ok (.iconst 5, 1) := by decide +kernel
theorem dX2_start_17 : decode cX2_start 17 = .ok (.putfield 22, 3) := by decide +kernel
theorem dX2_start_20 : decode cX2_start 20 = .ok (.aload_n 0, 1) := by decide +kernel
theorem dX2_start_21 : decode cX2_start 21 = .ok (.iconst 0, 1) := by decide +kernel
theorem dX2_start_22 : decode cX2_start 22 = .ok (.putfield 25, 3) := by decide +kernel
theorem dX2_start_25 : decode cX2_start 25 = .ok (.aload_n 0, 1) := by decide +kernel
theorem dX2_start_26 : decode cX2_start 26 = .ok (.iconst 0, 1) := by decide +kernel
theorem dX2_start_27 : decode cX2_start 27 = .ok (.putfield 28, 3) := by decide +kernel
theorem dX2_start_30 : decode cX2_start 30 = .ok (.aload_n 0, 1) := by decide +kernel
theorem dX2_start_31 : decode cX2_start 31 = .ok (.iconst 0, 1) := by decide +kernel
theorem dX2_start_32 : decode cX2_start 32 = .ok (.putfield 31, 3) := by decide +kernel
theorem dX2_start_35 : decode cX2_start 35 = .ok (.aload_n 0, 1) := by decide +kernel
theorem dX2_start_36 : decode cX2_start 36 = .ok (.iconst 0, 1) := by decide +kernel
theorem dX2_start_37 : decode cX2_start 37 = .ok (.putfield 59, 3) := by decide +kernel
theorem dX2_start_40 : decode cX2_start 40 = .ok (.aload_n 0, 1) := by decide +kernel
theorem dX2_start_41 : decode cX2_start 41 = .ok (.getfield 34, 3) := by decide +kernel
theorem dX2_start_44 : decode cX2_start 44 = .ok (.iconst 0, 1) := by decide +kernel
theorem dX2_start_45 : decode cX2_start 45 = .ok (.invokestatic 66, 3) := by decide +kernel
theorem dX2_start_48 : decode cX2_start 48 = .ok (.aload_n 0, 1) := by decide +kernel
theorem dX2_start_49 : decode cX2_start 49 = .ok (.getfield 38, 3) := by decide +kernel
theorem dX2_start_52 : decode cX2_start 52 = .ok (.iconst 0, 1) := by decide +kernel
theorem dX2_start_53 : decode cX2_start 53 = .ok (.invokestatic 66, 3) := by decide +kernel
theorem dX2_start_56 : decode cX2_start 56 = .ok (.aload_n 0, 1) := by decide +kernel
theorem dX2_start_57 : decode cX2_start 57 = .ok (.getfield 47, 3) := by decide +kernel
theorem dX2_start_60 : decode cX2_start 60 = .ok (.iconst 0, 1) := by decide +kernel
theorem dX2_start_61 : decode cX2_start 61 = .ok (.invokestatic 66, 3) := by decide +kernel
theorem dX2_start_64 : decode cX2_start 64 = .ok (.aload_n 0, 1) := by decide +kernel
theorem dX2_start_65 : decode cX2_start 65 = .ok (.getfield 50, 3) := by decide +kernel
theorem dX2_start_68 : decode cX2_start 68 = .ok (.iconst 0, 1) := by decide +kernel
theorem dX2_start_69 : decode cX2_start 69 = .ok (.invokestatic 66, 3) := by decide +kernel
theorem dX2_start_72 : decode cX2_start 72 = .ok (.iconst 0, 1) := by decide +kernel
theorem dX2_start_73 : decode cX2_start 73 = .ok (.istore 4, 2) := by decide +kernel
theorem dX2_start_75 : decode cX2_start 75 = .ok (.iload 4, 2) := by decide +kernel
theorem dX2_start_77 : decode cX2_start 77 = .ok (.bipush 6, 2) := by decide +kernel
theorem dX2_start_79 : decode cX2_start 79 = .ok (.if_icmp .ge 16, 3) := by decide +kernel
theorem dX2_start_82 : decode cX2_start 82 = .ok (.aload_n 0, 1) := by decide +kernel
theorem dX2_start_83 : decode cX2_start 83 = .ok (.aload_n 1, 1) := by decide +kernel
theorem dX2_start_84 : decode cX2_start 84 = .ok (.iload 4, 2) := by decide +kernel
theorem dX2_start_86 : decode cX2_start 86 = .ok (.invokevirtual 72, 3) := by decide +kernel
theorem dX2_start_89 : decode cX2_start 89 = .ok (.iinc 4 1, 3) := by decide +kernel
theorem dX2_start_92 : decode cX2_start 92 = .ok (.goto (-17), 3) := by decide +kernel
theorem dX2_start_95 : decode cX2_start 95 = .ok (.return_, 1) := by decide +kernel
theorem dX2_findBounds_0 : decode cX2_findBounds 0 = .ok (.aload_n 1, 1) := by decide +kernel
theorem dX2_findBounds_1 : decode cX2_findBounds 1 = .ok (.iload_n 2, 1) := by decide +kernel
theorem dX2_findBounds_2 : decode cX2_findBounds 2 = .ok (.aload_n 0, 1) := by decide +kernel
theorem dX2_findBounds_3 : decode cX2_findBounds 3 = .ok (.getfield 34, 3) := by decide +kernel
theorem dX2_findBounds_6 : decode cX2_findBounds 6 = .ok (.iload_n 2, 1) := by decide +kernel
theorem dX2_findBounds_7 : decode cX2_findBounds 7 = .ok (.invokestatic 76, 3) := by decide +kernel
theorem dX2_findBounds_10 : decode cX2_findBounds 10 = .ok (.invokevirtual 80, 3) := by decide +kernel
theorem dX2_findBounds_13 : decode cX2_findBounds 13 = .ok (.istore_n 3, 1) := by decide +kernel
theorem dX2_findBounds_14 : decode cX2_findBounds 14 = .ok (.aload_n 0, 1) := by decide +kernel
theorem dX2_findBounds_15 : decode cX2_findBounds 15 = .ok (.iload_n 2, 1) := by decide +kernel
theorem dX2_findBounds_16 : decode cX2_findBounds 16 = .ok (.invokevirtual 86, 3) := by decide +kernel
theorem dX2_findBounds_19 : decode cX2_findBounds 19 = .ok (.ifCond .eq 7, 3) := by decide +kernel
theorem dX2_findBounds_22 : decode cX2_findBounds 22 = .ok (.iconst 0, 1) := by decide +kernel
theorem dX2_findBounds_23 : decode cX2_findBounds 23 = .ok (.goto 11, 3) := by decide +kernel
theorem dX2_findBounds_26 : decode cX2_findBounds 26 = .ok (.aload_n 1, 1) := by decide +kernel
theorem dX2_findBounds_27 : decode cX2_findBounds 27 = .ok (.getfield 90, 3) := by decide +kernel
theorem dX2_findBounds_30 : decode cX2_findBounds 30 = .ok (.iload_n 2, 1) := by decide +kernel
theorem dX2_findBounds_31 : decode cX2_findBounds 31 = .ok (.invokestatic 76, 3) := by decide +kernel
theorem dX2_findBounds_34 : decode cX2_findBounds 34 = .ok (.istore 4, 2) := by decide +kernel
theorem dX2_findBounds_36 : decode cX2_findBounds 36 = .ok (.aload_n 0, 1) := by decide +kernel
theorem dX2_findBounds_37 : decode cX2_findBounds 37 = .ok (.getfield 41, 3) := by decide +kernel
theorem dX2_findBounds_40 : decode cX2_findBounds 40 = .ok (.iload_n 2, 1) := by decide +kernel
theorem dX2_findBounds_41 : decode cX2_findBounds 41 = .ok (.iload_n 3, 1) := by decide +kernel
theorem dX2_findBounds_42 : decode cX2_findBounds 42 = .ok (.invokestatic 93, 3) := by decide +kernel
theorem dX2_findBounds_45 : decode cX2_findBounds 45 = .ok (.aload_n 0, 1) := by decide +kernel
theorem dX2_findBounds_46 : decode cX2_findBounds 46 = .ok (.getfield 44, 3) := by decide +kernel
theorem dX2_findBounds_49 : decode cX2_findBounds 49 = .ok (.iload_n 2, 1) := by decide +kernel
theorem dX2_findBounds_50 : decode cX2_findBounds 50 = .ok (.iconst 0, 1) := by decide +kernel
theorem dX2_findBounds_51 : decode cX2_findBounds 51 = .ok (.iload_n 3, 1) := by decide +kernel
theorem dX2_findBounds_52 : decode cX2_findBounds 52 = .ok (.iload 4, 2) := by decide +kernel
theorem dX2_findBounds_54 : decode cX2_findBounds 54 = .ok (.isub, 1) := by decide +kernel
theorem dX2_findBounds_55 : decode cX2_findBounds 55 = .ok (.invokestatic 97, 3) := by decide +kernel
theorem dX2_findBounds_58 : decode cX2_findBounds 58 = .ok (.invokestatic 93, 3) := by decide +kernel
theorem dX2_findBounds_61 : decode cX2_findBounds 61 = .ok (.return_, 1) := by decide +kernel
theorem dX2_goOn_0 : decode cX2_goOn 0 = .ok (.iconst 0, 1) := by decide +kernel
theorem dX2_goOn_1 : decode cX2_goOn 1 = .ok (.istore_n 3, 1) := by decide +kernel
theorem dX2_goOn_2 : decode cX2_goOn 2 = .ok (.iload_n 3, 1) := by decide +kernel
theorem dX2_goOn_3 : decode cX2_goOn 3 = .ok (.iload_n 2, 1) := by decide +kernel
theorem dX2_goOn_4 : decode cX2_goOn 4 = .ok (.if_icmp .ge 27, 3) := by decide +kernel
theorem dX2_goOn_7 : decode cX2_goOn 7 = .ok (.aload_n 0, 1) := by decide +kernel
theorem dX2_goOn_8 : decode cX2_goOn 8 = .ok (.aload_n 1, 1) := by decide +kernel
theorem dX2_goOn_9 : decode cX2_goOn 9 = .ok (.invokevirtual 102, 3) := by decide +kernel
theorem dX2_goOn_12 : decode cX2_goOn 12 = .ok (.ifCond .ne 19, 3) := by decide +kernel
theorem dX2_goOn_15 : decode cX2_goOn 15 = .ok (.aload_n 0, 1) := by decide +kernel
theorem dX2_goOn_16 : decode cX2_goOn 16 = .ok (.aload_n 1, 1) := by decide +kernel
theorem dX2_goOn_17 : decode cX2_goOn 17 = .ok (.aload_n 0, 1) := by decide +kernel
theorem dX2_goOn_18 : decode cX2_goOn 18 = .ok (.aload_n 1, 1) := by decide +kernel
theorem dX2_goOn_19 : decode cX2_goOn 19 = .ok (.invokevirtual 106, 3) := by decide +kernel
theorem dX2_goOn_22 : decode cX2_goOn 22 = .ok (.invokevirtual 110, 3) := by decide +kernel
theorem dX2_goOn_25 : decode cX2_goOn 25 = .ok (.iinc 3 1, 3) := by decide +kernel
theorem dX2_goOn_28 : decode cX2_goOn 28 = .ok (.goto (-26), 3) := by decide +kernel
theorem dX2_goOn_31 : decode cX2_goOn 31 = .ok (.iload_n 3, 1) := by decide +kernel
theorem dX2_goOn_32 : decode cX2_goOn 32 = .ok (.ireturn, 1) := by decide +kernel
theorem dX2_readEntry_0 : decode cX2_readEntry 0 = .ok (.aload_n 0, 1) := by decide +kernel
theorem dX2_readEntry_1 : decode cX2_readEntry 1 = .ok (.getfield 34, 3) := by decide +kernel
theorem dX2_readEntry_4 : decode cX2_readEntry 4 = .ok (.iload_n 2, 1) := by decide +kernel
theorem dX2_readEntry_5 : decode cX2_readEntry 5 = .ok (.invokestatic 76, 3) := by decide +kernel
theorem dX2_readEntry_8 : decode cX2_readEntry 8 = .ok (.istore_n 3, 1) := by decide +kernel
theorem dX2_readEntry_9 : decode cX2_readEntry 9 = .ok (.aload_n 1, 1) := by decide +kernel
theorem dX2_readEntry_10 : decode cX2_readEntry 10 = .ok (.iload_n 2, 1) := by decide +kernel
theorem dX2_readEntry_11 : decode cX2_readEntry 11 = .ok (.iload_n 3, 1) := by decide +kernel
theorem dX2_readEntry_12 : decode cX2_readEntry 12 = .ok (.invokevirtual 113, 3) := by decide +kernel
theorem dX2_readEntry_15 : decode cX2_readEntry 15 = .ok (.istore 4, 2) := by decide +kernel
theorem dX2_readEntry_17 : decode cX2_readEntry 17 = .ok (.aload_n 1, 1) := by decide +kernel
theorem dX2_readEntry_18 : decode cX2_readEntry 18 = .ok (.iload_n 2, 1) := by decide +kernel
theorem dX2_readEntry_19 : decode cX2_readEntry 19 = .ok (.iload 4, 2) := by decide +kernel
theorem dX2_readEntry_21 : decode cX2_readEntry 21 = .ok (.invokevirtual 116, 3) := by decide +kernel
theorem dX2_readEntry_24 : decode cX2_readEntry 24 = .ok (.aload_n 0, 1) := by decide +kernel
theorem dX2_readEntry_25 : decode cX2_readEntry 25 = .ok (.getfield 44, 3) := by decide +kernel
theorem dX2_readEntry_28 : decode cX2_readEntry 28 = .ok (.iload_n 2, 1) := by decide +kernel
theorem dX2_readEntry_29 : decode cX2_readEntry 29 = .ok (.invokestatic 76, 3) := by decide +kernel
theorem dX2_readEntry_32 : decode cX2_readEntry 32 = .ok (.if_icmp .le 15, 3) := by decide +kernel
theorem dX2_readEntry_35 : decode cX2_readEntry 35 = .ok (.aload_n 0, 1) := by decide +kernel
theorem dX2_readEntry_36 : decode cX2_readEntry 36 = .ok (.dup, 1) := by decide +kernel
theorem dX2_readEntry_37 : decode cX2_readEntry 37 = .ok (.getfield 31, 3) := by decide +kernel
theorem dX2_readEntry_40 : decode cX2_readEntry 40 = .ok (.iconst 1, 1) := by decide +kernel
theorem dX2_readEntry_41 : decode cX2_readEntry 41 = .ok (.iload_n 2, 1) := by decide +kernel
theorem dX2_readEntry_42 : decode cX2_readEntry 42 = .ok (.ishl, 1) := by decide +kernel
theorem dX2_readEntry_43 : decode cX2_readEntry 43 = .ok (.ior, 1) := by decide +kernel
theorem dX2_readEntry_44 : decode cX2_readEntry 44 = .ok (.putfield 31, 3) := by decide +kernel
theorem dX2_readEntry_47 : decode cX2_readEntry 47 = .ok (.aload_n 0, 1) := by decide +kernel
theorem dX2_readEntry_48 : decode cX2_readEntry 48 = .ok (.getfield 34, 3) := by decide +kernel
theorem dX2_readEntry_51 : decode cX2_readEntry 51 = .ok (.iload_n 2, 1) := by decide +kernel
theorem dX2_readEntry_52 : decode cX2_readEntry 52 = .ok (.iload_n 3, 1) := by decide +kernel
theorem dX2_readEntry_53 : decode cX2_readEntry 53 = .ok (.iconst 1, 1) := by decide +kernel
theorem dX2_readEntry_54 : decode cX2_readEntry 54 = .ok (.iadd, 1) := by decide +kernel
theorem dX2_readEntry_55 : decode cX2_readEntry 55 = .ok (.invokestatic 93, 3) := by decide +kernel
theorem dX2_readEntry_58 : decode cX2_readEntry 58 = .ok (.aload_n 0, 1) := by decide +kernel
theorem dX2_readEntry_59 : decode cX2_readEntry 59 = .ok (.aload_n 1, 1) := by decide +kernel
theorem dX2_readEntry_60 : decode cX2_readEntry 60 = .ok (.iload_n 2, 1) := by decide +kernel
theorem dX2_readEntry_61 : decode cX2_readEntry 61 = .ok (.invokevirtual 72, 3) := by decide +kernel
theorem dX2_readEntry_64 : decode cX2_readEntry 64 = .ok (.aload_n 1, 1) := by decide +kernel
theorem dX2_readEntry_65 : decode cX2_readEntry 65 = .ok (.iload 4, 2) := by decide +kernel
theorem dX2_readEntry_67 : decode cX2_readEntry 67 = .ok (.invokevirtual 119, 3) := by decide +kernel
theorem dX2_readEntry_70 : decode cX2_readEntry 70 = .ok (.ifCond .eq 16, 3) := by decide +kernel
theorem dX2_readEntry_73 : decode cX2_readEntry 73 = .ok (.aload_n 0, 1) := by decide +kernel
theorem dX2_readEntry_74 : decode cX2_readEntry 74 = .ok (.dup, 1) := by decide +kernel
theorem dX2_readEntry_75 : decode cX2_readEntry 75 = .ok (.getfield 28, 3) := by decide +kernel
theorem dX2_readEntry_78 : decode cX2_readEntry 78 = .ok (.iconst 1, 1) := by decide +kernel
theorem dX2_readEntry_79 : decode cX2_readEntry 79 = .ok (.iadd, 1) := by decide +kernel
theorem dX2_readEntry_80 : decode cX2_readEntry 80 = .ok (.putfield 28, 3) := by decide +kernel
theorem dX2_readEntry_83 : decode cX2_readEntry 83 = .ok (.goto 11, 3) := by decide +kernel
theorem dX2_readEntry_86 : decode cX2_readEntry 86 = .ok (.aload_n 0, 1) := by decide +kernel
theorem dX2_readEntry_87 : decode cX2_readEntry 87 = .ok (.aload_n 1, 1) := by decide +kernel
theorem dX2_readEntry_88 : decode cX2_readEntry 88 = .ok (.iload_n 2, 1) := by decide +kernel
theorem dX2_readEntry_89 : decode cX2_readEntry 89 = .ok (.iload 4, 2) := by decide +kernel
theorem dX2_readEntry_91 : decode cX2_readEntry 91 = .ok (.invokevirtual 122, 3) := by decide +kernel
theorem dX2_readEntry_94 : decode cX2_readEntry 94 = .ok (.aload_n 0, 1) := by decide +kernel
theorem dX2_readEntry_95 : decode cX2_readEntry 95 = .ok (.iload_n 2, 1) := by decide +kernel
theorem dX2_readEntry_96 : decode cX2_readEntry 96 = .ok (.putfield 22, 3) := by decide +kernel
theorem dX2_readEntry_99 : decode cX2_readEntry 99 = .ok (.aload_n 0, 1) := by decide +kernel
theorem dX2_readEntry_100 : decode cX2_readEntry 100 = .ok (.dup, 1) := by decide +kernel
theorem dX2_readEntry_101 : decode cX2_readEntry 101 = .ok (.getfield 25, 3) := by decide +kernel
theorem dX2_readEntry_104 : decode cX2_readEntry 104 = .ok (.iconst 1, 1) := by decide +kernel
theorem dX2_readEntry_105 : decode cX2_readEntry 105 = .ok (.iadd, 1) := by decide +kernel
theorem dX2_readEntry_106 : decode cX2_readEntry 106 = .ok (.putfield 25, 3) := by decide +kernel
theorem dX2_readEntry_109 : decode cX2_readEntry 109 = .ok (.return_, 1) := by decide +kernel
theorem dX2_see_0 : decode cX2_see 0 = .ok (.aload_n 0, 1) := by decide +kernel
theorem dX2_see_1 : decode cX2_see 1 = .ok (.iload_n 3, 1) := by decide +kernel
theorem dX2_see_2 : decode cX2_see 2 = .ok (.invokevirtual 126, 3) := by decide +kernel
theorem dX2_see_5 : decode cX2_see 5 = .ok (.ifCond .ne 7, 3) := by decide +kernel
theorem dX2_see_8 : decode cX2_see 8 = .ok (.iconst 1, 1) := by decide +kernel
theorem dX2_see_9 : decode cX2_see 9 = .ok (.goto 4, 3) := by decide +kernel
theorem dX2_see_12 : decode cX2_see 12 = .ok (.iconst 0, 1) := by decide +kernel
theorem dX2_see_13 : decode cX2_see 13 = .ok (.istore 4, 2) := by decide +kernel
theorem dX2_see_15 : decode cX2_see 15 = .ok (.iload 4, 2) := by decide +kernel
theorem dX2_see_17 : decode cX2_see 17 = .ok (.ifCond .eq 37, 3) := by decide +kernel
theorem dX2_see_20 : decode cX2_see 20 = .ok (.aload_n 0, 1) := by decide +kernel
theorem dX2_see_21 : decode cX2_see 21 = .ok (.getfield 53, 3) := by decide +kernel
theorem dX2_see_24 : decode cX2_see 24 = .ok (.iload_n 3, 1) := by decide +kernel
theorem dX2_see_25 : decode cX2_see 25 = .ok (.aload_n 0, 1) := by decide +kernel
theorem dX2_see_26 : decode cX2_see 26 = .ok (.getfield 25, 3) := by decide +kernel
theorem dX2_see_29 : decode cX2_see 29 = .ok (.invokestatic 93, 3) := by decide +kernel
theorem dX2_see_32 : decode cX2_see 32 = .ok (.aload_n 0, 1) := by decide +kernel
theorem dX2_see_33 : decode cX2_see 33 = .ok (.getfield 56, 3) := by decide +kernel
theorem dX2_see_36 : decode cX2_see 36 = .ok (.aload_n 0, 1) := by decide +kernel
theorem dX2_see_37 : decode cX2_see 37 = .ok (.getfield 59, 3) := by decide +kernel
theorem dX2_see_40 : decode cX2_see 40 = .ok (.iload_n 3, 1) := by decide +kernel
theorem dX2_see_41 : decode cX2_see 41 = .ok (.invokestatic 93, 3) := by decide +kernel
theorem dX2_see_44 : decode cX2_see 44 = .ok (.aload_n 0, 1) := by decide +kernel
theorem dX2_see_45 : decode cX2_see 45 = .ok (.dup, 1) := by decide +kernel
theorem dX2_see_46 : decode cX2_see 46 = .ok (.getfield 59, 3) := by decide +kernel
theorem dX2_see_49 : decode cX2_see 49 = .ok (.iconst 1, 1) := by decide +kernel
theorem dX2_see_50 : decode cX2_see 50 = .ok (.iadd, 1) := by decide +kernel
theorem dX2_see_51 : decode cX2_see 51 = .ok (.putfield 59, 3) := by decide +kernel
theorem dX2_see_54 : decode cX2_see 54 = .ok (.aload_n 0, 1) := by decide +kernel
theorem dX2_see_55 : decode cX2_see 55 = .ok (.aload_n 1, 1) := by decide +kernel
theorem dX2_see_56 : decode cX2_see 56 = .ok (.iload_n 2, 1) := by decide +kernel
theorem dX2_see_57 : decode cX2_see 57 = .ok (.iload_n 3, 1) := by decide +kernel
theorem dX2_see_58 : decode cX2_see 58 = .ok (.invokevirtual 129, 3) := by decide +kernel
theorem dX2_see_61 : decode cX2_see 61 = .ok (.iload 4, 2) := by decide +kernel
theorem dX2_see_63 : decode cX2_see 63 = .ok (.ifCond .eq 69, 3) := by decide +kernel
theorem dX2_see_66 : decode cX2_see 66 = .ok (.aload_n 0, 1) := by decide +kernel
theorem dX2_see_67 : decode cX2_see 67 = .ok (.getfield 19, 3) := by decide +kernel
theorem dX2_see_70 : decode cX2_see 70 = .ok (.ifCond .eq 62, 3) := by decide +kernel
theorem dX2_see_73 : decode cX2_see 73 = .ok (.iconst 0, 1) := by decide +kernel
theorem dX2_see_74 : decode cX2_see 74 = .ok (.istore 5, 2) := by decide +kernel
theorem dX2_see_76 : decode cX2_see 76 = .ok (.iload 5, 2) := by decide +kernel
theorem dX2_see_78 : decode cX2_see 78 = .ok (.bipush 6, 2) := by decide +kernel
theorem dX2_see_80 : decode cX2_see 80 = .ok (.if_icmp .ge 52, 3) := by decide +kernel
theorem dX2_see_83 : decode cX2_see 83 = .ok (.iload 5, 2) := by decide +kernel
theorem dX2_see_85 : decode cX2_see 85 = .ok (.iload_n 2, 1) := by decide +kernel
theorem dX2_see_86 : decode cX2_see 86 = .ok (.if_icmp .eq 40, 3) := by decide +kernel
theorem dX2_see_89 : decode cX2_see 89 = .ok (.aload_n 1, 1) := by decide +kernel
theorem dX2_see_90 : decode cX2_see 90 = .ok (.iload 5, 2) := by decide +kernel
theorem dX2_see_92 : decode cX2_see 92 = .ok (.invokevirtual 132, 3) := by decide +kernel
theorem dX2_see_95 : decode cX2_see 95 = .ok (.ifCond .eq 31, 3) := by decide +kernel
theorem dX2_see_98 : decode cX2_see 98 = .ok (.aload_n 0, 1) := by decide +kernel
theorem dX2_see_99 : decode cX2_see 99 = .ok (.getfield 38, 3) := by decide +kernel
theorem dX2_see_102 : decode cX2_see 102 = .ok (.iload 5, 2) := by decide +kernel
theorem dX2_see_104 : decode cX2_see 104 = .ok (.aload_n 0, 1) := by decide +kernel
theorem dX2_see_105 : decode cX2_see 105 = .ok (.getfield 38, 3) := by decide +kernel
theorem dX2_see_108 : decode cX2_see 108 = .ok (.iload 5, 2) := by decide +kernel
theorem dX2_see_110 : decode cX2_see 110 = .ok (.invokestatic 76, 3) := by decide +kernel
theorem dX2_see_113 : decode cX2_see 113 = .ok (.iconst 1, 1) := by decide +kernel
theorem dX2_see_114 : decode cX2_see 114 = .ok (.iadd, 1) := by decide +kernel
theorem dX2_see_115 : decode cX2_see 115 = .ok (.invokestatic 93, 3) := by decide +kernel
theorem dX2_see_118 : decode cX2_see 118 = .ok (.aload_n 0, 1) := by decide +kernel
theorem dX2_see_119 : decode cX2_see 119 = .ok (.aload_n 1, 1) := by decide +kernel
theorem dX2_see_120 : decode cX2_see 120 = .ok (.iload 5, 2) := by decide +kernel
theorem dX2_see_122 : decode cX2_see 122 = .ok (.iload_n 3, 1) := by decide +kernel
theorem dX2_see_123 : decode cX2_see 123 = .ok (.invokevirtual 129, 3) := by decide +kernel
theorem dX2_see_126 : decode cX2_see 126 = .ok (.iinc 5 1, 3) := by decide +kernel
theorem dX2_see_129 : decode cX2_see 129 = .ok (.goto (-53), 3) := by decide +kernel
theorem dX2_see_132 : decode cX2_see 132 = .ok (.aload_n 0, 1) := by decide +kernel
theorem dX2_see_133 : decode cX2_see 133 = .ok (.iload_n 3, 1) := by decide +kernel
theorem dX2_see_134 : decode cX2_see 134 = .ok (.invokevirtual 135, 3) := by decide +kernel
theorem dX2_see_137 : decode cX2_see 137 = .ok (.return_, 1) := by decide +kernel
theorem dX2_learn_0 : decode cX2_learn 0 = .ok (.aload_n 0, 1) := by decide +kernel
theorem dX2_learn_1 : decode cX2_learn 1 = .ok (.getfield 47, 3) := by decide +kernel
theorem dX2_learn_4 : decode cX2_learn 4 = .ok (.iload_n 3, 1) := by decide +kernel
theorem dX2_learn_5 : decode cX2_learn 5 = .ok (.invokestatic 76, 3) := by decide +kernel
theorem dX2_learn_8 : decode cX2_learn 8 = .ok (.istore 4, 2) := by decide +kernel
theorem dX2_learn_10 : decode cX2_learn 10 = .ok (.iload 4, 2) := by decide +kernel
theorem dX2_learn_12 : decode cX2_learn 12 = .ok (.iload_n 2, 1) := by decide +kernel
theorem dX2_learn_13 : decode cX2_learn 13 = .ok (.ishr, 1) := by decide +kernel
theorem dX2_learn_14 : decode cX2_learn 14 = .ok (.iconst 1, 1) := by decide +kernel
theorem dX2_learn_15 : decode cX2_learn 15 = .ok (.iand, 1) := by decide +kernel
theorem dX2_learn_16 : decode cX2_learn 16 = .ok (.ifCond .ne 50, 3) := by decide +kernel
theorem dX2_learn_19 : decode cX2_learn 19 = .ok (.aload_n 1, 1) := by decide +kernel
theorem dX2_learn_20 : decode cX2_learn 20 = .ok (.iload_n 2, 1) := by decide +kernel
theorem dX2_learn_21 : decode cX2_learn 21 = .ok (.invokevirtual 139, 3) := by decide +kernel
theorem dX2_learn_24 : decode cX2_learn 24 = .ok (.aload_n 1, 1) := by decide +kernel
theorem dX2_learn_25 : decode cX2_learn 25 = .ok (.iload_n 2, 1) := by decide +kernel
theorem dX2_learn_26 : decode cX2_learn 26 = .ok (.iload_n 3, 1) := by decide +kernel
theorem dX2_learn_27 : decode cX2_learn 27 = .ok (.invokevirtual 116, 3) := by decide +kernel
theorem dX2_learn_30 : decode cX2_learn 30 = .ok (.imul, 1) := by decide +kernel
theorem dX2_learn_31 : decode cX2_learn 31 = .ok (.istore 5, 2) := by decide +kernel
theorem dX2_learn_33 : decode cX2_learn 33 = .ok (.aload_n 0, 1) := by decide +kernel
theorem dX2_learn_34 : decode cX2_learn 34 = .ok (.getfield 47, 3) := by decide +kernel
theorem dX2_learn_37 : decode cX2_learn 37 = .ok (.iload_n 3, 1) := by decide +kernel
theorem dX2_learn_38 : decode cX2_learn 38 = .ok (.iload 4, 2) := by decide +kernel
theorem dX2_learn_40 : decode cX2_learn 40 = .ok (.iconst 1, 1) := by decide +kernel
theorem dX2_learn_41 : decode cX2_learn 41 = .ok (.iload_n 2, 1) := by decide +kernel
theorem dX2_learn_42 : decode cX2_learn 42 = .ok (.ishl, 1) := by decide +kernel
theorem dX2_learn_43 : decode cX2_learn 43 = .ok (.ior, 1) := by decide +kernel
theorem dX2_learn_44 : decode cX2_learn 44 = .ok (.invokestatic 93, 3) := by decide +kernel
theorem dX2_learn_47 : decode cX2_learn 47 = .ok (.aload_n 0, 1) := by decide +kernel
theorem dX2_learn_48 : decode cX2_learn 48 = .ok (.getfield 50, 3) := by decide +kernel
theorem dX2_learn_51 : decode cX2_learn 51 = .ok (.iload_n 3, 1) := by decide +kernel
theorem dX2_learn_52 : decode cX2_learn 52 = .ok (.aload_n 0, 1) := by decide +kernel
theorem dX2_learn_53 : decode cX2_learn 53 = .ok (.getfield 50, 3) := by decide +kernel
theorem dX2_learn_56 : decode cX2_learn 56 = .ok (.iload_n 3, 1) := by decide +kernel
theorem dX2_learn_57 : decode cX2_learn 57 = .ok (.invokestatic 76, 3) := by decide +kernel
theorem dX2_learn_60 : decode cX2_learn 60 = .ok (.iload 5, 2) := by decide +kernel
theorem dX2_learn_62 : decode cX2_learn 62 = .ok (.iadd, 1) := by decide +kernel
theorem dX2_learn_63 : decode cX2_learn 63 = .ok (.invokestatic 93, 3) := by decide +kernel
theorem dX2_learn_66 : decode cX2_learn 66 = .ok (.return_, 1) := by decide +kernel
theorem dX2_moveAhead_0 : decode cX2_moveAhead 0 = .ok (.aload_n 0, 1) := by decide +kernel
theorem dX2_moveAhead_1 : decode cX2_moveAhead 1 = .ok (.iload_n 1, 1) := by decide +kernel
theorem dX2_moveAhead_2 : decode cX2_moveAhead 2 = .ok (.invokevirtual 143, 3) := by decide +kernel
theorem dX2_moveAhead_5 : decode cX2_moveAhead 5 = .ok (.istore_n 2, 1) := by decide +kernel
theorem dX2_moveAhead_6 : decode cX2_moveAhead 6 = .ok (.iload_n 2, 1) := by decide +kernel
theorem dX2_moveAhead_7 : decode cX2_moveAhead 7 = .ok (.ifCond .le 56, 3) := by decide +kernel
theorem dX2_moveAhead_10 : decode cX2_moveAhead 10 = .ok (.aload_n 0, 1) := by decide +kernel
theorem dX2_moveAhead_11 : decode cX2_moveAhead 11 = .ok (.iload_n 1, 1) := by decide +kernel
theorem dX2_moveAhead_12 : decode cX2_moveAhead 12 = .ok (.aload_n 0, 1) := by decide +kernel
theorem dX2_moveAhead_13 : decode cX2_moveAhead 13 = .ok (.getfield 56, 3) := by decide +kernel
theorem dX2_moveAhead_16 : decode cX2_moveAhead 16 = .ok (.iload_n 2, 1) := by decide +kernel
theorem dX2_moveAhead_17 : decode cX2_moveAhead 17 = .ok (.iconst 1, 1) := by decide +kernel
theorem dX2_moveAhead_18 : decode cX2_moveAhead 18 = .ok (.isub, 1) := by decide +kernel
theorem dX2_moveAhead_19 : decode cX2_moveAhead 19 = .ok (.invokestatic 76, 3) := by decide +kernel
theorem dX2_moveAhead_22 : decode cX2_moveAhead 22 = .ok (.invokevirtual 146, 3) := by decide +kernel
theorem dX2_moveAhead_25 : decode cX2_moveAhead 25 = .ok (.ifCond .eq 38, 3) := by decide +kernel
theorem dX2_moveAhead_28 : decode cX2_moveAhead 28 = .ok (.aload_n 0, 1) := by decide +kernel
theorem dX2_moveAhead_29 : decode cX2_moveAhead 29 = .ok (.getfield 56, 3) := by decide +kernel
theorem dX2_moveAhead_32 : decode cX2_moveAhead 32 = .ok (.iload_n 2, 1) := by decide +kernel
theorem dX2_moveAhead_33 : decode cX2_moveAhead 33 = .ok (.aload_n 0, 1) := by decide +kernel
theorem dX2_moveAhead_34 : decode cX2_moveAhead 34 = .ok (.getfield 56, 3) := by decide +kernel
theorem dX2_moveAhead_37 : decode cX2_moveAhead 37 = .ok (.iload_n 2, 1) := by decide +kernel
theorem dX2_moveAhead_38 : decode cX2_moveAhead 38 = .ok (.iconst 1, 1) := by decide +kernel
theorem dX2_moveAhead_39 : decode cX2_moveAhead 39 = .ok (.isub, 1) := by decide +kernel
theorem dX2_moveAhead_40 : decode cX2_moveAhead 40 = .ok (.invokestatic 76, 3) := by decide +kernel
theorem dX2_moveAhead_43 : decode cX2_moveAhead 43 = .ok (.invokestatic 93, 3) := by decide +kernel
theorem dX2_moveAhead_46 : decode cX2_moveAhead 46 = .ok (.aload_n 0, 1) := by decide +kernel
theorem dX2_moveAhead_47 : decode cX2_moveAhead 47 = .ok (.getfield 56, 3) := by decide +kernel
theorem dX2_moveAhead_50 : decode cX2_moveAhead 50 = .ok (.iload_n 2, 1) := by decide +kernel
theorem dX2_moveAhead_51 : decode cX2_moveAhead 51 = .ok (.iconst 1, 1) := by decide +kernel
theorem dX2_moveAhead_52 : decode cX2_moveAhead 52 = .ok (.isub, 1) := by decide +kernel
theorem dX2_moveAhead_53 : decode cX2_moveAhead 53 = .ok (.iload_n 1, 1) := by decide +kernel
theorem dX2_moveAhead_54 : decode cX2_moveAhead 54 = .ok (.invokestatic 93, 3) := by decide +kernel
theorem dX2_moveAhead_57 : decode cX2_moveAhead 57 = .ok (.iinc 2 (-1), 3) := by decide +kernel
theorem dX2_moveAhead_60 : decode cX2_moveAhead 60 = .ok (.goto (-54), 3) := by decide +kernel
theorem dX2_moveAhead_63 : decode cX2_moveAhead 63 = .ok (.return_, 1) := by decide +kernel
theorem dX2_isAhead_0 : decode cX2_isAhead 0 = .ok (.aload_n 0, 1) := by decide +kernel
theorem dX2_isAhead_1 : decode cX2_isAhead 1 = .ok (.getfield 50, 3) := by decide +kernel
theorem dX2_isAhead_4 : decode cX2_isAhead 4 = .ok (.iload_n 1, 1) := by decide +kernel
theorem dX2_isAhead_5 : decode cX2_isAhead 5 = .ok (.invokestatic 76, 3) := by decide +kernel
theorem dX2_isAhead_8 : decode cX2_isAhead 8 = .ok (.istore_n 3, 1) := by decide +kernel
theorem dX2_isAhead_9 : decode cX2_isAhead 9 = .ok (.aload_n 0, 1) := by decide +kernel
theorem dX2_isAhead_10 : decode cX2_isAhead 10 = .ok (.getfield 50, 3) := by decide +kernel
theorem dX2_isAhead_13 : decode cX2_isAhead 13 = .ok (.iload_n 2, 1) := by decide +kernel
theorem dX2_isAhead_14 : decode cX2_isAhead 14 = .ok (.invokestatic 76, 3) := by decide +kernel
theorem dX2_isAhead_17 : decode cX2_isAhead 17 = .ok (.istore 4, 2) := by decide +kernel
theorem dX2_isAhead_19 : decode cX2_isAhead 19 = .ok (.iload_n 3, 1) := by decide +kernel
theorem dX2_isAhead_20 : decode cX2_isAhead 20 = .ok (.iload 4, 2) := by decide +kernel
theorem dX2_isAhead_22 : decode cX2_isAhead 22 = .ok (.if_icmp .gt 14, 3) := by decide +kernel
theorem dX2_isAhead_25 : decode cX2_isAhead 25 = .ok (.iload_n 3, 1) := by decide +kernel
theorem dX2_isAhead_26 : decode cX2_isAhead 26 = .ok (.iload 4, 2) := by decide +kernel
theorem dX2_isAhead_28 : decode cX2_isAhead 28 = .ok (.if_icmp .ne 12, 3) := by decide +kernel
theorem dX2_isAhead_31 : decode cX2_isAhead 31 = .ok (.iload_n 1, 1) := by decide +kernel
theorem dX2_isAhead_32 : decode cX2_isAhead 32 = .ok (.iload_n 2, 1) := by decide +kernel
theorem dX2_isAhead_33 : decode cX2_isAhead 33 = .ok (.if_icmp .ge 7, 3) := by decide +kernel
theorem dX2_isAhead_36 : decode cX2_isAhead 36 = .ok (.iconst 1, 1) := by decide +kernel
theorem dX2_isAhead_37 : decode cX2_isAhead 37 = .ok (.goto 4, 3) := by decide +kernel
theorem dX2_isAhead_40 : decode cX2_isAhead 40 = .ok (.iconst 0, 1) := by decide +kernel
theorem dX2_isAhead_41 : decode cX2_isAhead 41 = .ok (.ireturn, 1) := by decide +kernel
theorem dX2_nextList_0 : decode cX2_nextList 0 = .ok (.aload_n 0, 1) := by decide +kernel
theorem dX2_nextList_1 : decode cX2_nextList 1 = .ok (.getfield 15, 3) := by decide +kernel
theorem dX2_nextList_4 : decode cX2_nextList 4 = .ok (.lookupswitch 40 #[(0, 28), (1, 34)], 28) := by decide +kernel
theorem dX2_nextList_32 : decode cX2_nextList 32 = .ok (.aload_n 0, 1) := by decide +kernel
theorem dX2_nextList_33 : decode cX2_nextList 33 = .ok (.aload_n 1, 1) := by decide +kernel
theorem dX2_nextList_34 : decode cX2_nextList 34 = .ok (.invokevirtual 150, 3) := by decide +kernel
theorem dX2_nextList_37 : decode cX2_nextList 37 = .ok (.ireturn, 1) := by decide +kernel
theorem dX2_nextList_38 : decode cX2_nextList 38 = .ok (.aload_n 0, 1) := by decide +kernel
theorem dX2_nextList_39 : decode cX2_nextList 39 = .ok (.aload_n 1, 1) := by decide +kernel
theorem dX2_nextList_40 : decode cX2_nextList 40 = .ok (.invokevirtual 153, 3) := by decide +kernel
theorem dX2_nextList_43 : decode cX2_nextList 43 = .ok (.ireturn, 1) := by decide +kernel
theorem dX2_nextList_44 : decode cX2_nextList 44 = .ok (.aload_n 0, 1) := by decide +kernel
theorem dX2_nextList_45 : decode cX2_nextList 45 = .ok (.aload_n 1, 1) := by decide +kernel
theorem dX2_nextList_46 : decode cX2_nextList 46 = .ok (.invokevirtual 156, 3) := by decide +kernel
theorem dX2_nextList_49 : decode cX2_nextList 49 = .ok (.ireturn, 1) := by decide +kernel
theorem dX2_nextInTurn_0 : decode cX2_nextInTurn 0 = .ok (.iconst 1, 1) := by decide +kernel
theorem dX2_nextInTurn_1 : decode cX2_nextInTurn 1 = .ok (.istore_n 2, 1) := by decide +kernel
theorem dX2_nextInTurn_2 : decode cX2_nextInTurn 2 = .ok (.iload_n 2, 1) := by decide +kernel
theorem dX2_nextInTurn_3 : decode cX2_nextInTurn 3 = .ok (.bipush 6, 2) := by decide +kernel
theorem dX2_nextInTurn_5 : decode cX2_nextInTurn 5 = .ok (.if_icmp .gt 30, 3) := by decide +kernel
theorem dX2_nextInTurn_8 : decode cX2_nextInTurn 8 = .ok (.aload_n 0, 1) := by decide +kernel
theorem dX2_nextInTurn_9 : decode cX2_nextInTurn 9 = .ok (.getfield 22, 3) := by decide +kernel
theorem dX2_nextInTurn_12 : decode cX2_nextInTurn 12 = .ok (.iload_n 2, 1) := by decide +kernel
theorem dX2_nextInTurn_13 : decode cX2_nextInTurn 13 = .ok (.iadd, 1) := by decide +kernel
theorem dX2_nextInTurn_14 : decode cX2_nextInTurn 14 = .ok (.bipush 6, 2) := by decide +kernel
theorem dX2_nextInTurn_16 : decode cX2_nextInTurn 16 = .ok (.irem, 1) := by decide +kernel
theorem dX2_nextInTurn_17 : decode cX2_nextInTurn 17 = .ok (.istore_n 3, 1) := by decide +kernel
theorem dX2_nextInTurn_18 : decode cX2_nextInTurn 18 = .ok (.aload_n 0, 1) := by decide +kernel
theorem dX2_nextInTurn_19 : decode cX2_nextInTurn 19 = .ok (.aload_n 1, 1) := by decide +kernel
theorem dX2_nextInTurn_20 : decode cX2_nextInTurn 20 = .ok (.iload_n 3, 1) := by decide +kernel
theorem dX2_nextInTurn_21 : decode cX2_nextInTurn 21 = .ok (.invokevirtual 159, 3) := by decide +kernel
theorem dX2_nextInTurn_24 : decode cX2_nextInTurn 24 = .ok (.ifCond .eq 5, 3) := by decide +kernel
theorem dX2_nextInTurn_27 : decode cX2_nextInTurn 27 = .ok (.iload_n 3, 1) := by decide +kernel
theorem dX2_nextInTurn_28 : decode cX2_nextInTurn 28 = .ok (.ireturn, 1) := by decide +kernel
theorem dX2_nextInTurn_29 : decode cX2_nextInTurn 29 = .ok (.iinc 2 1, 3) := by decide +kernel
theorem dX2_nextInTurn_32 : decode cX2_nextInTurn 32 = .ok (.goto (-30), 3) := by decide +kernel
theorem dX2_nextInTurn_35 : decode cX2_nextInTurn 35 = .ok (.bipush (-5), 2) := by decide +kernel
theorem dX2_nextInTurn_37 : decode cX2_nextInTurn 37 = .ok (.ireturn, 1) := by decide +kernel
theorem dX2_nextByBounds_0 : decode cX2_nextByBounds 0 = .ok (.bipush (-5), 2) := by decide +kernel
theorem dX2_nextByBounds_2 : decode cX2_nextByBounds 2 = .ok (.istore_n 2, 1) := by decide +kernel
theorem dX2_nextByBounds_3 : decode cX2_nextByBounds 3 = .ok (.iconst (-1), 1) := by decide +kernel
theorem dX2_nextByBounds_4 : decode cX2_nextByBounds 4 = .ok (.istore_n 3, 1) := by decide +kernel
theorem dX2_nextByBounds_5 : decode cX2_nextByBounds 5 = .ok (.iconst 0, 1) := by decide +kernel
theorem dX2_nextByBounds_6 : decode cX2_nextByBounds 6 = .ok (.istore 4, 2) := by decide +kernel
theorem dX2_nextByBounds_8 : decode cX2_nextByBounds 8 = .ok (.iload 4, 2) := by decide +kernel
theorem dX2_nextByBounds_10 : decode cX2_nextByBounds 10 = .ok (.bipush 6, 2) := by decide +kernel
theorem dX2_nextByBounds_12 : decode cX2_nextByBounds 12 = .ok (.if_icmp .ge 49, 3) := by decide +kernel
theorem dX2_nextByBounds_15 : decode cX2_nextByBounds 15 = .ok (.aload_n 1, 1) := by decide +kernel
theorem dX2_nextByBounds_16 : decode cX2_nextByBounds 16 = .ok (.iload 4, 2) := by decide +kernel
theorem dX2_nextByBounds_18 : decode cX2_nextByBounds 18 = .ok (.invokevirtual 139, 3) := by decide +kernel
theorem dX2_nextByBounds_21 : decode cX2_nextByBounds 21 = .ok (.aload_n 0, 1) := by decide +kernel
theorem dX2_nextByBounds_22 : decode cX2_nextByBounds 22 = .ok (.getfield 44, 3) := by decide +kernel
theorem dX2_nextByBounds_25 : decode cX2_nextByBounds 25 = .ok (.iload 4, 2) := by decide +kernel
theorem dX2_nextByBounds_27 : decode cX2_nextByBounds 27 = .ok (.invokestatic 76, 3) := by decide +kernel
theorem dX2_nextByBounds_30 : decode cX2_nextByBounds 30 = .ok (.imul, 1) := by decide +kernel
theorem dX2_nextByBounds_31 : decode cX2_nextByBounds 31 = .ok (.istore 5, 2) := by decide +kernel
theorem dX2_nextByBounds_33 : decode cX2_nextByBounds 33 = .ok (.aload_n 0, 1) := by decide +kernel
theorem dX2_nextByBounds_34 : decode cX2_nextByBounds 34 = .ok (.aload_n 1, 1) := by decide +kernel
theorem dX2_nextByBounds_35 : decode cX2_nextByBounds 35 = .ok (.iload 4, 2) := by decide +kernel
theorem dX2_nextByBounds_37 : decode cX2_nextByBounds 37 = .ok (.invokevirtual 159, 3) := by decide +kernel
theorem dX2_nextByBounds_40 : decode cX2_nextByBounds 40 = .ok (.ifCond .eq 15, 3) := by decide +kernel
theorem dX2_nextByBounds_43 : decode cX2_nextByBounds 43 = .ok (.iload 5, 2) := by decide +kernel
theorem dX2_nextByBounds_45 : decode cX2_nextByBounds 45 = .ok (.iload_n 3, 1) := by decide +kernel
theorem dX2_nextByBounds_46 : decode cX2_nextByBounds 46 = .ok (.if_icmp .le 9, 3) := by decide +kernel
theorem dX2_nextByBounds_49 : decode cX2_nextByBounds 49 = .ok (.iload 4, 2) := by decide +kernel
theorem dX2_nextByBounds_51 : decode cX2_nextByBounds 51 = .ok (.istore_n 2, 1) := by decide +kernel
theorem dX2_nextByBounds_52 : decode cX2_nextByBounds 52 = .ok (.iload 5, 2) := by decide +kernel
theorem dX2_nextByBounds_54 : decode cX2_nextByBounds 54 = .ok (.istore_n 3, 1) := by decide +kernel
theorem dX2_nextByBounds_55 : decode cX2_nextByBounds 55 = .ok (.iinc 4 1, 3) := by decide +kernel
theorem dX2_nextByBounds_58 : decode cX2_nextByBounds 58 = .ok (.goto (-50), 3) := by decide +kernel
theorem dX2_nextByBounds_61 : decode cX2_nextByBounds 61 = .ok (.iload_n 2, 1) := by decide +kernel
theorem dX2_nextByBounds_62 : decode cX2_nextByBounds 62 = .ok (.ireturn, 1) := by decide +kernel
theorem dX2_nextByRest_0 : decode cX2_nextByRest 0 = .ok (.bipush (-5), 2) := by decide +kernel
theorem dX2_nextByRest_2 : decode cX2_nextByRest 2 = .ok (.istore_n 2, 1) := by decide +kernel
theorem dX2_nextByRest_3 : decode cX2_nextByRest 3 = .ok (.bipush 41, 2) := by decide +kernel
theorem dX2_nextByRest_5 : decode cX2_nextByRest 5 = .ok (.istore_n 3, 1) := by decide +kernel
theorem dX2_nextByRest_6 : decode cX2_nextByRest 6 = .ok (.iconst 0, 1) := by decide +kernel
theorem dX2_nextByRest_7 : decode cX2_nextByRest 7 = .ok (.istore 4, 2) := by decide +kernel
theorem dX2_nextByRest_9 : decode cX2_nextByRest 9 = .ok (.iload 4, 2) := by decide +kernel
theorem dX2_nextByRest_11 : decode cX2_nextByRest 11 = .ok (.bipush 6, 2) := by decide +kernel
theorem dX2_nextByRest_13 : decode cX2_nextByRest 13 = .ok (.if_icmp .ge 49, 3) := by decide +kernel
theorem dX2_nextByRest_16 : decode cX2_nextByRest 16 = .ok (.aload_n 1, 1) := by decide +kernel
theorem dX2_nextByRest_17 : decode cX2_nextByRest 17 = .ok (.iload 4, 2) := by decide +kernel
theorem dX2_nextByRest_19 : decode cX2_nextByRest 19 = .ok (.invokevirtual 163, 3) := by decide +kernel
theorem dX2_nextByRest_22 : decode cX2_nextByRest 22 = .ok (.aload_n 0, 1) := by decide +kernel
theorem dX2_nextByRest_23 : decode cX2_nextByRest 23 = .ok (.getfield 34, 3) := by decide +kernel
theorem dX2_nextByRest_26 : decode cX2_nextByRest 26 = .ok (.iload 4, 2) := by decide +kernel
theorem dX2_nextByRest_28 : decode cX2_nextByRest 28 = .ok (.invokestatic 76, 3) := by decide +kernel
theorem dX2_nextByRest_31 : decode cX2_nextByRest 31 = .ok (.isub, 1) := by decide +kernel
theorem dX2_nextByRest_32 : decode cX2_nextByRest 32 = .ok (.istore 5, 2) := by decide +kernel
theorem dX2_nextByRest_34 : decode cX2_nextByRest 34 = .ok (.aload_n 0, 1) := by decide +kernel
theorem dX2_nextByRest_35 : decode cX2_nextByRest 35 = .ok (.aload_n 1, 1) := by decide +kernel
theorem dX2_nextByRest_36 : decode cX2_nextByRest 36 = .ok (.iload 4, 2) := by decide +kernel
theorem dX2_nextByRest_38 : decode cX2_nextByRest 38 = .ok (.invokevirtual 159, 3) := by decide +kernel
theorem dX2_nextByRest_41 : decode cX2_nextByRest 41 = .ok (.ifCond .eq 15, 3) := by decide +kernel
theorem dX2_nextByRest_44 : decode cX2_nextByRest 44 = .ok (.iload 5, 2) := by decide +kernel
theorem dX2_nextByRest_46 : decode cX2_nextByRest 46 = .ok (.iload_n 3, 1) := by decide +kernel
theorem dX2_nextByRest_47 : decode cX2_nextByRest 47 = .ok (.if_icmp .ge 9, 3) := by decide +kernel
theorem dX2_nextByRest_50 : decode cX2_nextByRest 50 = .ok (.iload 4, 2) := by decide +kernel
theorem dX2_nextByRest_52 : decode cX2_nextByRest 52 = .ok (.istore_n 2, 1) := by decide +kernel
theorem dX2_nextByRest_53 : decode cX2_nextByRest 53 = .ok (.iload 5, 2) := by decide +kernel
theorem dX2_nextByRest_55 : decode cX2_nextByRest 55 = .ok (.istore_n 3, 1) := by decide +kernel
theorem dX2_nextByRest_56 : decode cX2_nextByRest 56 = .ok (.iinc 4 1, 3) := by decide +kernel
theorem dX2_nextByRest_59 : decode cX2_nextByRest 59 = .ok (.goto (-50), 3) := by decide +kernel
theorem dX2_nextByRest_62 : decode cX2_nextByRest 62 = .ok (.iload_n 2, 1) := by decide +kernel
theorem dX2_nextByRest_63 : decode cX2_nextByRest 63 = .ok (.ireturn, 1) := by decide +kernel
theorem dX2_hasRest_0 : decode cX2_hasRest 0 = .ok (.aload_n 1, 1) := by decide +kernel
theorem dX2_hasRest_1 : decode cX2_hasRest 1 = .ok (.iload_n 2, 1) := by decide +kernel
theorem dX2_hasRest_2 : decode cX2_hasRest 2 = .ok (.invokevirtual 132, 3) := by decide +kernel
theorem dX2_hasRest_5 : decode cX2_hasRest 5 = .ok (.ifCond .eq 23, 3) := by decide +kernel
theorem dX2_hasRest_8 : decode cX2_hasRest 8 = .ok (.aload_n 0, 1) := by decide +kernel
theorem dX2_hasRest_9 : decode cX2_hasRest 9 = .ok (.getfield 34, 3) := by decide +kernel
theorem dX2_hasRest_12 : decode cX2_hasRest 12 = .ok (.iload_n 2, 1) := by decide +kernel
theorem dX2_hasRest_13 : decode cX2_hasRest 13 = .ok (.invokestatic 76, 3) := by decide +kernel
theorem dX2_hasRest_16 : decode cX2_hasRest 16 = .ok (.aload_n 1, 1) := by decide +kernel
theorem dX2_hasRest_17 : decode cX2_hasRest 17 = .ok (.iload_n 2, 1) := by decide +kernel
theorem dX2_hasRest_18 : decode cX2_hasRest 18 = .ok (.invokevirtual 163, 3) := by decide +kernel
theorem dX2_hasRest_21 : decode cX2_hasRest 21 = .ok (.if_icmp .ge 7, 3) := by decide +kernel
theorem dX2_hasRest_24 : decode cX2_hasRest 24 = .ok (.iconst 1, 1) := by decide +kernel
theorem dX2_hasRest_25 : decode cX2_hasRest 25 = .ok (.goto 4, 3) := by decide +kernel
theorem dX2_hasRest_28 : decode cX2_hasRest 28 = .ok (.iconst 0, 1) := by decide +kernel
theorem dX2_hasRest_29 : decode cX2_hasRest 29 = .ok (.ireturn, 1) := by decide +kernel
theorem dX2_isOver_0 : decode cX2_isOver 0 = .ok (.aload_n 0, 1) := by decide +kernel
theorem dX2_isOver_1 : decode cX2_isOver 1 = .ok (.aload_n 1, 1) := by decide +kernel
theorem dX2_isOver_2 : decode cX2_isOver 2 = .ok (.invokevirtual 150, 3) := by decide +kernel
theorem dX2_isOver_5 : decode cX2_isOver 5 = .ok (.bipush (-5), 2) := by decide +kernel
theorem dX2_isOver_7 : decode cX2_isOver 7 = .ok (.if_icmp .ne 5, 3) := by decide +kernel
theorem dX2_isOver_10 : decode cX2_isOver 10 = .ok (.iconst 1, 1) := by decide +kernel
theorem dX2_isOver_11 : decode cX2_isOver 11 = .ok (.ireturn, 1) := by decide +kernel
theorem dX2_isOver_12 : decode cX2_isOver 12 = .ok (.aload_n 0, 1) := by decide +kernel
theorem dX2_isOver_13 : decode cX2_isOver 13 = .ok (.getfield 59, 3) := by decide +kernel
theorem dX2_isOver_16 : decode cX2_isOver 16 = .ok (.aload_n 1, 1) := by decide +kernel
theorem dX2_isOver_17 : decode cX2_isOver 17 = .ok (.getfield 166, 3) := by decide +kernel
theorem dX2_isOver_20 : decode cX2_isOver 20 = .ok (.if_icmp .ge 5, 3) := by decide +kernel
theorem dX2_isOver_23 : decode cX2_isOver 23 = .ok (.iconst 0, 1) := by decide +kernel
theorem dX2_isOver_24 : decode cX2_isOver 24 = .ok (.ireturn, 1) := by decide +kernel
theorem dX2_isOver_25 : decode cX2_isOver 25 = .ok (.aload_n 0, 1) := by decide +kernel
theorem dX2_isOver_26 : decode cX2_isOver 26 = .ok (.getfield 56, 3) := by decide +kernel
theorem dX2_isOver_29 : decode cX2_isOver 29 = .ok (.aload_n 1, 1) := by decide +kernel
theorem dX2_isOver_30 : decode cX2_isOver 30 = .ok (.getfield 166, 3) := by decide +kernel
theorem dX2_isOver_33 : decode cX2_isOver 33 = .ok (.iconst 1, 1) := by decide +kernel
theorem dX2_isOver_34 : decode cX2_isOver 34 = .ok (.isub, 1) := by decide +kernel
theorem dX2_isOver_35 : decode cX2_isOver 35 = .ok (.invokestatic 76, 3) := by decide +kernel
theorem dX2_isOver_38 : decode cX2_isOver 38 = .ok (.istore_n 2, 1) := by decide +kernel
theorem dX2_isOver_39 : decode cX2_isOver 39 = .ok (.aload_n 0, 1) := by decide +kernel
theorem dX2_isOver_40 : decode cX2_isOver 40 = .ok (.getfield 50, 3) := by decide +kernel
theorem dX2_isOver_43 : decode cX2_isOver 43 = .ok (.iload_n 2, 1) := by decide +kernel
theorem dX2_isOver_44 : decode cX2_isOver 44 = .ok (.invokestatic 76, 3) := by decide +kernel
theorem dX2_isOver_47 : decode cX2_isOver 47 = .ok (.istore_n 3, 1) := by decide +kernel
theorem dX2_isOver_48 : decode cX2_isOver 48 = .ok (.aload_n 0, 1) := by decide +kernel
theorem dX2_isOver_49 : decode cX2_isOver 49 = .ok (.aload_n 1, 1) := by decide +kernel
theorem dX2_isOver_50 : decode cX2_isOver 50 = .ok (.invokevirtual 169, 3) := by decide +kernel
theorem dX2_isOver_53 : decode cX2_isOver 53 = .ok (.iload_n 3, 1) := by decide +kernel
theorem dX2_isOver_54 : decode cX2_isOver 54 = .ok (.if_icmp .lt 5, 3) := by decide +kernel
theorem dX2_isOver_57 : decode cX2_isOver 57 = .ok (.iconst 0, 1) := by decide +kernel
theorem dX2_isOver_58 : decode cX2_isOver 58 = .ok (.ireturn, 1) := by decide +kernel
theorem dX2_isOver_59 : decode cX2_isOver 59 = .ok (.aload_n 1, 1) := by decide +kernel
theorem dX2_isOver_60 : decode cX2_isOver 60 = .ok (.getfield 166, 3) := by decide +kernel
theorem dX2_isOver_63 : decode cX2_isOver 63 = .ok (.istore 4, 2) := by decide +kernel
theorem dX2_isOver_65 : decode cX2_isOver 65 = .ok (.iload 4, 2) := by decide +kernel
theorem dX2_isOver_67 : decode cX2_isOver 67 = .ok (.aload_n 0, 1) := by decide +kernel
theorem dX2_isOver_68 : decode cX2_isOver 68 = .ok (.getfield 59, 3) := by decide +kernel
theorem dX2_isOver_71 : decode cX2_isOver 71 = .ok (.if_icmp .ge 49, 3) := by decide +kernel
theorem dX2_isOver_74 : decode cX2_isOver 74 = .ok (.aload_n 0, 1) := by decide +kernel
theorem dX2_isOver_75 : decode cX2_isOver 75 = .ok (.getfield 56, 3) := by decide +kernel
theorem dX2_isOver_78 : decode cX2_isOver 78 = .ok (.iload 4, 2) := by decide +kernel
theorem dX2_isOver_80 : decode cX2_isOver 80 = .ok (.invokestatic 76, 3) := by decide +kernel
theorem dX2_isOver_83 : decode cX2_isOver 83 = .ok (.istore 5, 2) := by decide +kernel
theorem dX2_isOver_85 : decode cX2_isOver 85 = .ok (.aload_n 0, 1) := by decide +kernel
theorem dX2_isOver_86 : decode cX2_isOver 86 = .ok (.aload_n 1, 1) := by decide +kernel
theorem dX2_isOver_87 : decode cX2_isOver 87 = .ok (.iload 5, 2) := by decide +kernel
theorem dX2_isOver_89 : decode cX2_isOver 89 = .ok (.invokevirtual 172, 3) := by decide +kernel
theorem dX2_isOver_92 : decode cX2_isOver 92 = .ok (.istore 6, 2) := by decide +kernel
theorem dX2_isOver_94 : decode cX2_isOver 94 = .ok (.iload 6, 2) := by decide +kernel
theorem dX2_isOver_96 : decode cX2_isOver 96 = .ok (.iload_n 3, 1) := by decide +kernel
theorem dX2_isOver_97 : decode cX2_isOver 97 = .ok (.if_icmp .gt 15, 3) := by decide +kernel
theorem dX2_isOver_100 : decode cX2_isOver 100 = .ok (.iload 6, 2) := by decide +kernel
theorem dX2_isOver_102 : decode cX2_isOver 102 = .ok (.iload_n 3, 1) := by decide +kernel
theorem dX2_isOver_103 : decode cX2_isOver 103 = .ok (.if_icmp .ne 11, 3) := by decide +kernel
theorem dX2_isOver_106 : decode cX2_isOver 106 = .ok (.iload 5, 2) := by decide +kernel
theorem dX2_isOver_108 : decode cX2_isOver 108 = .ok (.iload_n 2, 1) := by decide +kernel
theorem dX2_isOver_109 : decode cX2_isOver 109 = .ok (.if_icmp .ge 5, 3) := by decide +kernel
theorem dX2_isOver_112 : decode cX2_isOver 112 = .ok (.iconst 0, 1) := by decide +kernel
theorem dX2_isOver_113 : decode cX2_isOver 113 = .ok (.ireturn, 1) := by decide +kernel
theorem dX2_isOver_114 : decode cX2_isOver 114 = .ok (.iinc 4 1, 3) := by decide +kernel
theorem dX2_isOver_117 : decode cX2_isOver 117 = .ok (.goto (-52), 3) := by decide +kernel
theorem dX2_isOver_120 : decode cX2_isOver 120 = .ok (.iconst 1, 1) := by decide +kernel
theorem dX2_isOver_121 : decode cX2_isOver 121 = .ok (.ireturn, 1) := by decide +kernel
theorem dX2_highOf_0 : decode cX2_highOf 0 = .ok (.aload_n 0, 1) := by decide +kernel
theorem dX2_highOf_1 : decode cX2_highOf 1 = .ok (.getfield 50, 3) := by decide +kernel
theorem dX2_highOf_4 : decode cX2_highOf 4 = .ok (.iload_n 2, 1) := by decide +kernel
theorem dX2_highOf_5 : decode cX2_highOf 5 = .ok (.invokestatic 76, 3) := by decide +kernel
theorem dX2_highOf_8 : decode cX2_highOf 8 = .ok (.istore_n 3, 1) := by decide +kernel
theorem dX2_highOf_9 : decode cX2_highOf 9 = .ok (.aload_n 0, 1) := by decide +kernel
theorem dX2_highOf_10 : decode cX2_highOf 10 = .ok (.getfield 47, 3) := by decide +kernel
theorem dX2_highOf_13 : decode cX2_highOf 13 = .ok (.iload_n 2, 1) := by decide +kernel
theorem dX2_highOf_14 : decode cX2_highOf 14 = .ok (.invokestatic 76, 3) := by decide +kernel
theorem dX2_highOf_17 : decode cX2_highOf 17 = .ok (.istore 4, 2) := by decide +kernel
theorem dX2_highOf_19 : decode cX2_highOf 19 = .ok (.iconst 0, 1) := by decide +kernel
theorem dX2_highOf_20 : decode cX2_highOf 20 = .ok (.istore 5, 2) := by decide +kernel
theorem dX2_highOf_22 : decode cX2_highOf 22 = .ok (.iload 5, 2) := by decide +kernel
theorem dX2_highOf_24 : decode cX2_highOf 24 = .ok (.bipush 6, 2) := by decide +kernel
theorem dX2_highOf_26 : decode cX2_highOf 26 = .ok (.if_icmp .ge 38, 3) := by decide +kernel
theorem dX2_highOf_29 : decode cX2_highOf 29 = .ok (.iload 4, 2) := by decide +kernel
theorem dX2_highOf_31 : decode cX2_highOf 31 = .ok (.iload 5, 2) := by decide +kernel
theorem dX2_highOf_33 : decode cX2_highOf 33 = .ok (.ishr, 1) := by decide +kernel
theorem dX2_highOf_34 : decode cX2_highOf 34 = .ok (.iconst 1, 1) := by decide +kernel
theorem dX2_highOf_35 : decode cX2_highOf 35 = .ok (.iand, 1) := by decide +kernel
theorem dX2_highOf_36 : decode cX2_highOf 36 = .ok (.ifCond .ne 22, 3) := by decide +kernel
theorem dX2_highOf_39 : decode cX2_highOf 39 = .ok (.iload_n 3, 1) := by decide +kernel
theorem dX2_highOf_40 : decode cX2_highOf 40 = .ok (.aload_n 1, 1) := by decide +kernel
theorem dX2_highOf_41 : decode cX2_highOf 41 = .ok (.iload 5, 2) := by decide +kernel
theorem dX2_highOf_43 : decode cX2_highOf 43 = .ok (.invokevirtual 139, 3) := by decide +kernel
theorem dX2_highOf_46 : decode cX2_highOf 46 = .ok (.aload_n 0, 1) := by decide +kernel
theorem dX2_highOf_47 : decode cX2_highOf 47 = .ok (.getfield 44, 3) := by decide +kernel
theorem dX2_highOf_50 : decode cX2_highOf 50 = .ok (.iload 5, 2) := by decide +kernel
theorem dX2_highOf_52 : decode cX2_highOf 52 = .ok (.invokestatic 76, 3) := by decide +kernel
theorem dX2_highOf_55 : decode cX2_highOf 55 = .ok (.imul, 1) := by decide +kernel
theorem dX2_highOf_56 : decode cX2_highOf 56 = .ok (.iadd, 1) := by decide +kernel
theorem dX2_highOf_57 : decode cX2_highOf 57 = .ok (.istore_n 3, 1) := by decide +kernel
theorem dX2_highOf_58 : decode cX2_highOf 58 = .ok (.iinc 5 1, 3) := by decide +kernel
theorem dX2_highOf_61 : decode cX2_highOf 61 = .ok (.goto (-39), 3) := by decide +kernel
theorem dX2_highOf_64 : decode cX2_highOf 64 = .ok (.iload_n 3, 1) := by decide +kernel
theorem dX2_highOf_65 : decode cX2_highOf 65 = .ok (.ireturn, 1) := by decide +kernel
theorem dX2_weighedBounds_0 : decode cX2_weighedBounds 0 = .ok (.iconst 0, 1) := by decide +kernel
theorem dX2_weighedBounds_1 : decode cX2_weighedBounds 1 = .ok (.istore_n 2, 1) := by decide +kernel
theorem dX2_weighedBounds_2 : decode cX2_weighedBounds 2 = .ok (.iconst 0, 1) := by decide +kernel
theorem dX2_weighedBounds_3 : decode cX2_weighedBounds 3 = .ok (.istore_n 3, 1) := by decide +kernel
theorem dX2_weighedBounds_4 : decode cX2_weighedBounds 4 = .ok (.iload_n 3, 1) := by decide +kernel
theorem dX2_weighedBounds_5 : decode cX2_weighedBounds 5 = .ok (.bipush 6, 2) := by decide +kernel
theorem dX2_weighedBounds_7 : decode cX2_weighedBounds 7 = .ok (.if_icmp .ge 26, 3) := by decide +kernel
theorem dX2_weighedBounds_10 : decode cX2_weighedBounds 10 = .ok (.iload_n 2, 1) := by decide +kernel
theorem dX2_weighedBounds_11 : decode cX2_weighedBounds 11 = .ok (.aload_n 1, 1) := by decide +kernel
theorem dX2_weighedBounds_12 : decode cX2_weighedBounds 12 = .ok (.iload_n 3, 1) := by decide +kernel
theorem dX2_weighedBounds_13 : decode cX2_weighedBounds 13 = .ok (.invokevirtual 139, 3) := by decide +kernel
theorem dX2_weighedBounds_16 : decode cX2_weighedBounds 16 = .ok (.aload_n 0, 1) := by decide +kernel
theorem dX2_weighedBounds_17 : decode cX2_weighedBounds 17 = .ok (.getfield 44, 3) := by decide +kernel
theorem dX2_weighedBounds_20 : decode cX2_weighedBounds 20 = .ok (.iload_n 3, 1) := by decide +kernel
theorem dX2_weighedBounds_21 : decode cX2_weighedBounds 21 = .ok (.invokestatic 76, 3) := by decide +kernel
theorem dX2_weighedBounds_24 : decode cX2_weighedBounds 24 = .ok (.imul, 1) := by decide +kernel
theorem dX2_weighedBounds_25 : decode cX2_weighedBounds 25 = .ok (.iadd, 1) := by decide +kernel
theorem dX2_weighedBounds_26 : decode cX2_weighedBounds 26 = .ok (.istore_n 2, 1) := by decide +kernel
theorem dX2_weighedBounds_27 : decode cX2_weighedBounds 27 = .ok (.iinc 3 1, 3) := by decide +kernel
theorem dX2_weighedBounds_30 : decode cX2_weighedBounds 30 = .ok (.goto (-26), 3) := by decide +kernel
theorem dX2_weighedBounds_33 : decode cX2_weighedBounds 33 = .ok (.iload_n 2, 1) := by decide +kernel
theorem dX2_weighedBounds_34 : decode cX2_weighedBounds 34 = .ok (.ireturn, 1) := by decide +kernel
theorem dX2_isSeen_0 : decode cX2_isSeen 0 = .ok (.aload_n 0, 1) := by decide +kernel
theorem dX2_isSeen_1 : decode cX2_isSeen 1 = .ok (.getfield 47, 3) := by decide +kernel
theorem dX2_isSeen_4 : decode cX2_isSeen 4 = .ok (.iload_n 1, 1) := by decide +kernel
theorem dX2_isSeen_5 : decode cX2_isSeen 5 = .ok (.invokestatic 76, 3) := by decide +kernel
theorem dX2_isSeen_8 : decode cX2_isSeen 8 = .ok (.ifCond .eq 7, 3) := by decide +kernel
theorem dX2_isSeen_11 : decode cX2_isSeen 11 = .ok (.iconst 1, 1) := by decide +kernel
theorem dX2_isSeen_12 : decode cX2_isSeen 12 = .ok (.goto 4, 3) := by decide +kernel
theorem dX2_isSeen_15 : decode cX2_isSeen 15 = .ok (.iconst 0, 1) := by decide +kernel
theorem dX2_isSeen_16 : decode cX2_isSeen 16 = .ok (.ireturn, 1) := by decide +kernel
theorem dX2_knownListsOf_0 : decode cX2_knownListsOf 0 = .ok (.aload_n 0, 1) := by decide +kernel
theorem dX2_knownListsOf_1 : decode cX2_knownListsOf 1 = .ok (.getfield 47, 3) := by decide +kernel
theorem dX2_knownListsOf_4 : decode cX2_knownListsOf 4 = .ok (.iload_n 2, 1) := by decide +kernel
theorem dX2_knownListsOf_5 : decode cX2_knownListsOf 5 = .ok (.invokestatic 76, 3) := by decide +kernel
theorem dX2_knownListsOf_8 : decode cX2_knownListsOf 8 = .ok (.istore_n 3, 1) := by decide +kernel
theorem dX2_knownListsOf_9 : decode cX2_knownListsOf 9 = .ok (.iconst 0, 1) := by decide +kernel
theorem dX2_knownListsOf_10 : decode cX2_knownListsOf 10 = .ok (.istore 4, 2) := by decide +kernel
theorem dX2_knownListsOf_12 : decode cX2_knownListsOf 12 = .ok (.iload 4, 2) := by decide +kernel
theorem dX2_knownListsOf_14 : decode cX2_knownListsOf 14 = .ok (.bipush 6, 2) := by decide +kernel
theorem dX2_knownListsOf_16 : decode cX2_knownListsOf 16 = .ok (.if_icmp .ge 46, 3) := by decide +kernel
theorem dX2_knownListsOf_19 : decode cX2_knownListsOf 19 = .ok (.aload_n 1, 1) := by decide +kernel
theorem dX2_knownListsOf_20 : decode cX2_knownListsOf 20 = .ok (.iload 4, 2) := by decide +kernel
theorem dX2_knownListsOf_22 : decode cX2_knownListsOf 22 = .ok (.invokevirtual 132, 3) := by decide +kernel
theorem dX2_knownListsOf_25 : decode cX2_knownListsOf 25 = .ok (.ifCond .eq 17, 3) := by decide +kernel
theorem dX2_knownListsOf_28 : decode cX2_knownListsOf 28 = .ok (.aload_n 0, 1) := by decide +kernel
theorem dX2_knownListsOf_29 : decode cX2_knownListsOf 29 = .ok (.aload_n 1, 1) := by decide +kernel
theorem dX2_knownListsOf_30 : decode cX2_knownListsOf 30 = .ok (.iload 4, 2) := by decide +kernel
theorem dX2_knownListsOf_32 : decode cX2_knownListsOf 32 = .ok (.invokevirtual 159, 3) := by decide +kernel
theorem dX2_knownListsOf_35 : decode cX2_knownListsOf 35 = .ok (.ifCond .ne 7, 3) := by decide +kernel
theorem dX2_knownListsOf_38 : decode cX2_knownListsOf 38 = .ok (.iconst 1, 1) := by decide +kernel
theorem dX2_knownListsOf_39 : decode cX2_knownListsOf 39 = .ok (.goto 4, 3) := by decide +kernel
theorem dX2_knownListsOf_42 : decode cX2_knownListsOf 42 = .ok (.iconst 0, 1) := by decide +kernel
theorem dX2_knownListsOf_43 : decode cX2_knownListsOf 43 = .ok (.istore 5, 2) := by decide +kernel
theorem dX2_knownListsOf_45 : decode cX2_knownListsOf 45 = .ok (.iload_n 3, 1) := by decide +kernel
theorem dX2_knownListsOf_46 : decode cX2_knownListsOf 46 = .ok (.iload 5, 2) := by decide +kernel
theorem dX2_knownListsOf_48 : decode cX2_knownListsOf 48 = .ok (.invokestatic 176, 3) := by decide +kernel
theorem dX2_knownListsOf_51 : decode cX2_knownListsOf 51 = .ok (.iload 4, 2) := by decide +kernel
theorem dX2_knownListsOf_53 : decode cX2_knownListsOf 53 = .ok (.ishl, 1) := by decide +kernel
theorem dX2_knownListsOf_54 : decode cX2_knownListsOf 54 = .ok (.ior, 1) := by decide +kernel
theorem dX2_knownListsOf_55 : decode cX2_knownListsOf 55 = .ok (.istore_n 3, 1) := by decide +kernel
theorem dX2_knownListsOf_56 : decode cX2_knownListsOf 56 = .ok (.iinc 4 1, 3) := by decide +kernel
theorem dX2_knownListsOf_59 : decode cX2_knownListsOf 59 = .ok (.goto (-47), 3) := by decide +kernel
theorem dX2_knownListsOf_62 : decode cX2_knownListsOf 62 = .ok (.iload_n 3, 1) := by decide +kernel
theorem dX2_knownListsOf_63 : decode cX2_knownListsOf 63 = .ok (.ireturn, 1) := by decide +kernel
theorem dX2_frontPlaceOf_0 : decode cX2_frontPlaceOf 0 = .ok (.iconst 0, 1) := by decide +kernel
theorem dX2_frontPlaceOf_1 : decode cX2_frontPlaceOf 1 = .ok (.istore_n 2, 1) := by decide +kernel
theorem dX2_frontPlaceOf_2 : decode cX2_frontPlaceOf 2 = .ok (.iload_n 2, 1) := by decide +kernel
theorem dX2_frontPlaceOf_3 : decode cX2_frontPlaceOf 3 = .ok (.aload_n 0, 1) := by decide +kernel
theorem dX2_frontPlaceOf_4 : decode cX2_frontPlaceOf 4 = .ok (.getfield 59, 3) := by decide +kernel
theorem dX2_frontPlaceOf_7 : decode cX2_frontPlaceOf 7 = .ok (.if_icmp .ge 23, 3) := by decide +kernel
theorem dX2_frontPlaceOf_10 : decode cX2_frontPlaceOf 10 = .ok (.aload_n 0, 1) := by decide +kernel
theorem dX2_frontPlaceOf_11 : decode cX2_frontPlaceOf 11 = .ok (.getfield 56, 3) := by decide +kernel
theorem dX2_frontPlaceOf_14 : decode cX2_frontPlaceOf 14 = .ok (.iload_n 2, 1) := by decide +kernel
theorem dX2_frontPlaceOf_15 : decode cX2_frontPlaceOf 15 = .ok (.invokestatic 76, 3) := by decide +kernel
theorem dX2_frontPlaceOf_18 : decode cX2_frontPlaceOf 18 = .ok (.iload_n 1, 1) := by decide +kernel
theorem dX2_frontPlaceOf_19 : decode cX2_frontPlaceOf 19 = .ok (.if_icmp .ne 5, 3) := by decide +kernel
theorem dX2_frontPlaceOf_22 : decode cX2_frontPlaceOf 22 = .ok (.iload_n 2, 1) := by decide +kernel
theorem dX2_frontPlaceOf_23 : decode cX2_frontPlaceOf 23 = .ok (.ireturn, 1) := by decide +kernel
theorem dX2_frontPlaceOf_24 : decode cX2_frontPlaceOf 24 = .ok (.iinc 2 1, 3) := by decide +kernel
theorem dX2_frontPlaceOf_27 : decode cX2_frontPlaceOf 27 = .ok (.goto (-25), 3) := by decide +kernel
theorem dX2_frontPlaceOf_30 : decode cX2_frontPlaceOf 30 = .ok (.bipush (-5), 2) := by decide +kernel
theorem dX2_frontPlaceOf_32 : decode cX2_frontPlaceOf 32 = .ok (.ireturn, 1) := by decide +kernel
theorem dX2_toldSize_0 : decode cX2_toldSize 0 = .ok (.aload_n 0, 1) := by decide +kernel
end
section
theorem dX2_toldSize_1 : decode cX2_toldSize 1 = .ok (.getfield 59, 3) := by decide +kernel
theorem dX2_toldSize_4 : decode cX2_toldSize 4 = .ok (.aload_n 1, 1) := by decide +kernel
theorem dX2_toldSize_5 : decode cX2_toldSize 5 = .ok (.getfield 166, 3) := by decide +kernel
theorem dX2_toldSize_8 : decode cX2_toldSize 8 = .ok (.invokestatic 180, 3) := by decide +kernel
theorem dX2_toldSize_11 : decode cX2_toldSize 11 = .ok (.ireturn, 1) := by decide +kernel
theorem dX2_lowOfLastTold_0 : decode cX2_lowOfLastTold 0 = .ok (.aload_n 0, 1) := by decide +kernel
theorem dX2_lowOfLastTold_1 : decode cX2_lowOfLastTold 1 = .ok (.aload_n 1, 1) := by decide +kernel
theorem dX2_lowOfLastTold_2 : decode cX2_lowOfLastTold 2 = .ok (.invokevirtual 183, 3) := by decide +kernel
theorem dX2_lowOfLastTold_5 : decode cX2_lowOfLastTold 5 = .ok (.istore_n 2, 1) := by decide +kernel
theorem dX2_lowOfLastTold_6 : decode cX2_lowOfLastTold 6 = .ok (.iload_n 2, 1) := by decide +kernel
theorem dX2_lowOfLastTold_7 : decode cX2_lowOfLastTold 7 = .ok (.ifCond .ne 7, 3) := by decide +kernel
theorem dX2_lowOfLastTold_10 : decode cX2_lowOfLastTold 10 = .ok (.iconst 0, 1) := by decide +kernel
theorem dX2_lowOfLastTold_11 : decode cX2_lowOfLastTold 11 = .ok (.goto 20, 3) := by decide +kernel
theorem dX2_lowOfLastTold_14 : decode cX2_lowOfLastTold 14 = .ok (.aload_n 0, 1) := by decide +kernel
theorem dX2_lowOfLastTold_15 : decode cX2_lowOfLastTold 15 = .ok (.getfield 50, 3) := by decide +kernel
theorem dX2_lowOfLastTold_18 : decode cX2_lowOfLastTold 18 = .ok (.aload_n 0, 1) := by decide +kernel
theorem dX2_lowOfLastTold_19 : decode cX2_lowOfLastTold 19 = .ok (.getfield 56, 3) := by decide +kernel
theorem dX2_lowOfLastTold_22 : decode cX2_lowOfLastTold 22 = .ok (.iload_n 2, 1) := by decide +kernel
theorem dX2_lowOfLastTold_23 : decode cX2_lowOfLastTold 23 = .ok (.iconst 1, 1) := by decide +kernel
theorem dX2_lowOfLastTold_24 : decode cX2_lowOfLastTold 24 = .ok (.isub, 1) := by decide +kernel
theorem dX2_lowOfLastTold_25 : decode cX2_lowOfLastTold 25 = .ok (.invokestatic 76, 3) := by decide +kernel
theorem dX2_lowOfLastTold_28 : decode cX2_lowOfLastTold 28 = .ok (.invokestatic 76, 3) := by decide +kernel
theorem dX2_lowOfLastTold_31 : decode cX2_lowOfLastTold 31 = .ok (.ireturn, 1) := by decide +kernel
theorem dX2_toldNotWanted_0 : decode cX2_toldNotWanted 0 = .ok (.iconst 0, 1) := by decide +kernel
theorem dX2_toldNotWanted_1 : decode cX2_toldNotWanted 1 = .ok (.istore_n 2, 1) := by decide +kernel
theorem dX2_toldNotWanted_2 : decode cX2_toldNotWanted 2 = .ok (.aload_n 0, 1) := by decide +kernel
theorem dX2_toldNotWanted_3 : decode cX2_toldNotWanted 3 = .ok (.aload_n 1, 1) := by decide +kernel
theorem dX2_toldNotWanted_4 : decode cX2_toldNotWanted 4 = .ok (.invokevirtual 183, 3) := by decide +kernel
theorem dX2_toldNotWanted_7 : decode cX2_toldNotWanted 7 = .ok (.istore_n 3, 1) := by decide +kernel
theorem dX2_toldNotWanted_8 : decode cX2_toldNotWanted 8 = .ok (.iconst 0, 1) := by decide +kernel
theorem dX2_toldNotWanted_9 : decode cX2_toldNotWanted 9 = .ok (.istore 4, 2) := by decide +kernel
theorem dX2_toldNotWanted_11 : decode cX2_toldNotWanted 11 = .ok (.iload 4, 2) := by decide +kernel
theorem dX2_toldNotWanted_13 : decode cX2_toldNotWanted 13 = .ok (.iload_n 3, 1) := by decide +kernel
theorem dX2_toldNotWanted_14 : decode cX2_toldNotWanted 14 = .ok (.if_icmp .ge 38, 3) := by decide +kernel
theorem dX2_toldNotWanted_17 : decode cX2_toldNotWanted 17 = .ok (.iload_n 2, 1) := by decide +kernel
theorem dX2_toldNotWanted_18 : decode cX2_toldNotWanted 18 = .ok (.aload_n 1, 1) := by decide +kernel
theorem dX2_toldNotWanted_19 : decode cX2_toldNotWanted 19 = .ok (.aload_n 0, 1) := by decide +kernel
theorem dX2_toldNotWanted_20 : decode cX2_toldNotWanted 20 = .ok (.getfield 56, 3) := by decide +kernel
theorem dX2_toldNotWanted_23 : decode cX2_toldNotWanted 23 = .ok (.iload 4, 2) := by decide +kernel
theorem dX2_toldNotWanted_25 : decode cX2_toldNotWanted 25 = .ok (.invokestatic 76, 3) := by decide +kernel
theorem dX2_toldNotWanted_28 : decode cX2_toldNotWanted 28 = .ok (.invokevirtual 186, 3) := by decide +kernel
theorem dX2_toldNotWanted_31 : decode cX2_toldNotWanted 31 = .ok (.bipush (-5), 2) := by decide +kernel
theorem dX2_toldNotWanted_33 : decode cX2_toldNotWanted 33 = .ok (.if_icmp .ne 7, 3) := by decide +kernel
theorem dX2_toldNotWanted_36 : decode cX2_toldNotWanted 36 = .ok (.iconst 1, 1) := by decide +kernel
theorem dX2_toldNotWanted_37 : decode cX2_toldNotWanted 37 = .ok (.goto 4, 3) := by decide +kernel
theorem dX2_toldNotWanted_40 : decode cX2_toldNotWanted 40 = .ok (.iconst 0, 1) := by decide +kernel
theorem dX2_toldNotWanted_41 : decode cX2_toldNotWanted 41 = .ok (.invokestatic 176, 3) := by decide +kernel
theorem dX2_toldNotWanted_44 : decode cX2_toldNotWanted 44 = .ok (.iadd, 1) := by decide +kernel
theorem dX2_toldNotWanted_45 : decode cX2_toldNotWanted 45 = .ok (.istore_n 2, 1) := by decide +kernel
theorem dX2_toldNotWanted_46 : decode cX2_toldNotWanted 46 = .ok (.iinc 4 1, 3) := by decide +kernel
theorem dX2_toldNotWanted_49 : decode cX2_toldNotWanted 49 = .ok (.goto (-38), 3) := by decide +kernel
theorem dX2_toldNotWanted_52 : decode cX2_toldNotWanted 52 = .ok (.iload_n 2, 1) := by decide +kernel
theorem dX2_toldNotWanted_53 : decode cX2_toldNotWanted 53 = .ok (.ireturn, 1) := by decide +kernel
theorem dX2_isCaught_0 : decode cX2_isCaught 0 = .ok (.aload_n 0, 1) := by decide +kernel
theorem dX2_isCaught_1 : decode cX2_isCaught 1 = .ok (.getfield 31, 3) := by decide +kernel
theorem dX2_isCaught_4 : decode cX2_isCaught 4 = .ok (.iload_n 1, 1) := by decide +kernel
theorem dX2_isCaught_5 : decode cX2_isCaught 5 = .ok (.ishr, 1) := by decide +kernel
theorem dX2_isCaught_6 : decode cX2_isCaught 6 = .ok (.iconst 1, 1) := by decide +kernel
theorem dX2_isCaught_7 : decode cX2_isCaught 7 = .ok (.iand, 1) := by decide +kernel
theorem dX2_isCaught_8 : decode cX2_isCaught 8 = .ok (.iconst 1, 1) := by decide +kernel
theorem dX2_isCaught_9 : decode cX2_isCaught 9 = .ok (.if_icmp .ne 7, 3) := by decide +kernel
theorem dX2_isCaught_12 : decode cX2_isCaught 12 = .ok (.iconst 1, 1) := by decide +kernel
theorem dX2_isCaught_13 : decode cX2_isCaught 13 = .ok (.goto 4, 3) := by decide +kernel
theorem dX2_isCaught_16 : decode cX2_isCaught 16 = .ok (.iconst 0, 1) := by decide +kernel
theorem dX2_isCaught_17 : decode cX2_isCaught 17 = .ok (.ireturn, 1) := by decide +kernel
theorem dX2_caughtSize_0 : decode cX2_caughtSize 0 = .ok (.aload_n 0, 1) := by decide +kernel
theorem dX2_caughtSize_1 : decode cX2_caughtSize 1 = .ok (.getfield 31, 3) := by decide +kernel
theorem dX2_caughtSize_4 : decode cX2_caughtSize 4 = .ok (.invokestatic 189, 3) := by decide +kernel
theorem dX2_caughtSize_7 : decode cX2_caughtSize 7 = .ok (.ireturn, 1) := by decide +kernel
theorem dX2_tellingLess_0 : decode cX2_tellingLess 0 = .ok (.iconst 0, 1) := by decide +kernel
theorem dX2_tellingLess_1 : decode cX2_tellingLess 1 = .ok (.istore_n 2, 1) := by decide +kernel
theorem dX2_tellingLess_2 : decode cX2_tellingLess 2 = .ok (.iconst 0, 1) := by decide +kernel
theorem dX2_tellingLess_3 : decode cX2_tellingLess 3 = .ok (.istore_n 3, 1) := by decide +kernel
theorem dX2_tellingLess_4 : decode cX2_tellingLess 4 = .ok (.iload_n 3, 1) := by decide +kernel
theorem dX2_tellingLess_5 : decode cX2_tellingLess 5 = .ok (.bipush 6, 2) := by decide +kernel
theorem dX2_tellingLess_7 : decode cX2_tellingLess 7 = .ok (.if_icmp .ge 59, 3) := by decide +kernel
theorem dX2_tellingLess_10 : decode cX2_tellingLess 10 = .ok (.aload_n 0, 1) := by decide +kernel
theorem dX2_tellingLess_11 : decode cX2_tellingLess 11 = .ok (.getfield 44, 3) := by decide +kernel
theorem dX2_tellingLess_14 : decode cX2_tellingLess 14 = .ok (.iload_n 3, 1) := by decide +kernel
theorem dX2_tellingLess_15 : decode cX2_tellingLess 15 = .ok (.invokestatic 76, 3) := by decide +kernel
theorem dX2_tellingLess_18 : decode cX2_tellingLess 18 = .ok (.aload_n 0, 1) := by decide +kernel
theorem dX2_tellingLess_19 : decode cX2_tellingLess 19 = .ok (.getfield 41, 3) := by decide +kernel
theorem dX2_tellingLess_22 : decode cX2_tellingLess 22 = .ok (.iload_n 3, 1) := by decide +kernel
theorem dX2_tellingLess_23 : decode cX2_tellingLess 23 = .ok (.invokestatic 76, 3) := by decide +kernel
theorem dX2_tellingLess_26 : decode cX2_tellingLess 26 = .ok (.if_icmp .ge 7, 3) := by decide +kernel
theorem dX2_tellingLess_29 : decode cX2_tellingLess 29 = .ok (.iconst 1, 1) := by decide +kernel
theorem dX2_tellingLess_30 : decode cX2_tellingLess 30 = .ok (.goto 4, 3) := by decide +kernel
theorem dX2_tellingLess_33 : decode cX2_tellingLess 33 = .ok (.iconst 0, 1) := by decide +kernel
theorem dX2_tellingLess_34 : decode cX2_tellingLess 34 = .ok (.istore 4, 2) := by decide +kernel
theorem dX2_tellingLess_36 : decode cX2_tellingLess 36 = .ok (.iload_n 2, 1) := by decide +kernel
theorem dX2_tellingLess_37 : decode cX2_tellingLess 37 = .ok (.aload_n 1, 1) := by decide +kernel
theorem dX2_tellingLess_38 : decode cX2_tellingLess 38 = .ok (.iload_n 3, 1) := by decide +kernel
theorem dX2_tellingLess_39 : decode cX2_tellingLess 39 = .ok (.invokevirtual 132, 3) := by decide +kernel
theorem dX2_tellingLess_42 : decode cX2_tellingLess 42 = .ok (.ifCond .eq 12, 3) := by decide +kernel
theorem dX2_tellingLess_45 : decode cX2_tellingLess 45 = .ok (.iload 4, 2) := by decide +kernel
theorem dX2_tellingLess_47 : decode cX2_tellingLess 47 = .ok (.ifCond .eq 7, 3) := by decide +kernel
theorem dX2_tellingLess_50 : decode cX2_tellingLess 50 = .ok (.iconst 1, 1) := by decide +kernel
theorem dX2_tellingLess_51 : decode cX2_tellingLess 51 = .ok (.goto 4, 3) := by decide +kernel
theorem dX2_tellingLess_54 : decode cX2_tellingLess 54 = .ok (.iconst 0, 1) := by decide +kernel
theorem dX2_tellingLess_55 : decode cX2_tellingLess 55 = .ok (.invokestatic 176, 3) := by decide +kernel
theorem dX2_tellingLess_58 : decode cX2_tellingLess 58 = .ok (.iadd, 1) := by decide +kernel
theorem dX2_tellingLess_59 : decode cX2_tellingLess 59 = .ok (.istore_n 2, 1) := by decide +kernel
theorem dX2_tellingLess_60 : decode cX2_tellingLess 60 = .ok (.iinc 3 1, 3) := by decide +kernel
theorem dX2_tellingLess_63 : decode cX2_tellingLess 63 = .ok (.goto (-59), 3) := by decide +kernel
theorem dX2_tellingLess_66 : decode cX2_tellingLess 66 = .ok (.iload_n 2, 1) := by decide +kernel
theorem dX2_tellingLess_67 : decode cX2_tellingLess 67 = .ok (.ireturn, 1) := by decide +kernel
theorem dX2_allLookUps_0 : decode cX2_allLookUps 0 = .ok (.iconst 0, 1) := by decide +kernel
theorem dX2_allLookUps_1 : decode cX2_allLookUps 1 = .ok (.istore_n 1, 1) := by decide +kernel
theorem dX2_allLookUps_2 : decode cX2_allLookUps 2 = .ok (.iconst 0, 1) := by decide +kernel
theorem dX2_allLookUps_3 : decode cX2_allLookUps 3 = .ok (.istore_n 2, 1) := by decide +kernel
theorem dX2_allLookUps_4 : decode cX2_allLookUps 4 = .ok (.iload_n 2, 1) := by decide +kernel
theorem dX2_allLookUps_5 : decode cX2_allLookUps 5 = .ok (.bipush 6, 2) := by decide +kernel
theorem dX2_allLookUps_7 : decode cX2_allLookUps 7 = .ok (.if_icmp .ge 20, 3) := by decide +kernel
theorem dX2_allLookUps_10 : decode cX2_allLookUps 10 = .ok (.iload_n 1, 1) := by decide +kernel
theorem dX2_allLookUps_11 : decode cX2_allLookUps 11 = .ok (.aload_n 0, 1) := by decide +kernel
theorem dX2_allLookUps_12 : decode cX2_allLookUps 12 = .ok (.getfield 38, 3) := by decide +kernel
theorem dX2_allLookUps_15 : decode cX2_allLookUps 15 = .ok (.iload_n 2, 1) := by decide +kernel
theorem dX2_allLookUps_16 : decode cX2_allLookUps 16 = .ok (.invokestatic 76, 3) := by decide +kernel
theorem dX2_allLookUps_19 : decode cX2_allLookUps 19 = .ok (.iadd, 1) := by decide +kernel
theorem dX2_allLookUps_20 : decode cX2_allLookUps 20 = .ok (.istore_n 1, 1) := by decide +kernel
theorem dX2_allLookUps_21 : decode cX2_allLookUps 21 = .ok (.iinc 2 1, 3) := by decide +kernel
theorem dX2_allLookUps_24 : decode cX2_allLookUps 24 = .ok (.goto (-20), 3) := by decide +kernel
theorem dX2_allLookUps_27 : decode cX2_allLookUps 27 = .ok (.iload_n 1, 1) := by decide +kernel
theorem dX2_allLookUps_28 : decode cX2_allLookUps 28 = .ok (.ireturn, 1) := by decide +kernel
theorem dX2_cost_0 : decode cX2_cost 0 = .ok (.aload_n 0, 1) := by decide +kernel
theorem dX2_cost_1 : decode cX2_cost 1 = .ok (.getfield 25, 3) := by decide +kernel
theorem dX2_cost_4 : decode cX2_cost 4 = .ok (.iconst 3, 1) := by decide +kernel
theorem dX2_cost_5 : decode cX2_cost 5 = .ok (.aload_n 0, 1) := by decide +kernel
theorem dX2_cost_6 : decode cX2_cost 6 = .ok (.invokevirtual 194, 3) := by decide +kernel
theorem dX2_cost_9 : decode cX2_cost 9 = .ok (.imul, 1) := by decide +kernel
theorem dX2_cost_10 : decode cX2_cost 10 = .ok (.iadd, 1) := by decide +kernel
theorem dX2_cost_11 : decode cX2_cost 11 = .ok (.ireturn, 1) := by decide +kernel
theorem dX3_init_0 : decode cX3_init 0 = .ok (.aload_n 0, 1) := by decide +kernel
theorem dX3_init_1 : decode cX3_init 1 = .ok (.invokespecial 1, 3) := by decide +kernel
theorem dX3_init_4 : decode cX3_init 4 = .ok (.aload_n 0, 1) := by decide +kernel
theorem dX3_init_5 : decode cX3_init 5 = .ok (.new 7, 3) := by decide +kernel
theorem dX3_init_8 : decode cX3_init 8 = .ok (.dup, 1) := by decide +kernel
theorem dX3_init_9 : decode cX3_init 9 = .ok (.invokespecial 9, 3) := by decide +kernel
theorem dX3_init_12 : decode cX3_init 12 = .ok (.putfield 10, 3) := by decide +kernel
theorem dX3_init_15 : decode cX3_init 15 = .ok (.aload_n 0, 1) := by decide +kernel
theorem dX3_init_16 : decode cX3_init 16 = .ok (.new 16, 3) := by decide +kernel
theorem dX3_init_19 : decode cX3_init 19 = .ok (.dup, 1) := by decide +kernel
theorem dX3_init_20 : decode cX3_init 20 = .ok (.invokespecial 18, 3) := by decide +kernel
theorem dX3_init_23 : decode cX3_init 23 = .ok (.putfield 19, 3) := by decide +kernel
theorem dX3_init_26 : decode cX3_init 26 = .ok (.aload_n 0, 1) := by decide +kernel
theorem dX3_init_27 : decode cX3_init 27 = .ok (.iconst 0, 1) := by decide +kernel
theorem dX3_init_28 : decode cX3_init 28 = .ok (.putfield 23, 3) := by decide +kernel
theorem dX3_init_31 : decode cX3_init 31 = .ok (.aload_n 0, 1) := by decide +kernel
theorem dX3_init_32 : decode cX3_init 32 = .ok (.iconst 0, 1) := by decide +kernel
theorem dX3_init_33 : decode cX3_init 33 = .ok (.putfield 27, 3) := by decide +kernel
theorem dX3_init_36 : decode cX3_init 36 = .ok (.return_, 1) := by decide +kernel
theorem dX3_copyFrom_0 : decode cX3_copyFrom 0 = .ok (.aload_n 0, 1) := by decide +kernel
theorem dX3_copyFrom_1 : decode cX3_copyFrom 1 = .ok (.getfield 10, 3) := by decide +kernel
theorem dX3_copyFrom_4 : decode cX3_copyFrom 4 = .ok (.aload_n 1, 1) := by decide +kernel
theorem dX3_copyFrom_5 : decode cX3_copyFrom 5 = .ok (.getfield 10, 3) := by decide +kernel
theorem dX3_copyFrom_8 : decode cX3_copyFrom 8 = .ok (.invokevirtual 30, 3) := by decide +kernel
theorem dX3_copyFrom_11 : decode cX3_copyFrom 11 = .ok (.aload_n 0, 1) := by decide +kernel
theorem dX3_copyFrom_12 : decode cX3_copyFrom 12 = .ok (.getfield 19, 3) := by decide +kernel
theorem dX3_copyFrom_15 : decode cX3_copyFrom 15 = .ok (.aload_n 1, 1) := by decide +kernel
theorem dX3_copyFrom_16 : decode cX3_copyFrom 16 = .ok (.getfield 19, 3) := by decide +kernel
theorem dX3_copyFrom_19 : decode cX3_copyFrom 19 = .ok (.invokevirtual 34, 3) := by decide +kernel
theorem dX3_copyFrom_22 : decode cX3_copyFrom 22 = .ok (.aload_n 0, 1) := by decide +kernel
theorem dX3_copyFrom_23 : decode cX3_copyFrom 23 = .ok (.aload_n 1, 1) := by decide +kernel
theorem dX3_copyFrom_24 : decode cX3_copyFrom 24 = .ok (.getfield 23, 3) := by decide +kernel
theorem dX3_copyFrom_27 : decode cX3_copyFrom 27 = .ok (.putfield 23, 3) := by decide +kernel
theorem dX3_copyFrom_30 : decode cX3_copyFrom 30 = .ok (.aload_n 0, 1) := by decide +kernel
theorem dX3_copyFrom_31 : decode cX3_copyFrom 31 = .ok (.aload_n 1, 1) := by decide +kernel
theorem dX3_copyFrom_32 : decode cX3_copyFrom 32 = .ok (.getfield 27, 3) := by decide +kernel
theorem dX3_copyFrom_35 : decode cX3_copyFrom 35 = .ok (.putfield 27, 3) := by decide +kernel
theorem dX3_copyFrom_38 : decode cX3_copyFrom 38 = .ok (.return_, 1) := by decide +kernel
theorem dX4_init_0 : decode cX4_init 0 = .ok (.aload_n 0, 1) := by decide +kernel
theorem dX4_init_1 : decode cX4_init 1 = .ok (.invokespecial 3, 3) := by decide +kernel
theorem dX4_init_4 : decode cX4_init 4 = .ok (.aload_n 0, 1) := by decide +kernel
theorem dX4_init_5 : decode cX4_init 5 = .ok (.bipush 40, 2) := by decide +kernel
theorem dX4_init_7 : decode cX4_init 7 = .ok (.newarray .char, 2) := by decide +kernel
theorem dX4_init_9 : decode cX4_init 9 = .ok (.putfield 9, 3) := by decide +kernel
theorem dX4_init_12 : decode cX4_init 12 = .ok (.aload_n 0, 1) := by decide +kernel
theorem dX4_init_13 : decode cX4_init 13 = .ok (.iconst 0, 1) := by decide +kernel
theorem dX4_init_14 : decode cX4_init 14 = .ok (.putfield 15, 3) := by decide +kernel
theorem dX4_init_17 : decode cX4_init 17 = .ok (.aload_n 0, 1) := by decide +kernel
theorem dX4_init_18 : decode cX4_init 18 = .ok (.iconst (-1), 1) := by decide +kernel
theorem dX4_init_19 : decode cX4_init 19 = .ok (.putfield 19, 3) := by decide +kernel
theorem dX4_init_22 : decode cX4_init 22 = .ok (.aload_n 0, 1) := by decide +kernel
theorem dX4_init_23 : decode cX4_init 23 = .ok (.iconst 3, 1) := by decide +kernel
theorem dX4_init_24 : decode cX4_init 24 = .ok (.newarray .int, 2) := by decide +kernel
theorem dX4_init_26 : decode cX4_init 26 = .ok (.putfield 22, 3) := by decide +kernel
theorem dX4_init_29 : decode cX4_init 29 = .ok (.return_, 1) := by decide +kernel
theorem dX4_append_0 : decode cX4_append 0 = .ok (.aload_n 0, 1) := by decide +kernel
theorem dX4_append_1 : decode cX4_append 1 = .ok (.getfield 15, 3) := by decide +kernel
theorem dX4_append_4 : decode cX4_append 4 = .ok (.ifCond .lt 35, 3) := by decide +kernel
theorem dX4_append_7 : decode cX4_append 7 = .ok (.aload_n 0, 1) := by decide +kernel
theorem dX4_append_8 : decode cX4_append 8 = .ok (.getfield 15, 3) := by decide +kernel
theorem dX4_append_11 : decode cX4_append 11 = .ok (.aload_n 0, 1) := by decide +kernel
theorem dX4_append_12 : decode cX4_append 12 = .ok (.getfield 9, 3) := by decide +kernel
theorem dX4_append_15 : decode cX4_append 15 = .ok (.arraylength, 1) := by decide +kernel
theorem dX4_append_16 : decode cX4_append 16 = .ok (.if_icmp .ge 23, 3) := by decide +kernel
theorem dX4_append_19 : decode cX4_append 19 = .ok (.aload_n 0, 1) := by decide +kernel
theorem dX4_append_20 : decode cX4_append 20 = .ok (.getfield 9, 3) := by decide +kernel
theorem dX4_append_23 : decode cX4_append 23 = .ok (.aload_n 0, 1) := by decide +kernel
theorem dX4_append_24 : decode cX4_append 24 = .ok (.getfield 15, 3) := by decide +kernel
theorem dX4_append_27 : decode cX4_append 27 = .ok (.iload_n 1, 1) := by decide +kernel
theorem dX4_append_28 : decode cX4_append 28 = .ok (.castore, 1) := by decide +kernel
theorem dX4_append_29 : decode cX4_append 29 = .ok (.aload_n 0, 1) := by decide +kernel
theorem dX4_append_30 : decode cX4_append 30 = .ok (.dup, 1) := by decide +kernel
theorem dX4_append_31 : decode cX4_append 31 = .ok (.getfield 15, 3) := by decide +kernel
theorem dX4_append_34 : decode cX4_append 34 = .ok (.iconst 1, 1) := by decide +kernel
theorem dX4_append_35 : decode cX4_append 35 = .ok (.iadd, 1) := by decide +kernel
theorem dX4_append_36 : decode cX4_append 36 = .ok (.putfield 15, 3) := by decide +kernel
theorem dX4_append_39 : decode cX4_append 39 = .ok (.return_, 1) := by decide +kernel
theorem dX4_signAt_0 : decode cX4_signAt 0 = .ok (.iload_n 1, 1) := by decide +kernel
theorem dX4_signAt_1 : decode cX4_signAt 1 = .ok (.ifCond .lt 29, 3) := by decide +kernel
theorem dX4_signAt_4 : decode cX4_signAt 4 = .ok (.iload_n 1, 1) := by decide +kernel
theorem dX4_signAt_5 : decode cX4_signAt 5 = .ok (.aload_n 0, 1) := by decide +kernel
theorem dX4_signAt_6 : decode cX4_signAt 6 = .ok (.getfield 15, 3) := by decide +kernel
theorem dX4_signAt_9 : decode cX4_signAt 9 = .ok (.if_icmp .ge 21, 3) := by decide +kernel
theorem dX4_signAt_12 : decode cX4_signAt 12 = .ok (.iload_n 1, 1) := by decide +kernel
theorem dX4_signAt_13 : decode cX4_signAt 13 = .ok (.aload_n 0, 1) := by decide +kernel
theorem dX4_signAt_14 : decode cX4_signAt 14 = .ok (.getfield 9, 3) := by decide +kernel
theorem dX4_signAt_17 : decode cX4_signAt 17 = .ok (.arraylength, 1) := by decide +kernel
theorem dX4_signAt_18 : decode cX4_signAt 18 = .ok (.if_icmp .ge 12, 3) := by decide +kernel
theorem dX4_signAt_21 : decode cX4_signAt 21 = .ok (.aload_n 0, 1) := by decide +kernel
theorem dX4_signAt_22 : decode cX4_signAt 22 = .ok (.getfield 9, 3) := by decide +kernel
theorem dX4_signAt_25 : decode cX4_signAt 25 = .ok (.iload_n 1, 1) := by decide +kernel
theorem dX4_signAt_26 : decode cX4_signAt 26 = .ok (.caload, 1) := by decide +kernel
theorem dX4_signAt_27 : decode cX4_signAt 27 = .ok (.goto 4, 3) := by decide +kernel
theorem dX4_signAt_30 : decode cX4_signAt 30 = .ok (.iconst 0, 1) := by decide +kernel
theorem dX4_signAt_31 : decode cX4_signAt 31 = .ok (.ireturn, 1) := by decide +kernel
theorem dX4_readCommand_0 : decode cX4_readCommand 0 = .ok (.aload_n 0, 1) := by decide +kernel
theorem dX4_readCommand_1 : decode cX4_readCommand 1 = .ok (.invokevirtual 26, 3) := by decide +kernel
theorem dX4_readCommand_4 : decode cX4_readCommand 4 = .ok (.istore_n 1, 1) := by decide +kernel
theorem dX4_readCommand_5 : decode cX4_readCommand 5 = .ok (.aload_n 0, 1) := by decide +kernel
theorem dX4_readCommand_6 : decode cX4_readCommand 6 = .ok (.aload_n 0, 1) := by decide +kernel
theorem dX4_readCommand_7 : decode cX4_readCommand 7 = .ok (.iload_n 1, 1) := by decide +kernel
theorem dX4_readCommand_8 : decode cX4_readCommand 8 = .ok (.invokevirtual 30, 3) := by decide +kernel
theorem dX4_readCommand_11 : decode cX4_readCommand 11 = .ok (.putfield 19, 3) := by decide +kernel
theorem dX4_readCommand_14 : decode cX4_readCommand 14 = .ok (.aload_n 0, 1) := by decide +kernel
theorem dX4_readCommand_15 : decode cX4_readCommand 15 = .ok (.getfield 19, 3) := by decide +kernel
theorem dX4_readCommand_18 : decode cX4_readCommand 18 = .ok (.iconst (-1), 1) := by decide +kernel
theorem dX4_readCommand_19 : decode cX4_readCommand 19 = .ok (.if_icmp .ne 5, 3) := by decide +kernel
theorem dX4_readCommand_22 : decode cX4_readCommand 22 = .ok (.iconst 0, 1) := by decide +kernel
theorem dX4_readCommand_23 : decode cX4_readCommand 23 = .ok (.ireturn, 1) := by decide +kernel
theorem dX4_readCommand_24 : decode cX4_readCommand 24 = .ok (.aload_n 0, 1) := by decide +kernel
theorem dX4_readCommand_25 : decode cX4_readCommand 25 = .ok (.getfield 19, 3) := by decide +kernel
theorem dX4_readCommand_28 : decode cX4_readCommand 28 = .ok (.invokestatic 34, 3) := by decide +kernel
theorem dX4_readCommand_31 : decode cX4_readCommand 31 = .ok (.istore_n 2, 1) := by decide +kernel
theorem dX4_readCommand_32 : decode cX4_readCommand 32 = .ok (.iconst 0, 1) := by decide +kernel
theorem dX4_readCommand_33 : decode cX4_readCommand 33 = .ok (.istore_n 3, 1) := by decide +kernel
theorem dX4_readCommand_34 : decode cX4_readCommand 34 = .ok (.iload_n 3, 1) := by decide +kernel
theorem dX4_readCommand_35 : decode cX4_readCommand 35 = .ok (.iload_n 2, 1) := by decide +kernel
theorem dX4_readCommand_36 : decode cX4_readCommand 36 = .ok (.if_icmp .ge 58, 3) := by decide +kernel
theorem dX4_readCommand_39 : decode cX4_readCommand 39 = .ok (.aload_n 0, 1) := by decide +kernel
theorem dX4_readCommand_40 : decode cX4_readCommand 40 = .ok (.iload_n 1, 1) := by decide +kernel
theorem dX4_readCommand_41 : decode cX4_readCommand 41 = .ok (.invokevirtual 37, 3) := by decide +kernel
theorem dX4_readCommand_44 : decode cX4_readCommand 44 = .ok (.bipush 32, 2) := by decide +kernel
theorem dX4_readCommand_46 : decode cX4_readCommand 46 = .ok (.if_icmp .eq 5, 3) := by decide +kernel
theorem dX4_readCommand_49 : decode cX4_readCommand 49 = .ok (.iload_n 1, 1) := by decide +kernel
theorem dX4_readCommand_50 : decode cX4_readCommand 50 = .ok (.ireturn, 1) := by decide +kernel
theorem dX4_readCommand_51 : decode cX4_readCommand 51 = .ok (.iinc 1 1, 3) := by decide +kernel
theorem dX4_readCommand_54 : decode cX4_readCommand 54 = .ok (.aload_n 0, 1) := by decide +kernel
theorem dX4_readCommand_55 : decode cX4_readCommand 55 = .ok (.iload_n 1, 1) := by decide +kernel
theorem dX4_readCommand_56 : decode cX4_readCommand 56 = .ok (.invokevirtual 41, 3) := by decide +kernel
theorem dX4_readCommand_59 : decode cX4_readCommand 59 = .ok (.istore 4, 2) := by decide +kernel
theorem dX4_readCommand_61 : decode cX4_readCommand 61 = .ok (.iload 4, 2) := by decide +kernel
theorem dX4_readCommand_63 : decode cX4_readCommand 63 = .ok (.ifCond .ne 5, 3) := by decide +kernel
theorem dX4_readCommand_66 : decode cX4_readCommand 66 = .ok (.iload_n 1, 1) := by decide +kernel
theorem dX4_readCommand_67 : decode cX4_readCommand 67 = .ok (.ireturn, 1) := by decide +kernel
theorem dX4_readCommand_68 : decode cX4_readCommand 68 = .ok (.aload_n 0, 1) := by decide +kernel
theorem dX4_readCommand_69 : decode cX4_readCommand 69 = .ok (.getfield 22, 3) := by decide +kernel
theorem dX4_readCommand_72 : decode cX4_readCommand 72 = .ok (.iload_n 3, 1) := by decide +kernel
theorem dX4_readCommand_73 : decode cX4_readCommand 73 = .ok (.aload_n 0, 1) := by decide +kernel
theorem dX4_readCommand_74 : decode cX4_readCommand 74 = .ok (.iload_n 1, 1) := by decide +kernel
theorem dX4_readCommand_75 : decode cX4_readCommand 75 = .ok (.iload 4, 2) := by decide +kernel
theorem dX4_readCommand_77 : decode cX4_readCommand 77 = .ok (.invokevirtual 44, 3) := by decide +kernel
theorem dX4_readCommand_80 : decode cX4_readCommand 80 = .ok (.invokestatic 48, 3) := by decide +kernel
theorem dX4_readCommand_83 : decode cX4_readCommand 83 = .ok (.iload_n 1, 1) := by decide +kernel
theorem dX4_readCommand_84 : decode cX4_readCommand 84 = .ok (.iload 4, 2) := by decide +kernel
theorem dX4_readCommand_86 : decode cX4_readCommand 86 = .ok (.iadd, 1) := by decide +kernel
theorem dX4_readCommand_87 : decode cX4_readCommand 87 = .ok (.istore_n 1, 1) := by decide +kernel
theorem dX4_readCommand_88 : decode cX4_readCommand 88 = .ok (.iinc 3 1, 3) := by decide +kernel
theorem dX4_readCommand_91 : decode cX4_readCommand 91 = .ok (.goto (-57), 3) := by decide +kernel
theorem dX4_readCommand_94 : decode cX4_readCommand 94 = .ok (.iload_n 1, 1) := by decide +kernel
theorem dX4_readCommand_95 : decode cX4_readCommand 95 = .ok (.aload_n 0, 1) := by decide +kernel
theorem dX4_readCommand_96 : decode cX4_readCommand 96 = .ok (.getfield 15, 3) := by decide +kernel
theorem dX4_readCommand_99 : decode cX4_readCommand 99 = .ok (.if_icmp .ge 7, 3) := by decide +kernel
theorem dX4_readCommand_102 : decode cX4_readCommand 102 = .ok (.iload_n 1, 1) := by decide +kernel
theorem dX4_readCommand_103 : decode cX4_readCommand 103 = .ok (.goto 4, 3) := by decide +kernel
theorem dX4_readCommand_106 : decode cX4_readCommand 106 = .ok (.iconst (-1), 1) := by decide +kernel
theorem dX4_readCommand_107 : decode cX4_readCommand 107 = .ok (.ireturn, 1) := by decide +kernel
theorem dX4_wordLength_0 : decode cX4_wordLength 0 = .ok (.iconst 0, 1) := by decide +kernel
theorem dX4_wordLength_1 : decode cX4_wordLength 1 = .ok (.istore_n 1, 1) := by decide +kernel
theorem dX4_wordLength_2 : decode cX4_wordLength 2 = .ok (.iload_n 1, 1) := by decide +kernel
theorem dX4_wordLength_3 : decode cX4_wordLength 3 = .ok (.aload_n 0, 1) := by decide +kernel
theorem dX4_wordLength_4 : decode cX4_wordLength 4 = .ok (.getfield 15, 3) := by decide +kernel
theorem dX4_wordLength_7 : decode cX4_wordLength 7 = .ok (.if_icmp .ge 29, 3) := by decide +kernel
theorem dX4_wordLength_10 : decode cX4_wordLength 10 = .ok (.aload_n 0, 1) := by decide +kernel
theorem dX4_wordLength_11 : decode cX4_wordLength 11 = .ok (.iload_n 1, 1) := by decide +kernel
theorem dX4_wordLength_12 : decode cX4_wordLength 12 = .ok (.invokevirtual 37, 3) := by decide +kernel
theorem dX4_wordLength_15 : decode cX4_wordLength 15 = .ok (.bipush 97, 2) := by decide +kernel
theorem dX4_wordLength_17 : decode cX4_wordLength 17 = .ok (.if_icmp .lt 19, 3) := by decide +kernel
theorem dX4_wordLength_20 : decode cX4_wordLength 20 = .ok (.aload_n 0, 1) := by decide +kernel
theorem dX4_wordLength_21 : decode cX4_wordLength 21 = .ok (.iload_n 1, 1) := by decide +kernel
theorem dX4_wordLength_22 : decode cX4_wordLength 22 = .ok (.invokevirtual 37, 3) := by decide +kernel
theorem dX4_wordLength_25 : decode cX4_wordLength 25 = .ok (.bipush 122, 2) := by decide +kernel
theorem dX4_wordLength_27 : decode cX4_wordLength 27 = .ok (.if_icmp .gt 9, 3) := by decide +kernel
theorem dX4_wordLength_30 : decode cX4_wordLength 30 = .ok (.iinc 1 1, 3) := by decide +kernel
theorem dX4_wordLength_33 : decode cX4_wordLength 33 = .ok (.goto (-31), 3) := by decide +kernel
theorem dX4_wordLength_36 : decode cX4_wordLength 36 = .ok (.iload_n 1, 1) := by decide +kernel
theorem dX4_wordLength_37 : decode cX4_wordLength 37 = .ok (.ireturn, 1) := by decide +kernel
theorem dX4_commandOfWord_0 : decode cX4_commandOfWord 0 = .ok (.iconst 0, 1) := by decide +kernel
theorem dX4_commandOfWord_1 : decode cX4_commandOfWord 1 = .ok (.istore_n 2, 1) := by decide +kernel
theorem dX4_commandOfWord_2 : decode cX4_commandOfWord 2 = .ok (.iload_n 2, 1) := by decide +kernel
theorem dX4_commandOfWord_3 : decode cX4_commandOfWord 3 = .ok (.bipush 7, 2) := by decide +kernel
theorem dX4_commandOfWord_5 : decode cX4_commandOfWord 5 = .ok (.if_icmp .ge 23, 3) := by decide +kernel
theorem dX4_commandOfWord_8 : decode cX4_commandOfWord 8 = .ok (.aload_n 0, 1) := by decide +kernel
theorem dX4_commandOfWord_9 : decode cX4_commandOfWord 9 = .ok (.iload_n 2, 1) := by decide +kernel
theorem dX4_commandOfWord_10 : decode cX4_commandOfWord 10 = .ok (.invokestatic 52, 3) := by decide +kernel
theorem dX4_commandOfWord_13 : decode cX4_commandOfWord 13 = .ok (.iload_n 1, 1) := by decide +kernel
theorem dX4_commandOfWord_14 : decode cX4_commandOfWord 14 = .ok (.invokevirtual 56, 3) := by decide +kernel
theorem dX4_commandOfWord_17 : decode cX4_commandOfWord 17 = .ok (.ifCond .eq 5, 3) := by decide +kernel
theorem dX4_commandOfWord_20 : decode cX4_commandOfWord 20 = .ok (.iload_n 2, 1) := by decide +kernel
theorem dX4_commandOfWord_21 : decode cX4_commandOfWord 21 = .ok (.ireturn, 1) := by decide +kernel
theorem dX4_commandOfWord_22 : decode cX4_commandOfWord 22 = .ok (.iinc 2 1, 3) := by decide +kernel
theorem dX4_commandOfWord_25 : decode cX4_commandOfWord 25 = .ok (.goto (-23), 3) := by decide +kernel
theorem dX4_commandOfWord_28 : decode cX4_commandOfWord 28 = .ok (.iconst (-1), 1) := by decide +kernel
theorem dX4_commandOfWord_29 : decode cX4_commandOfWord 29 = .ok (.ireturn, 1) := by decide +kernel
theorem dX4_isWord_0 : decode cX4_isWord 0 = .ok (.aload_n 1, 1) := by decide +kernel
theorem dX4_isWord_1 : decode cX4_isWord 1 = .ok (.invokevirtual 60, 3) := by decide +kernel
theorem dX4_isWord_4 : decode cX4_isWord 4 = .ok (.iload_n 2, 1) := by decide +kernel
theorem dX4_isWord_5 : decode cX4_isWord 5 = .ok (.if_icmp .eq 5, 3) := by decide +kernel
theorem dX4_isWord_8 : decode cX4_isWord 8 = .ok (.iconst 0, 1) := by decide +kernel
theorem dX4_isWord_9 : decode cX4_isWord 9 = .ok (.ireturn, 1) := by decide +kernel
theorem dX4_isWord_10 : decode cX4_isWord 10 = .ok (.iconst 0, 1) := by decide +kernel
theorem dX4_isWord_11 : decode cX4_isWord 11 = .ok (.istore_n 3, 1) := by decide +kernel
theorem dX4_isWord_12 : decode cX4_isWord 12 = .ok (.iload_n 3, 1) := by decide +kernel
theorem dX4_isWord_13 : decode cX4_isWord 13 = .ok (.aload_n 1, 1) := by decide +kernel
theorem dX4_isWord_14 : decode cX4_isWord 14 = .ok (.invokevirtual 60, 3) := by decide +kernel
theorem dX4_isWord_17 : decode cX4_isWord 17 = .ok (.if_icmp .ge 24, 3) := by decide +kernel
theorem dX4_isWord_20 : decode cX4_isWord 20 = .ok (.aload_n 1, 1) := by decide +kernel
theorem dX4_isWord_21 : decode cX4_isWord 21 = .ok (.iload_n 3, 1) := by decide +kernel
theorem dX4_isWord_22 : decode cX4_isWord 22 = .ok (.invokevirtual 64, 3) := by decide +kernel
theorem dX4_isWord_25 : decode cX4_isWord 25 = .ok (.aload_n 0, 1) := by decide +kernel
theorem dX4_isWord_26 : decode cX4_isWord 26 = .ok (.iload_n 3, 1) := by decide +kernel
theorem dX4_isWord_27 : decode cX4_isWord 27 = .ok (.invokevirtual 37, 3) := by decide +kernel
theorem dX4_isWord_30 : decode cX4_isWord 30 = .ok (.if_icmp .eq 5, 3) := by decide +kernel
theorem dX4_isWord_33 : decode cX4_isWord 33 = .ok (.iconst 0, 1) := by decide +kernel
theorem dX4_isWord_34 : decode cX4_isWord 34 = .ok (.ireturn, 1) := by decide +kernel
theorem dX4_isWord_35 : decode cX4_isWord 35 = .ok (.iinc 3 1, 3) := by decide +kernel
theorem dX4_isWord_38 : decode cX4_isWord 38 = .ok (.goto (-26), 3) := by decide +kernel
theorem dX4_isWord_41 : decode cX4_isWord 41 = .ok (.iconst 1, 1) := by decide +kernel
theorem dX4_isWord_42 : decode cX4_isWord 42 = .ok (.ireturn, 1) := by decide +kernel
theorem dX4_wordOf_0 : decode cX4_wordOf 0 = .ok (.iload_n 0, 1) := by decide +kernel
theorem dX4_wordOf_1 : decode cX4_wordOf 1 = .ok (.tableswitch 57 0 5 #[39, 42, 45, 48, 51, 54], 39) := by decide +kernel
theorem dX4_wordOf_40 : decode cX4_wordOf 40 = .ok (.ldc 67, 2) := by decide +kernel
theorem dX4_wordOf_42 : decode cX4_wordOf 42 = .ok (.areturn, 1) := by decide +kernel
theorem dX4_wordOf_43 : decode cX4_wordOf 43 = .ok (.ldc 69, 2) := by decide +kernel
theorem dX4_wordOf_45 : decode cX4_wordOf 45 = .ok (.areturn, 1) := by decide +kernel
theorem dX4_wordOf_46 : decode cX4_wordOf 46 = .ok (.ldc 71, 2) := by decide +kernel
theorem dX4_wordOf_48 : decode cX4_wordOf 48 = .ok (.areturn, 1) := by decide +kernel
theorem dX4_wordOf_49 : decode cX4_wordOf 49 = .ok (.ldc 73, 2) := by decide +kernel
theorem dX4_wordOf_51 : decode cX4_wordOf 51 = .ok (.areturn, 1) := by decide +kernel
theorem dX4_wordOf_52 : decode cX4_wordOf 52 = .ok (.ldc 75, 2) := by decide +kernel
theorem dX4_wordOf_54 : decode cX4_wordOf 54 = .ok (.areturn, 1) := by decide +kernel
theorem dX4_wordOf_55 : decode cX4_wordOf 55 = .ok (.ldc 77, 2) := by decide +kernel
theorem dX4_wordOf_57 : decode cX4_wordOf 57 = .ok (.areturn, 1) := by decide +kernel
theorem dX4_wordOf_58 : decode cX4_wordOf 58 = .ok (.ldc 79, 2) := by decide +kernel
theorem dX4_wordOf_60 : decode cX4_wordOf 60 = .ok (.areturn, 1) := by decide +kernel
theorem dX4_numbersOf_0 : decode cX4_numbersOf 0 = .ok (.iload_n 0, 1) := by decide +kernel
theorem dX4_numbersOf_1 : decode cX4_numbersOf 1 = .ok (.tableswitch 35 0 3 #[31, 33, 33, 33], 31) := by decide +kernel
theorem dX4_numbersOf_32 : decode cX4_numbersOf 32 = .ok (.iconst 3, 1) := by decide +kernel
theorem dX4_numbersOf_33 : decode cX4_numbersOf 33 = .ok (.ireturn, 1) := by decide +kernel
theorem dX4_numbersOf_34 : decode cX4_numbersOf 34 = .ok (.iconst 2, 1) := by decide +kernel
theorem dX4_numbersOf_35 : decode cX4_numbersOf 35 = .ok (.ireturn, 1) := by decide +kernel
theorem dX4_numbersOf_36 : decode cX4_numbersOf 36 = .ok (.iconst 1, 1) := by decide +kernel
theorem dX4_numbersOf_37 : decode cX4_numbersOf 37 = .ok (.ireturn, 1) := by decide +kernel
theorem dX4_digitsFrom_0 : decode cX4_digitsFrom 0 = .ok (.aload_n 0, 1) := by decide +kernel
theorem dX4_digitsFrom_1 : decode cX4_digitsFrom 1 = .ok (.iload_n 1, 1) := by decide +kernel
theorem dX4_digitsFrom_2 : decode cX4_digitsFrom 2 = .ok (.invokevirtual 37, 3) := by decide +kernel
theorem dX4_digitsFrom_5 : decode cX4_digitsFrom 5 = .ok (.bipush 48, 2) := by decide +kernel
theorem dX4_digitsFrom_7 : decode cX4_digitsFrom 7 = .ok (.if_icmp .ne 5, 3) := by decide +kernel
theorem dX4_digitsFrom_10 : decode cX4_digitsFrom 10 = .ok (.iconst 1, 1) := by decide +kernel
theorem dX4_digitsFrom_11 : decode cX4_digitsFrom 11 = .ok (.ireturn, 1) := by decide +kernel
theorem dX4_digitsFrom_12 : decode cX4_digitsFrom 12 = .ok (.iconst 0, 1) := by decide +kernel
theorem dX4_digitsFrom_13 : decode cX4_digitsFrom 13 = .ok (.istore_n 2, 1) := by decide +kernel
theorem dX4_digitsFrom_14 : decode cX4_digitsFrom 14 = .ok (.iload_n 2, 1) := by decide +kernel
theorem dX4_digitsFrom_15 : decode cX4_digitsFrom 15 = .ok (.iconst 3, 1) := by decide +kernel
theorem dX4_digitsFrom_16 : decode cX4_digitsFrom 16 = .ok (.if_icmp .ge 22, 3) := by decide +kernel
theorem dX4_digitsFrom_19 : decode cX4_digitsFrom 19 = .ok (.aload_n 0, 1) := by decide +kernel
theorem dX4_digitsFrom_20 : decode cX4_digitsFrom 20 = .ok (.iload_n 1, 1) := by decide +kernel
theorem dX4_digitsFrom_21 : decode cX4_digitsFrom 21 = .ok (.iload_n 2, 1) := by decide +kernel
theorem dX4_digitsFrom_22 : decode cX4_digitsFrom 22 = .ok (.iadd, 1) := by decide +kernel
theorem dX4_digitsFrom_23 : decode cX4_digitsFrom 23 = .ok (.invokevirtual 37, 3) := by decide +kernel
theorem dX4_digitsFrom_26 : decode cX4_digitsFrom 26 = .ok (.invokestatic 81, 3) := by decide +kernel
theorem dX4_digitsFrom_29 : decode cX4_digitsFrom 29 = .ok (.ifCond .eq 9, 3) := by decide +kernel
theorem dX4_digitsFrom_32 : decode cX4_digitsFrom 32 = .ok (.iinc 2 1, 3) := by decide +kernel
theorem dX4_digitsFrom_35 : decode cX4_digitsFrom 35 = .ok (.goto (-21), 3) := by decide +kernel
theorem dX4_digitsFrom_38 : decode cX4_digitsFrom 38 = .ok (.iload_n 2, 1) := by decide +kernel
theorem dX4_digitsFrom_39 : decode cX4_digitsFrom 39 = .ok (.ireturn, 1) := by decide +kernel
theorem dX4_isDigit_0 : decode cX4_isDigit 0 = .ok (.iload_n 0, 1) := by decide +kernel
theorem dX4_isDigit_1 : decode cX4_isDigit 1 = .ok (.bipush 48, 2) := by decide +kernel
theorem dX4_isDigit_3 : decode cX4_isDigit 3 = .ok (.if_icmp .lt 13, 3) := by decide +kernel
theorem dX4_isDigit_6 : decode cX4_isDigit 6 = .ok (.iload_n 0, 1) := by decide +kernel
theorem dX4_isDigit_7 : decode cX4_isDigit 7 = .ok (.bipush 57, 2) := by decide +kernel
theorem dX4_isDigit_9 : decode cX4_isDigit 9 = .ok (.if_icmp .gt 7, 3) := by decide +kernel
theorem dX4_isDigit_12 : decode cX4_isDigit 12 = .ok (.iconst 1, 1) := by decide +kernel
theorem dX4_isDigit_13 : decode cX4_isDigit 13 = .ok (.goto 4, 3) := by decide +kernel
theorem dX4_isDigit_16 : decode cX4_isDigit 16 = .ok (.iconst 0, 1) := by decide +kernel
theorem dX4_isDigit_17 : decode cX4_isDigit 17 = .ok (.ireturn, 1) := by decide +kernel
theorem dX4_numberFrom_0 : decode cX4_numberFrom 0 = .ok (.iconst 0, 1) := by decide +kernel
theorem dX4_numberFrom_1 : decode cX4_numberFrom 1 = .ok (.istore_n 3, 1) := by decide +kernel
theorem dX4_numberFrom_2 : decode cX4_numberFrom 2 = .ok (.iconst 0, 1) := by decide +kernel
theorem dX4_numberFrom_3 : decode cX4_numberFrom 3 = .ok (.istore 4, 2) := by decide +kernel
theorem dX4_numberFrom_5 : decode cX4_numberFrom 5 = .ok (.iload 4, 2) := by decide +kernel
theorem dX4_numberFrom_7 : decode cX4_numberFrom 7 = .ok (.iload_n 2, 1) := by decide +kernel
theorem dX4_numberFrom_8 : decode cX4_numberFrom 8 = .ok (.if_icmp .ge 26, 3) := by decide +kernel
theorem dX4_numberFrom_11 : decode cX4_numberFrom 11 = .ok (.bipush 10, 2) := by decide +kernel
theorem dX4_numberFrom_13 : decode cX4_numberFrom 13 = .ok (.iload_n 3, 1) := by decide +kernel
theorem dX4_numberFrom_14 : decode cX4_numberFrom 14 = .ok (.imul, 1) := by decide +kernel
theorem dX4_numberFrom_15 : decode cX4_numberFrom 15 = .ok (.aload_n 0, 1) := by decide +kernel
theorem dX4_numberFrom_16 : decode cX4_numberFrom 16 = .ok (.iload_n 1, 1) := by decide +kernel
theorem dX4_numberFrom_17 : decode cX4_numberFrom 17 = .ok (.iload 4, 2) := by decide +kernel
theorem dX4_numberFrom_19 : decode cX4_numberFrom 19 = .ok (.iadd, 1) := by decide +kernel
theorem dX4_numberFrom_20 : decode cX4_numberFrom 20 = .ok (.invokevirtual 37, 3) := by decide +kernel
theorem dX4_numberFrom_23 : decode cX4_numberFrom 23 = .ok (.bipush 48, 2) := by decide +kernel
theorem dX4_numberFrom_25 : decode cX4_numberFrom 25 = .ok (.isub, 1) := by decide +kernel
theorem dX4_numberFrom_26 : decode cX4_numberFrom 26 = .ok (.iadd, 1) := by decide +kernel
theorem dX4_numberFrom_27 : decode cX4_numberFrom 27 = .ok (.istore_n 3, 1) := by decide +kernel
theorem dX4_numberFrom_28 : decode cX4_numberFrom 28 = .ok (.iinc 4 1, 3) := by decide +kernel
theorem dX4_numberFrom_31 : decode cX4_numberFrom 31 = .ok (.goto (-26), 3) := by decide +kernel
theorem dX4_numberFrom_34 : decode cX4_numberFrom 34 = .ok (.iload_n 3, 1) := by decide +kernel
theorem dX4_numberFrom_35 : decode cX4_numberFrom 35 = .ok (.ireturn, 1) := by decide +kernel
theorem dX5_init_0 : decode cX5_init 0 = .ok (.aload_n 0, 1) := by decide +kernel
theorem dX5_init_1 : decode cX5_init 1 = .ok (.invokespecial 3, 3) := by decide +kernel
theorem dX5_init_4 : decode cX5_init 4 = .ok (.aload_n 0, 1) := by decide +kernel
theorem dX5_init_5 : decode cX5_init 5 = .ok (.new 9, 3) := by decide +kernel
theorem dX5_init_8 : decode cX5_init 8 = .ok (.dup, 1) := by decide +kernel
theorem dX5_init_9 : decode cX5_init 9 = .ok (.invokespecial 11, 3) := by decide +kernel
theorem dX5_init_12 : decode cX5_init 12 = .ok (.putfield 12, 3) := by decide +kernel
theorem dX5_init_15 : decode cX5_init 15 = .ok (.aload_n 0, 1) := by decide +kernel
theorem dX5_init_16 : decode cX5_init 16 = .ok (.new 16, 3) := by decide +kernel
theorem dX5_init_19 : decode cX5_init 19 = .ok (.dup, 1) := by decide +kernel
theorem dX5_init_20 : decode cX5_init 20 = .ok (.invokespecial 18, 3) := by decide +kernel
theorem dX5_init_23 : decode cX5_init 23 = .ok (.putfield 19, 3) := by decide +kernel
theorem dX5_init_26 : decode cX5_init 26 = .ok (.aload_n 0, 1) := by decide +kernel
theorem dX5_init_27 : decode cX5_init 27 = .ok (.new 9, 3) := by decide +kernel
theorem dX5_init_30 : decode cX5_init 30 = .ok (.dup, 1) := by decide +kernel
theorem dX5_init_31 : decode cX5_init 31 = .ok (.invokespecial 11, 3) := by decide +kernel
theorem dX5_init_34 : decode cX5_init 34 = .ok (.putfield 23, 3) := by decide +kernel
theorem dX5_init_37 : decode cX5_init 37 = .ok (.aload_n 0, 1) := by decide +kernel
theorem dX5_init_38 : decode cX5_init 38 = .ok (.iconst 0, 1) := by decide +kernel
theorem dX5_init_39 : decode cX5_init 39 = .ok (.putfield 26, 3) := by decide +kernel
theorem dX5_init_42 : decode cX5_init 42 = .ok (.aload_n 0, 1) := by decide +kernel
theorem dX5_init_43 : decode cX5_init 43 = .ok (.new 30, 3) := by decide +kernel
theorem dX5_init_46 : decode cX5_init 46 = .ok (.dup, 1) := by decide +kernel
theorem dX5_init_47 : decode cX5_init 47 = .ok (.invokespecial 32, 3) := by decide +kernel
theorem dX5_init_50 : decode cX5_init 50 = .ok (.putfield 33, 3) := by decide +kernel
theorem dX5_init_53 : decode cX5_init 53 = .ok (.aload_n 0, 1) := by decide +kernel
theorem dX5_init_54 : decode cX5_init 54 = .ok (.new 37, 3) := by decide +kernel
theorem dX5_init_57 : decode cX5_init 57 = .ok (.dup, 1) := by decide +kernel
theorem dX5_init_58 : decode cX5_init 58 = .ok (.invokespecial 39, 3) := by decide +kernel
theorem dX5_init_61 : decode cX5_init 61 = .ok (.putfield 40, 3) := by decide +kernel
theorem dX5_init_64 : decode cX5_init 64 = .ok (.return_, 1) := by decide +kernel
theorem dX5_add_0 : decode cX5_add 0 = .ok (.iload_n 1, 1) := by decide +kernel
theorem dX5_add_1 : decode cX5_add 1 = .ok (.invokestatic 44, 3) := by decide +kernel
theorem dX5_add_4 : decode cX5_add 4 = .ok (.ifCond .eq 10, 3) := by decide +kernel
theorem dX5_add_7 : decode cX5_add 7 = .ok (.iload_n 2, 1) := by decide +kernel
theorem dX5_add_8 : decode cX5_add 8 = .ok (.invokestatic 48, 3) := by decide +kernel
theorem dX5_add_11 : decode cX5_add 11 = .ok (.ifCond .ne 5, 3) := by decide +kernel
theorem dX5_add_14 : decode cX5_add 14 = .ok (.iconst (-1), 1) := by decide +kernel
theorem dX5_add_15 : decode cX5_add 15 = .ok (.ireturn, 1) := by decide +kernel
theorem dX5_add_16 : decode cX5_add 16 = .ok (.iload_n 3, 1) := by decide +kernel
theorem dX5_add_17 : decode cX5_add 17 = .ok (.iconst 1, 1) := by decide +kernel
theorem dX5_add_18 : decode cX5_add 18 = .ok (.if_icmp .lt 10, 3) := by decide +kernel
theorem dX5_add_21 : decode cX5_add 21 = .ok (.iload_n 3, 1) := by decide +kernel
theorem dX5_add_22 : decode cX5_add 22 = .ok (.sipush 999, 3) := by decide +kernel
theorem dX5_add_25 : decode cX5_add 25 = .ok (.if_icmp .le 6, 3) := by decide +kernel
theorem dX5_add_28 : decode cX5_add 28 = .ok (.bipush (-2), 2) := by decide +kernel
theorem dX5_add_30 : decode cX5_add 30 = .ok (.ireturn, 1) := by decide +kernel
theorem dX5_add_31 : decode cX5_add 31 = .ok (.aload_n 0, 1) := by decide +kernel
theorem dX5_add_32 : decode cX5_add 32 = .ok (.getfield 12, 3) := by decide +kernel
theorem dX5_add_35 : decode cX5_add 35 = .ok (.getfield 51, 3) := by decide +kernel
theorem dX5_add_38 : decode cX5_add 38 = .ok (.getfield 54, 3) := by decide +kernel
theorem dX5_add_41 : decode cX5_add 41 = .ok (.ifCond .eq 6, 3) := by decide +kernel
theorem dX5_add_44 : decode cX5_add 44 = .ok (.bipush (-4), 2) := by decide +kernel
theorem dX5_add_46 : decode cX5_add 46 = .ok (.ireturn, 1) := by decide +kernel
theorem dX5_add_47 : decode cX5_add 47 = .ok (.aload_n 0, 1) := by decide +kernel
theorem dX5_add_48 : decode cX5_add 48 = .ok (.getfield 12, 3) := by decide +kernel
theorem dX5_add_51 : decode cX5_add 51 = .ok (.getfield 57, 3) := by decide +kernel
theorem dX5_add_54 : decode cX5_add 54 = .ok (.iload_n 1, 1) := by decide +kernel
theorem dX5_add_55 : decode cX5_add 55 = .ok (.iload_n 2, 1) := by decide +kernel
theorem dX5_add_56 : decode cX5_add 56 = .ok (.invokevirtual 61, 3) := by decide +kernel
theorem dX5_add_59 : decode cX5_add 59 = .ok (.istore 4, 2) := by decide +kernel
theorem dX5_add_61 : decode cX5_add 61 = .ok (.iload 4, 2) := by decide +kernel
theorem dX5_add_63 : decode cX5_add 63 = .ok (.ifCond .ne 22, 3) := by decide +kernel
theorem dX5_add_66 : decode cX5_add 66 = .ok (.aload_n 0, 1) := by decide +kernel
theorem dX5_add_67 : decode cX5_add 67 = .ok (.getfield 12, 3) := by decide +kernel
theorem dX5_add_70 : decode cX5_add 70 = .ok (.getfield 57, 3) := by decide +kernel
theorem dX5_add_73 : decode cX5_add 73 = .ok (.iload_n 1, 1) := by decide +kernel
theorem dX5_add_74 : decode cX5_add 74 = .ok (.invokevirtual 67, 3) := by decide +kernel
theorem dX5_add_77 : decode cX5_add 77 = .ok (.bipush 40, 2) := by decide +kernel
theorem dX5_add_79 : decode cX5_add 79 = .ok (.if_icmp .lt 6, 3) := by decide +kernel
theorem dX5_add_82 : decode cX5_add 82 = .ok (.bipush (-3), 2) := by decide +kernel
theorem dX5_add_84 : decode cX5_add 84 = .ok (.ireturn, 1) := by decide +kernel
theorem dX5_add_85 : decode cX5_add 85 = .ok (.iload 4, 2) := by decide +kernel
theorem dX5_add_87 : decode cX5_add 87 = .ok (.iload_n 3, 1) := by decide +kernel
theorem dX5_add_88 : decode cX5_add 88 = .ok (.if_icmp .ne 6, 3) := by decide +kernel
theorem dX5_add_91 : decode cX5_add 91 = .ok (.bipush (-5), 2) := by decide +kernel
theorem dX5_add_93 : decode cX5_add 93 = .ok (.ireturn, 1) := by decide +kernel
theorem dX5_add_94 : decode cX5_add 94 = .ok (.aload_n 0, 1) := by decide +kernel
theorem dX5_add_95 : decode cX5_add 95 = .ok (.getfield 19, 3) := by decide +kernel
theorem dX5_add_98 : decode cX5_add 98 = .ok (.aload_n 0, 1) := by decide +kernel
theorem dX5_add_99 : decode cX5_add 99 = .ok (.getfield 12, 3) := by decide +kernel
theorem dX5_add_102 : decode cX5_add 102 = .ok (.invokevirtual 71, 3) := by decide +kernel
theorem dX5_add_105 : decode cX5_add 105 = .ok (.aload_n 0, 1) := by decide +kernel
theorem dX5_add_106 : decode cX5_add 106 = .ok (.getfield 12, 3) := by decide +kernel
theorem dX5_add_109 : decode cX5_add 109 = .ok (.getfield 57, 3) := by decide +kernel
theorem dX5_add_112 : decode cX5_add 112 = .ok (.iload_n 1, 1) := by decide +kernel
theorem dX5_add_113 : decode cX5_add 113 = .ok (.iload_n 2, 1) := by decide +kernel
theorem dX5_add_114 : decode cX5_add 114 = .ok (.iload_n 3, 1) := by decide +kernel
theorem dX5_add_115 : decode cX5_add 115 = .ok (.invokevirtual 75, 3) := by decide +kernel
theorem dX5_add_118 : decode cX5_add 118 = .ok (.ireturn, 1) := by decide +kernel
theorem dX5_drop_0 : decode cX5_drop 0 = .ok (.iload_n 1, 1) := by decide +kernel
theorem dX5_drop_1 : decode cX5_drop 1 = .ok (.invokestatic 44, 3) := by decide +kernel
theorem dX5_drop_4 : decode cX5_drop 4 = .ok (.ifCond .eq 10, 3) := by decide +kernel
theorem dX5_drop_7 : decode cX5_drop 7 = .ok (.iload_n 2, 1) := by decide +kernel
theorem dX5_drop_8 : decode cX5_drop 8 = .ok (.invokestatic 48, 3) := by decide +kernel
theorem dX5_drop_11 : decode cX5_drop 11 = .ok (.ifCond .ne 5, 3) := by decide +kernel
theorem dX5_drop_14 : decode cX5_drop 14 = .ok (.iconst (-1), 1) := by decide +kernel
theorem dX5_drop_15 : decode cX5_drop 15 = .ok (.ireturn, 1) := by decide +kernel
theorem dX5_drop_16 : decode cX5_drop 16 = .ok (.aload_n 0, 1) := by decide +kernel
theorem dX5_drop_17 : decode cX5_drop 17 = .ok (.getfield 12, 3) := by decide +kernel
theorem dX5_drop_20 : decode cX5_drop 20 = .ok (.getfield 57, 3) := by decide +kernel
theorem dX5_drop_23 : decode cX5_drop 23 = .ok (.iload_n 1, 1) := by decide +kernel
theorem dX5_drop_24 : decode cX5_drop 24 = .ok (.iload_n 2, 1) := by decide +kernel
theorem dX5_drop_25 : decode cX5_drop 25 = .ok (.invokevirtual 61, 3) := by decide +kernel
theorem dX5_drop_28 : decode cX5_drop 28 = .ok (.ifCond .ne 5, 3) := by decide +kernel
theorem dX5_drop_31 : decode cX5_drop 31 = .ok (.iconst (-1), 1) := by decide +kernel
theorem dX5_drop_32 : decode cX5_drop 32 = .ok (.ireturn, 1) := by decide +kernel
theorem dX5_drop_33 : decode cX5_drop 33 = .ok (.aload_n 0, 1) := by decide +kernel
theorem dX5_drop_34 : decode cX5_drop 34 = .ok (.getfield 12, 3) := by decide +kernel
theorem dX5_drop_37 : decode cX5_drop 37 = .ok (.getfield 51, 3) := by decide +kernel
theorem dX5_drop_40 : decode cX5_drop 40 = .ok (.getfield 54, 3) := by decide +kernel
theorem dX5_drop_43 : decode cX5_drop 43 = .ok (.ifCond .eq 6, 3) := by decide +kernel
theorem dX5_drop_46 : decode cX5_drop 46 = .ok (.bipush (-4), 2) := by decide +kernel
theorem dX5_drop_48 : decode cX5_drop 48 = .ok (.ireturn, 1) := by decide +kernel
theorem dX5_drop_49 : decode cX5_drop 49 = .ok (.aload_n 0, 1) := by decide +kernel
theorem dX5_drop_50 : decode cX5_drop 50 = .ok (.getfield 19, 3) := by decide +kernel
theorem dX5_drop_53 : decode cX5_drop 53 = .ok (.aload_n 0, 1) := by decide +kernel
theorem dX5_drop_54 : decode cX5_drop 54 = .ok (.getfield 12, 3) := by decide +kernel
theorem dX5_drop_57 : decode cX5_drop 57 = .ok (.invokevirtual 71, 3) := by decide +kernel
theorem dX5_drop_60 : decode cX5_drop 60 = .ok (.aload_n 0, 1) := by decide +kernel
theorem dX5_drop_61 : decode cX5_drop 61 = .ok (.getfield 12, 3) := by decide +kernel
theorem dX5_drop_64 : decode cX5_drop 64 = .ok (.getfield 57, 3) := by decide +kernel
theorem dX5_drop_67 : decode cX5_drop 67 = .ok (.iload_n 1, 1) := by decide +kernel
theorem dX5_drop_68 : decode cX5_drop 68 = .ok (.iload_n 2, 1) := by decide +kernel
theorem dX5_drop_69 : decode cX5_drop 69 = .ok (.invokevirtual 79, 3) := by decide +kernel
theorem dX5_drop_72 : decode cX5_drop 72 = .ok (.aload_n 0, 1) := by decide +kernel
theorem dX5_drop_73 : decode cX5_drop 73 = .ok (.getfield 12, 3) := by decide +kernel
theorem dX5_drop_76 : decode cX5_drop 76 = .ok (.getfield 57, 3) := by decide +kernel
theorem dX5_drop_79 : decode cX5_drop 79 = .ok (.iload_n 1, 1) := by decide +kernel
theorem dX5_drop_80 : decode cX5_drop 80 = .ok (.invokevirtual 67, 3) := by decide +kernel
theorem dX5_drop_83 : decode cX5_drop 83 = .ok (.ireturn, 1) := by decide +kernel
theorem dX5_delete_0 : decode cX5_delete 0 = .ok (.aload_n 0, 1) := by decide +kernel
theorem dX5_delete_1 : decode cX5_delete 1 = .ok (.iload_n 1, 1) := by decide +kernel
theorem dX5_delete_2 : decode cX5_delete 2 = .ok (.iconst 1, 1) := by decide +kernel
theorem dX5_delete_3 : decode cX5_delete 3 = .ok (.invokevirtual 83, 3) := by decide +kernel
theorem dX5_delete_6 : decode cX5_delete 6 = .ok (.ireturn, 1) := by decide +kernel
theorem dX5_bring_0 : decode cX5_bring 0 = .ok (.aload_n 0, 1) := by decide +kernel
theorem dX5_bring_1 : decode cX5_bring 1 = .ok (.iload_n 1, 1) := by decide +kernel
theorem dX5_bring_2 : decode cX5_bring 2 = .ok (.iconst 0, 1) := by decide +kernel
theorem dX5_bring_3 : decode cX5_bring 3 = .ok (.invokevirtual 83, 3) := by decide +kernel
theorem dX5_bring_6 : decode cX5_bring 6 = .ok (.ireturn, 1) := by decide +kernel
theorem dX5_setDeleted_0 : decode cX5_setDeleted 0 = .ok (.iload_n 1, 1) := by decide +kernel
theorem dX5_setDeleted_1 : decode cX5_setDeleted 1 = .ok (.invokestatic 48, 3) := by decide +kernel
theorem dX5_setDeleted_4 : decode cX5_setDeleted 4 = .ok (.ifCond .ne 5, 3) := by decide +kernel
theorem dX5_setDeleted_7 : decode cX5_setDeleted 7 = .ok (.iconst (-1), 1) := by decide +kernel
theorem dX5_setDeleted_8 : decode cX5_setDeleted 8 = .ok (.ireturn, 1) := by decide +kernel
theorem dX5_setDeleted_9 : decode cX5_setDeleted 9 = .ok (.aload_n 0, 1) := by decide +kernel
theorem dX5_setDeleted_10 : decode cX5_setDeleted 10 = .ok (.getfield 12, 3) := by decide +kernel
theorem dX5_setDeleted_13 : decode cX5_setDeleted 13 = .ok (.getfield 51, 3) := by decide +kernel
theorem dX5_setDeleted_16 : decode cX5_setDeleted 16 = .ok (.getfield 54, 3) := by decide +kernel
theorem dX5_setDeleted_19 : decode cX5_setDeleted 19 = .ok (.ifCond .eq 6, 3) := by decide +kernel
theorem dX5_setDeleted_22 : decode cX5_setDeleted 22 = .ok (.bipush (-4), 2) := by decide +kernel
theorem dX5_setDeleted_24 : decode cX5_setDeleted 24 = .ok (.ireturn, 1) := by decide +kernel
theorem dX5_setDeleted_25 : decode cX5_setDeleted 25 = .ok (.aload_n 0, 1) := by decide +kernel
theorem dX5_setDeleted_26 : decode cX5_setDeleted 26 = .ok (.getfield 12, 3) := by decide +kernel
theorem dX5_setDeleted_29 : decode cX5_setDeleted 29 = .ok (.getfield 57, 3) := by decide +kernel
theorem dX5_setDeleted_32 : decode cX5_setDeleted 32 = .ok (.iload_n 1, 1) := by decide +kernel
theorem dX5_setDeleted_33 : decode cX5_setDeleted 33 = .ok (.invokevirtual 87, 3) := by decide +kernel
theorem dX5_setDeleted_36 : decode cX5_setDeleted 36 = .ok (.iload_n 2, 1) := by decide +kernel
theorem dX5_setDeleted_37 : decode cX5_setDeleted 37 = .ok (.if_icmp .ne 6, 3) := by decide +kernel
theorem dX5_setDeleted_40 : decode cX5_setDeleted 40 = .ok (.bipush (-5), 2) := by decide +kernel
theorem dX5_setDeleted_42 : decode cX5_setDeleted 42 = .ok (.ireturn, 1) := by decide +kernel
theorem dX5_setDeleted_43 : decode cX5_setDeleted 43 = .ok (.aload_n 0, 1) := by decide +kernel
theorem dX5_setDeleted_44 : decode cX5_setDeleted 44 = .ok (.getfield 19, 3) := by decide +kernel
theorem dX5_setDeleted_47 : decode cX5_setDeleted 47 = .ok (.aload_n 0, 1) := by decide +kernel
theorem dX5_setDeleted_48 : decode cX5_setDeleted 48 = .ok (.getfield 12, 3) := by decide +kernel
theorem dX5_setDeleted_51 : decode cX5_setDeleted 51 = .ok (.invokevirtual 71, 3) := by decide +kernel
theorem dX5_setDeleted_54 : decode cX5_setDeleted 54 = .ok (.aload_n 0, 1) := by decide +kernel
theorem dX5_setDeleted_55 : decode cX5_setDeleted 55 = .ok (.getfield 12, 3) := by decide +kernel
theorem dX5_setDeleted_58 : decode cX5_setDeleted 58 = .ok (.getfield 57, 3) := by decide +kernel
theorem dX5_setDeleted_61 : decode cX5_setDeleted 61 = .ok (.dup, 1) := by decide +kernel
theorem dX5_setDeleted_62 : decode cX5_setDeleted 62 = .ok (.getfield 90, 3) := by decide +kernel
theorem dX5_setDeleted_65 : decode cX5_setDeleted 65 = .ok (.lconst 1, 1) := by decide +kernel
theorem dX5_setDeleted_66 : decode cX5_setDeleted 66 = .ok (.iload_n 1, 1) := by decide +kernel
theorem dX5_setDeleted_67 : decode cX5_setDeleted 67 = .ok (.lshl, 1) := by decide +kernel
theorem dX5_setDeleted_68 : decode cX5_setDeleted 68 = .ok (.lxor, 1) := by decide +kernel
theorem dX5_setDeleted_69 : decode cX5_setDeleted 69 = .ok (.putfield 90, 3) := by decide +kernel
theorem dX5_setDeleted_72 : decode cX5_setDeleted 72 = .ok (.aload_n 0, 1) := by decide +kernel
theorem dX5_setDeleted_73 : decode cX5_setDeleted 73 = .ok (.getfield 12, 3) := by decide +kernel
theorem dX5_setDeleted_76 : decode cX5_setDeleted 76 = .ok (.getfield 57, 3) := by decide +kernel
theorem dX5_setDeleted_79 : decode cX5_setDeleted 79 = .ok (.iload_n 1, 1) := by decide +kernel
theorem dX5_setDeleted_80 : decode cX5_setDeleted 80 = .ok (.invokevirtual 94, 3) := by decide +kernel
theorem dX5_setDeleted_83 : decode cX5_setDeleted 83 = .ok (.invokestatic 97, 3) := by decide +kernel
theorem dX5_setDeleted_86 : decode cX5_setDeleted 86 = .ok (.ireturn, 1) := by decide +kernel
theorem dX5_weight_0 : decode cX5_weight 0 = .ok (.aload_n 0, 1) := by decide +kernel
theorem dX5_weight_1 : decode cX5_weight 1 = .ok (.aload_n 0, 1) := by decide +kernel
theorem dX5_weight_2 : decode cX5_weight 2 = .ok (.getfield 12, 3) := by decide +kernel
theorem dX5_weight_5 : decode cX5_weight 5 = .ok (.getfield 57, 3) := by decide +kernel
theorem dX5_weight_8 : decode cX5_weight 8 = .ok (.getfield 102, 3) := by decide +kernel
theorem dX5_weight_11 : decode cX5_weight 11 = .ok (.iload_n 1, 1) := by decide +kernel
theorem dX5_weight_12 : decode cX5_weight 12 = .ok (.iload_n 2, 1) := by decide +kernel
theorem dX5_weight_13 : decode cX5_weight 13 = .ok (.bipush 9, 2) := by decide +kernel
theorem dX5_weight_15 : decode cX5_weight 15 = .ok (.invokevirtual 106, 3) := by decide +kernel
theorem dX5_weight_18 : decode cX5_weight 18 = .ok (.ireturn, 1) := by decide +kernel
theorem dX5_want_0 : decode cX5_want 0 = .ok (.iload_n 1, 1) := by decide +kernel
theorem dX5_want_1 : decode cX5_want 1 = .ok (.iconst 1, 1) := by decide +kernel
theorem dX5_want_2 : decode cX5_want 2 = .ok (.if_icmp .lt 9, 3) := by decide +kernel
theorem dX5_want_5 : decode cX5_want 5 = .ok (.iload_n 1, 1) := by decide +kernel
theorem dX5_want_6 : decode cX5_want 6 = .ok (.bipush 10, 2) := by decide +kernel
theorem dX5_want_8 : decode cX5_want 8 = .ok (.if_icmp .le 6, 3) := by decide +kernel
theorem dX5_want_11 : decode cX5_want 11 = .ok (.bipush (-2), 2) := by decide +kernel
theorem dX5_want_13 : decode cX5_want 13 = .ok (.ireturn, 1) := by decide +kernel
theorem dX5_want_14 : decode cX5_want 14 = .ok (.aload_n 0, 1) := by decide +kernel
theorem dX5_want_15 : decode cX5_want 15 = .ok (.getfield 12, 3) := by decide +kernel
theorem dX5_want_18 : decode cX5_want 18 = .ok (.getfield 51, 3) := by decide +kernel
theorem dX5_want_21 : decode cX5_want 21 = .ok (.getfield 54, 3) := by decide +kernel
theorem dX5_want_24 : decode cX5_want 24 = .ok (.ifCond .eq 6, 3) := by decide +kernel
theorem dX5_want_27 : decode cX5_want 27 = .ok (.bipush (-4), 2) := by decide +kernel
theorem dX5_want_29 : decode cX5_want 29 = .ok (.ireturn, 1) := by decide +kernel
theorem dX5_want_30 : decode cX5_want 30 = .ok (.aload_n 0, 1) := by decide +kernel
theorem dX5_want_31 : decode cX5_want 31 = .ok (.getfield 12, 3) := by decide +kernel
theorem dX5_want_34 : decode cX5_want 34 = .ok (.getfield 57, 3) := by decide +kernel
theorem dX5_want_37 : decode cX5_want 37 = .ok (.getfield 110, 3) := by decide +kernel
theorem dX5_want_40 : decode cX5_want 40 = .ok (.istore_n 2, 1) := by decide +kernel
theorem dX5_want_41 : decode cX5_want 41 = .ok (.iload_n 2, 1) := by decide +kernel
theorem dX5_want_42 : decode cX5_want 42 = .ok (.iload_n 1, 1) := by decide +kernel
theorem dX5_want_43 : decode cX5_want 43 = .ok (.if_icmp .ne 6, 3) := by decide +kernel
theorem dX5_want_46 : decode cX5_want 46 = .ok (.bipush (-5), 2) := by decide +kernel
theorem dX5_want_48 : decode cX5_want 48 = .ok (.ireturn, 1) := by decide +kernel
theorem dX5_want_49 : decode cX5_want 49 = .ok (.aload_n 0, 1) := by decide +kernel
theorem dX5_want_50 : decode cX5_want 50 = .ok (.getfield 19, 3) := by decide +kernel
theorem dX5_want_53 : decode cX5_want 53 = .ok (.aload_n 0, 1) := by decide +kernel
theorem dX5_want_54 : decode cX5_want 54 = .ok (.getfield 12, 3) := by decide +kernel
theorem dX5_want_57 : decode cX5_want 57 = .ok (.invokevirtual 71, 3) := by decide +kernel
theorem dX5_want_60 : decode cX5_want 60 = .ok (.aload_n 0, 1) := by decide +kernel
theorem dX5_want_61 : decode cX5_want 61 = .ok (.getfield 12, 3) := by decide +kernel
theorem dX5_want_64 : decode cX5_want 64 = .ok (.getfield 57, 3) := by decide +kernel
theorem dX5_want_67 : decode cX5_want 67 = .ok (.iload_n 1, 1) := by decide +kernel
theorem dX5_want_68 : decode cX5_want 68 = .ok (.putfield 110, 3) := by decide +kernel
theorem dX5_want_71 : decode cX5_want 71 = .ok (.iload_n 2, 1) := by decide +kernel
theorem dX5_want_72 : decode cX5_want 72 = .ok (.ireturn, 1) := by decide +kernel
theorem dX5_bribe_0 : decode cX5_bribe 0 = .ok (.aload_n 0, 1) := by decide +kernel
theorem dX5_bribe_1 : decode cX5_bribe 1 = .ok (.aload_n 0, 1) := by decide +kernel
theorem dX5_bribe_2 : decode cX5_bribe 2 = .ok (.getfield 12, 3) := by decide +kernel
theorem dX5_bribe_5 : decode cX5_bribe 5 = .ok (.getfield 57, 3) := by decide +kernel
theorem dX5_bribe_8 : decode cX5_bribe 8 = .ok (.getfield 114, 3) := by decide +kernel
theorem dX5_bribe_11 : decode cX5_bribe 11 = .ok (.iload_n 1, 1) := by decide +kernel
theorem dX5_bribe_12 : decode cX5_bribe 12 = .ok (.iload_n 2, 1) := by decide +kernel
theorem dX5_bribe_13 : decode cX5_bribe 13 = .ok (.sipush 500, 3) := by decide +kernel
theorem dX5_bribe_16 : decode cX5_bribe 16 = .ok (.invokevirtual 106, 3) := by decide +kernel
theorem dX5_bribe_19 : decode cX5_bribe 19 = .ok (.ireturn, 1) := by decide +kernel
theorem dX5_setOfList_0 : decode cX5_setOfList 0 = .ok (.iload_n 2, 1) := by decide +kernel
theorem dX5_setOfList_1 : decode cX5_setOfList 1 = .ok (.invokestatic 44, 3) := by decide +kernel
theorem dX5_setOfList_4 : decode cX5_setOfList 4 = .ok (.ifCond .ne 5, 3) := by decide +kernel
theorem dX5_setOfList_7 : decode cX5_setOfList 7 = .ok (.iconst (-1), 1) := by decide +kernel
theorem dX5_setOfList_8 : decode cX5_setOfList 8 = .ok (.ireturn, 1) := by decide +kernel
theorem dX5_setOfList_9 : decode cX5_setOfList 9 = .ok (.iload_n 3, 1) := by decide +kernel
theorem dX5_setOfList_10 : decode cX5_setOfList 10 = .ok (.ifCond .lt 9, 3) := by decide +kernel
theorem dX5_setOfList_13 : decode cX5_setOfList 13 = .ok (.iload_n 3, 1) := by decide +kernel
theorem dX5_setOfList_14 : decode cX5_setOfList 14 = .ok (.iload 4, 2) := by decide +kernel
theorem dX5_setOfList_16 : decode cX5_setOfList 16 = .ok (.if_icmp .le 6, 3) := by decide +kernel
theorem dX5_setOfList_19 : decode cX5_setOfList 19 = .ok (.bipush (-2), 2) := by decide +kernel
theorem dX5_setOfList_21 : decode cX5_setOfList 21 = .ok (.ireturn, 1) := by decide +kernel
theorem dX5_setOfList_22 : decode cX5_setOfList 22 = .ok (.aload_n 0, 1) := by decide +kernel
theorem dX5_setOfList_23 : decode cX5_setOfList 23 = .ok (.getfield 12, 3) := by decide +kernel
theorem dX5_setOfList_26 : decode cX5_setOfList 26 = .ok (.getfield 51, 3) := by decide +kernel
theorem dX5_setOfList_29 : decode cX5_setOfList 29 = .ok (.getfield 54, 3) := by decide +kernel
theorem dX5_setOfList_32 : decode cX5_setOfList 32 = .ok (.ifCond .eq 6, 3) := by decide +kernel
theorem dX5_setOfList_35 : decode cX5_setOfList 35 = .ok (.bipush (-4), 2) := by decide +kernel
theorem dX5_setOfList_37 : decode cX5_setOfList 37 = .ok (.ireturn, 1) := by decide +kernel
theorem dX5_setOfList_38 : decode cX5_setOfList 38 = .ok (.aload_n 1, 1) := by decide +kernel
theorem dX5_setOfList_39 : decode cX5_setOfList 39 = .ok (.iload_n 2, 1) := by decide +kernel
theorem dX5_setOfList_40 : decode cX5_setOfList 40 = .ok (.invokestatic 117, 3) := by decide +kernel
theorem dX5_setOfList_43 : decode cX5_setOfList 43 = .ok (.istore 5, 2) := by decide +kernel
theorem dX5_setOfList_45 : decode cX5_setOfList 45 = .ok (.iload 5, 2) := by decide +kernel
theorem dX5_setOfList_47 : decode cX5_setOfList 47 = .ok (.iload_n 3, 1) := by decide +kernel
theorem dX5_setOfList_48 : decode cX5_setOfList 48 = .ok (.if_icmp .ne 6, 3) := by decide +kernel
theorem dX5_setOfList_51 : decode cX5_setOfList 51 = .ok (.bipush (-5), 2) := by decide +kernel
theorem dX5_setOfList_53 : decode cX5_setOfList 53 = .ok (.ireturn, 1) := by decide +kernel
theorem dX5_setOfList_54 : decode cX5_setOfList 54 = .ok (.aload_n 0, 1) := by decide +kernel
theorem dX5_setOfList_55 : decode cX5_setOfList 55 = .ok (.getfield 19, 3) := by decide +kernel
theorem dX5_setOfList_58 : decode cX5_setOfList 58 = .ok (.aload_n 0, 1) := by decide +kernel
theorem dX5_setOfList_59 : decode cX5_setOfList 59 = .ok (.getfield 12, 3) := by decide +kernel
theorem dX5_setOfList_62 : decode cX5_setOfList 62 = .ok (.invokevirtual 71, 3) := by decide +kernel
theorem dX5_setOfList_65 : decode cX5_setOfList 65 = .ok (.aload_n 1, 1) := by decide +kernel
theorem dX5_setOfList_66 : decode cX5_setOfList 66 = .ok (.iload_n 2, 1) := by decide +kernel
theorem dX5_setOfList_67 : decode cX5_setOfList 67 = .ok (.iload_n 3, 1) := by decide +kernel
theorem dX5_setOfList_68 : decode cX5_setOfList 68 = .ok (.invokestatic 121, 3) := by decide +kernel
theorem dX5_setOfList_71 : decode cX5_setOfList 71 = .ok (.iload 5, 2) := by decide +kernel
theorem dX5_setOfList_73 : decode cX5_setOfList 73 = .ok (.ireturn, 1) := by decide +kernel
theorem dX5_begin_0 : decode cX5_begin 0 = .ok (.iload_n 1, 1) := by decide +kernel
theorem dX5_begin_1 : decode cX5_begin 1 = .ok (.invokestatic 125, 3) := by decide +kernel
theorem dX5_begin_4 : decode cX5_begin 4 = .ok (.ifCond .ne 6, 3) := by decide +kernel
theorem dX5_begin_7 : decode cX5_begin 7 = .ok (.bipush (-2), 2) := by decide +kernel
theorem dX5_begin_9 : decode cX5_begin 9 = .ok (.ireturn, 1) := by decide +kernel
theorem dX5_begin_10 : decode cX5_begin 10 = .ok (.aload_n 0, 1) := by decide +kernel
theorem dX5_begin_11 : decode cX5_begin 11 = .ok (.getfield 12, 3) := by decide +kernel
theorem dX5_begin_14 : decode cX5_begin 14 = .ok (.getfield 51, 3) := by decide +kernel
theorem dX5_begin_17 : decode cX5_begin 17 = .ok (.getfield 54, 3) := by decide +kernel
theorem dX5_begin_20 : decode cX5_begin 20 = .ok (.ifCond .ne 16, 3) := by decide +kernel
theorem dX5_begin_23 : decode cX5_begin 23 = .ok (.aload_n 0, 1) := by decide +kernel
theorem dX5_begin_24 : decode cX5_begin 24 = .ok (.getfield 12, 3) := by decide +kernel
theorem dX5_begin_27 : decode cX5_begin 27 = .ok (.getfield 57, 3) := by decide +kernel
theorem dX5_begin_30 : decode cX5_begin 30 = .ok (.invokevirtual 128, 3) := by decide +kernel
theorem dX5_begin_33 : decode cX5_begin 33 = .ok (.ifCond .ne 6, 3) := by decide +kernel
theorem dX5_begin_36 : decode cX5_begin 36 = .ok (.bipush (-4), 2) := by decide +kernel
theorem dX5_begin_38 : decode cX5_begin 38 = .ok (.ireturn, 1) := by decide +kernel
theorem dX5_begin_39 : decode cX5_begin 39 = .ok (.aload_n 0, 1) := by decide +kernel
theorem dX5_begin_40 : decode cX5_begin 40 = .ok (.getfield 19, 3) := by decide +kernel
theorem dX5_begin_43 : decode cX5_begin 43 = .ok (.aload_n 0, 1) := by decide +kernel
theorem dX5_begin_44 : decode cX5_begin 44 = .ok (.getfield 12, 3) := by decide +kernel
theorem dX5_begin_47 : decode cX5_begin 47 = .ok (.invokevirtual 71, 3) := by decide +kernel
theorem dX5_begin_50 : decode cX5_begin 50 = .ok (.aload_n 0, 1) := by decide +kernel
theorem dX5_begin_51 : decode cX5_begin 51 = .ok (.getfield 12, 3) := by decide +kernel
theorem dX5_begin_54 : decode cX5_begin 54 = .ok (.dup, 1) := by decide +kernel
theorem dX5_begin_55 : decode cX5_begin 55 = .ok (.getfield 132, 3) := by decide +kernel
theorem dX5_begin_58 : decode cX5_begin 58 = .ok (.iconst 1, 1) := by decide +kernel
theorem dX5_begin_59 : decode cX5_begin 59 = .ok (.iadd, 1) := by decide +kernel
theorem dX5_begin_60 : decode cX5_begin 60 = .ok (.putfield 132, 3) := by decide +kernel
theorem dX5_begin_63 : decode cX5_begin 63 = .ok (.aload_n 0, 1) := by decide +kernel
theorem dX5_begin_64 : decode cX5_begin 64 = .ok (.getfield 12, 3) := by decide +kernel
theorem dX5_begin_67 : decode cX5_begin 67 = .ok (.getfield 51, 3) := by decide +kernel
theorem dX5_begin_70 : decode cX5_begin 70 = .ok (.aload_n 0, 1) := by decide +kernel
theorem dX5_begin_71 : decode cX5_begin 71 = .ok (.getfield 12, 3) := by decide +kernel
theorem dX5_begin_74 : decode cX5_begin 74 = .ok (.getfield 57, 3) := by decide +kernel
theorem dX5_begin_77 : decode cX5_begin 77 = .ok (.iload_n 1, 1) := by decide +kernel
theorem dX5_begin_78 : decode cX5_begin 78 = .ok (.iload_n 2, 1) := by decide +kernel
theorem dX5_begin_79 : decode cX5_begin 79 = .ok (.invokevirtual 135, 3) := by decide +kernel
theorem dX5_begin_82 : decode cX5_begin 82 = .ok (.aload_n 0, 1) := by decide +kernel
theorem dX5_begin_83 : decode cX5_begin 83 = .ok (.getfield 12, 3) := by decide +kernel
theorem dX5_begin_86 : decode cX5_begin 86 = .ok (.getfield 51, 3) := by decide +kernel
theorem dX5_begin_89 : decode cX5_begin 89 = .ok (.aload_n 0, 1) := by decide +kernel
theorem dX5_begin_90 : decode cX5_begin 90 = .ok (.getfield 12, 3) := by decide +kernel
theorem dX5_begin_93 : decode cX5_begin 93 = .ok (.getfield 57, 3) := by decide +kernel
theorem dX5_begin_96 : decode cX5_begin 96 = .ok (.invokevirtual 139, 3) := by decide +kernel
theorem dX5_begin_99 : decode cX5_begin 99 = .ok (.invokestatic 143, 3) := by decide +kernel
theorem dX5_begin_102 : decode cX5_begin 102 = .ok (.ireturn, 1) := by decide +kernel
theorem dX5_step_0 : decode cX5_step 0 = .ok (.iload_n 1, 1) := by decide +kernel
theorem dX5_step_1 : decode cX5_step 1 = .ok (.iconst 1, 1) := by decide +kernel
theorem dX5_step_2 : decode cX5_step 2 = .ok (.if_icmp .lt 10, 3) := by decide +kernel
theorem dX5_step_5 : decode cX5_step 5 = .ok (.iload_n 1, 1) := by decide +kernel
theorem dX5_step_6 : decode cX5_step 6 = .ok (.sipush 240, 3) := by decide +kernel
theorem dX5_step_9 : decode cX5_step 9 = .ok (.if_icmp .le 6, 3) := by decide +kernel
theorem dX5_step_12 : decode cX5_step 12 = .ok (.bipush (-2), 2) := by decide +kernel
theorem dX5_step_14 : decode cX5_step 14 = .ok (.ireturn, 1) := by decide +kernel
theorem dX5_step_15 : decode cX5_step 15 = .ok (.aload_n 0, 1) := by decide +kernel
theorem dX5_step_16 : decode cX5_step 16 = .ok (.getfield 12, 3) := by decide +kernel
theorem dX5_step_19 : decode cX5_step 19 = .ok (.getfield 51, 3) := by decide +kernel
theorem dX5_step_22 : decode cX5_step 22 = .ok (.getfield 54, 3) := by decide +kernel
theorem dX5_step_25 : decode cX5_step 25 = .ok (.ifCond .ne 6, 3) := by decide +kernel
theorem dX5_step_28 : decode cX5_step 28 = .ok (.bipush (-4), 2) := by decide +kernel
theorem dX5_step_30 : decode cX5_step 30 = .ok (.ireturn, 1) := by decide +kernel
theorem dX5_step_31 : decode cX5_step 31 = .ok (.aload_n 0, 1) := by decide +kernel
theorem dX5_step_32 : decode cX5_step 32 = .ok (.getfield 12, 3) := by decide +kernel
theorem dX5_step_35 : decode cX5_step 35 = .ok (.getfield 51, 3) := by decide +kernel
theorem dX5_step_38 : decode cX5_step 38 = .ok (.aload_n 0, 1) := by decide +kernel
theorem dX5_step_39 : decode cX5_step 39 = .ok (.getfield 12, 3) := by decide +kernel
theorem dX5_step_42 : decode cX5_step 42 = .ok (.getfield 57, 3) := by decide +kernel
theorem dX5_step_45 : decode cX5_step 45 = .ok (.invokevirtual 139, 3) := by decide +kernel
theorem dX5_step_48 : decode cX5_step 48 = .ok (.ifCond .eq 6, 3) := by decide +kernel
theorem dX5_step_51 : decode cX5_step 51 = .ok (.bipush (-5), 2) := by decide +kernel
theorem dX5_step_53 : decode cX5_step 53 = .ok (.ireturn, 1) := by decide +kernel
theorem dX5_step_54 : decode cX5_step 54 = .ok (.aload_n 0, 1) := by decide +kernel
theorem dX5_step_55 : decode cX5_step 55 = .ok (.getfield 19, 3) := by decide +kernel
theorem dX5_step_58 : decode cX5_step 58 = .ok (.aload_n 0, 1) := by decide +kernel
theorem dX5_step_59 : decode cX5_step 59 = .ok (.getfield 12, 3) := by decide +kernel
theorem dX5_step_62 : decode cX5_step 62 = .ok (.invokevirtual 71, 3) := by decide +kernel
theorem dX5_step_65 : decode cX5_step 65 = .ok (.aload_n 0, 1) := by decide +kernel
theorem dX5_step_66 : decode cX5_step 66 = .ok (.getfield 12, 3) := by decide +kernel
theorem dX5_step_69 : decode cX5_step 69 = .ok (.getfield 51, 3) := by decide +kernel
theorem dX5_step_72 : decode cX5_step 72 = .ok (.invokevirtual 147, 3) := by decide +kernel
theorem dX5_step_75 : decode cX5_step 75 = .ok (.istore_n 2, 1) := by decide +kernel
theorem dX5_step_76 : decode cX5_step 76 = .ok (.aload_n 0, 1) := by decide +kernel
theorem dX5_step_77 : decode cX5_step 77 = .ok (.getfield 12, 3) := by decide +kernel
theorem dX5_step_80 : decode cX5_step 80 = .ok (.getfield 51, 3) := by decide +kernel
theorem dX5_step_83 : decode cX5_step 83 = .ok (.aload_n 0, 1) := by decide +kernel
theorem dX5_step_84 : decode cX5_step 84 = .ok (.getfield 12, 3) := by decide +kernel
theorem dX5_step_87 : decode cX5_step 87 = .ok (.getfield 57, 3) := by decide +kernel
theorem dX5_step_90 : decode cX5_step 90 = .ok (.iload_n 1, 1) := by decide +kernel
theorem dX5_step_91 : decode cX5_step 91 = .ok (.invokevirtual 150, 3) := by decide +kernel
theorem dX5_step_94 : decode cX5_step 94 = .ok (.istore_n 3, 1) := by decide +kernel
theorem dX5_step_95 : decode cX5_step 95 = .ok (.aload_n 0, 1) := by decide +kernel
theorem dX5_step_96 : decode cX5_step 96 = .ok (.getfield 12, 3) := by decide +kernel
theorem dX5_step_99 : decode cX5_step 99 = .ok (.dup, 1) := by decide +kernel
theorem dX5_step_100 : decode cX5_step 100 = .ok (.getfield 154, 3) := by decide +kernel
theorem dX5_step_103 : decode cX5_step 103 = .ok (.aload_n 0, 1) := by decide +kernel
theorem dX5_step_104 : decode cX5_step 104 = .ok (.getfield 12, 3) := by decide +kernel
theorem dX5_step_107 : decode cX5_step 107 = .ok (.getfield 51, 3) := by decide +kernel
theorem dX5_step_110 : decode cX5_step 110 = .ok (.invokevirtual 147, 3) := by decide +kernel
theorem dX5_step_113 : decode cX5_step 113 = .ok (.iload_n 2, 1) := by decide +kernel
theorem dX5_step_114 : decode cX5_step 114 = .ok (.isub, 1) := by decide +kernel
theorem dX5_step_115 : decode cX5_step 115 = .ok (.iadd, 1) := by decide +kernel
theorem dX5_step_116 : decode cX5_step 116 = .ok (.putfield 154, 3) := by decide +kernel
theorem dX5_step_119 : decode cX5_step 119 = .ok (.iload_n 3, 1) := by decide +kernel
theorem dX5_step_120 : decode cX5_step 120 = .ok (.ireturn, 1) := by decide +kernel
theorem dX5_end_0 : decode cX5_end 0 = .ok (.aload_n 0, 1) := by decide +kernel
theorem dX5_end_1 : decode cX5_end 1 = .ok (.getfield 12, 3) := by decide +kernel
theorem dX5_end_4 : decode cX5_end 4 = .ok (.getfield 51, 3) := by decide +kernel
theorem dX5_end_7 : decode cX5_end 7 = .ok (.getfield 54, 3) := by decide +kernel
theorem dX5_end_10 : decode cX5_end 10 = .ok (.ifCond .ne 6, 3) := by decide +kernel
theorem dX5_end_13 : decode cX5_end 13 = .ok (.bipush (-4), 2) := by decide +kernel
theorem dX5_end_15 : decode cX5_end 15 = .ok (.ireturn, 1) := by decide +kernel
theorem dX5_end_16 : decode cX5_end 16 = .ok (.aload_n 0, 1) := by decide +kernel
theorem dX5_end_17 : decode cX5_end 17 = .ok (.getfield 19, 3) := by decide +kernel
theorem dX5_end_20 : decode cX5_end 20 = .ok (.aload_n 0, 1) := by decide +kernel
theorem dX5_end_21 : decode cX5_end 21 = .ok (.getfield 12, 3) := by decide +kernel
theorem dX5_end_24 : decode cX5_end 24 = .ok (.invokevirtual 71, 3) := by decide +kernel
theorem dX5_end_27 : decode cX5_end 27 = .ok (.aload_n 0, 1) := by decide +kernel
theorem dX5_end_28 : decode cX5_end 28 = .ok (.getfield 12, 3) := by decide +kernel
theorem dX5_end_31 : decode cX5_end 31 = .ok (.getfield 51, 3) := by decide +kernel
theorem dX5_end_34 : decode cX5_end 34 = .ok (.iconst 0, 1) := by decide +kernel
theorem dX5_end_35 : decode cX5_end 35 = .ok (.putfield 54, 3) := by decide +kernel
theorem dX5_end_38 : decode cX5_end 38 = .ok (.aload_n 0, 1) := by decide +kernel
theorem dX5_end_39 : decode cX5_end 39 = .ok (.getfield 12, 3) := by decide +kernel
theorem dX5_end_42 : decode cX5_end 42 = .ok (.getfield 51, 3) := by decide +kernel
theorem dX5_end_45 : decode cX5_end 45 = .ok (.aload_n 0, 1) := by decide +kernel
theorem dX5_end_46 : decode cX5_end 46 = .ok (.getfield 12, 3) := by decide +kernel
theorem dX5_end_49 : decode cX5_end 49 = .ok (.getfield 57, 3) := by decide +kernel
theorem dX5_end_52 : decode cX5_end 52 = .ok (.invokevirtual 157, 3) := by decide +kernel
theorem dX5_end_55 : decode cX5_end 55 = .ok (.ireturn, 1) := by decide +kernel
theorem dX5_type_0 : decode cX5_type 0 = .ok (.aload_n 0, 1) := by decide +kernel
theorem dX5_type_1 : decode cX5_type 1 = .ok (.getfield 33, 3) := by decide +kernel
theorem dX5_type_4 : decode cX5_type 4 = .ok (.getfield 161, 3) := by decide +kernel
theorem dX5_type_7 : decode cX5_type 7 = .ok (.bipush 40, 2) := by decide +kernel
theorem dX5_type_9 : decode cX5_type 9 = .ok (.if_icmp .lt 6, 3) := by decide +kernel
theorem dX5_type_12 : decode cX5_type 12 = .ok (.bipush (-3), 2) := by decide +kernel
theorem dX5_type_14 : decode cX5_type 14 = .ok (.ireturn, 1) := by decide +kernel
theorem dX5_type_15 : decode cX5_type 15 = .ok (.aload_n 0, 1) := by decide +kernel
theorem dX5_type_16 : decode cX5_type 16 = .ok (.getfield 33, 3) := by decide +kernel
theorem dX5_type_19 : decode cX5_type 19 = .ok (.iload_n 1, 1) := by decide +kernel
theorem dX5_type_20 : decode cX5_type 20 = .ok (.invokevirtual 164, 3) := by decide +kernel
theorem dX5_type_23 : decode cX5_type 23 = .ok (.aload_n 0, 1) := by decide +kernel
theorem dX5_type_24 : decode cX5_type 24 = .ok (.getfield 33, 3) := by decide +kernel
theorem dX5_type_27 : decode cX5_type 27 = .ok (.getfield 161, 3) := by decide +kernel
theorem dX5_type_30 : decode cX5_type 30 = .ok (.ireturn, 1) := by decide +kernel
theorem dX5_clearText_0 : decode cX5_clearText 0 = .ok (.aload_n 0, 1) := by decide +kernel
theorem dX5_clearText_1 : decode cX5_clearText 1 = .ok (.getfield 33, 3) := by decide +kernel
theorem dX5_clearText_4 : decode cX5_clearText 4 = .ok (.getfield 161, 3) := by decide +kernel
theorem dX5_clearText_7 : decode cX5_clearText 7 = .ok (.istore_n 1, 1) := by decide +kernel
theorem dX5_clearText_8 : decode cX5_clearText 8 = .ok (.aload_n 0, 1) := by decide +kernel
theorem dX5_clearText_9 : decode cX5_clearText 9 = .ok (.getfield 33, 3) := by decide +kernel
theorem dX5_clearText_12 : decode cX5_clearText 12 = .ok (.iconst 0, 1) := by decide +kernel
theorem dX5_clearText_13 : decode cX5_clearText 13 = .ok (.putfield 161, 3) := by decide +kernel
theorem dX5_clearText_16 : decode cX5_clearText 16 = .ok (.iload_n 1, 1) := by decide +kernel
theorem dX5_clearText_17 : decode cX5_clearText 17 = .ok (.ireturn, 1) := by decide +kernel
theorem dX5_perform_0 : decode cX5_perform 0 = .ok (.aload_n 0, 1) := by decide +kernel
theorem dX5_perform_1 : decode cX5_perform 1 = .ok (.getfield 33, 3) := by decide +kernel
theorem dX5_perform_4 : decode cX5_perform 4 = .ok (.invokevirtual 168, 3) := by decide +kernel
theorem dX5_perform_7 : decode cX5_perform 7 = .ok (.istore_n 1, 1) := by decide +kernel
theorem dX5_perform_8 : decode cX5_perform 8 = .ok (.iload_n 1, 1) := by decide +kernel
theorem dX5_perform_9 : decode cX5_perform 9 = .ok (.iconst (-1), 1) := by decide +kernel
theorem dX5_perform_10 : decode cX5_perform 10 = .ok (.if_icmp .eq 8, 3) := by decide +kernel
theorem dX5_perform_13 : decode cX5_perform 13 = .ok (.bipush (-100), 2) := by decide +kernel
theorem dX5_perform_15 : decode cX5_perform 15 = .ok (.iload_n 1, 1) := by decide +kernel
theorem dX5_perform_16 : decode cX5_perform 16 = .ok (.isub, 1) := by decide +kernel
theorem dX5_perform_17 : decode cX5_perform 17 = .ok (.ireturn, 1) := by decide +kernel
theorem dX5_perform_18 : decode cX5_perform 18 = .ok (.aload_n 0, 1) := by decide +kernel
theorem dX5_perform_19 : decode cX5_perform 19 = .ok (.getfield 33, 3) := by decide +kernel
theorem dX5_perform_22 : decode cX5_perform 22 = .ok (.getfield 171, 3) := by decide +kernel
theorem dX5_perform_25 : decode cX5_perform 25 = .ok (.iconst 0, 1) := by decide +kernel
theorem dX5_perform_26 : decode cX5_perform 26 = .ok (.invokestatic 117, 3) := by decide +kernel
theorem dX5_perform_29 : decode cX5_perform 29 = .ok (.istore_n 2, 1) := by decide +kernel
theorem dX5_perform_30 : decode cX5_perform 30 = .ok (.aload_n 0, 1) := by decide +kernel
theorem dX5_perform_31 : decode cX5_perform 31 = .ok (.getfield 33, 3) := by decide +kernel
theorem dX5_perform_34 : decode cX5_perform 34 = .ok (.getfield 171, 3) := by decide +kernel
theorem dX5_perform_37 : decode cX5_perform 37 = .ok (.iconst 1, 1) := by decide +kernel
theorem dX5_perform_38 : decode cX5_perform 38 = .ok (.invokestatic 117, 3) := by decide +kernel
theorem dX5_perform_41 : decode cX5_perform 41 = .ok (.istore_n 3, 1) := by decide +kernel
theorem dX5_perform_42 : decode cX5_perform 42 = .ok (.aload_n 0, 1) := by decide +kernel
theorem dX5_perform_43 : decode cX5_perform 43 = .ok (.getfield 33, 3) := by decide +kernel
theorem dX5_perform_46 : decode cX5_perform 46 = .ok (.getfield 171, 3) := by decide +kernel
theorem dX5_perform_49 : decode cX5_perform 49 = .ok (.iconst 2, 1) := by decide +kernel
theorem dX5_perform_50 : decode cX5_perform 50 = .ok (.invokestatic 117, 3) := by decide +kernel
theorem dX5_perform_53 : decode cX5_perform 53 = .ok (.istore 4, 2) := by decide +kernel
theorem dX5_perform_55 : decode cX5_perform 55 = .ok (.aload_n 0, 1) := by decide +kernel
theorem dX5_perform_56 : decode cX5_perform 56 = .ok (.getfield 33, 3) := by decide +kernel
theorem dX5_perform_59 : decode cX5_perform 59 = .ok (.getfield 174, 3) := by decide +kernel
theorem dX5_perform_62 : decode cX5_perform 62 = .ok (.tableswitch 80 0 5 #[38, 47, 54, 61, 68, 74], 38) := by decide +kernel
theorem dX5_perform_100 : decode cX5_perform 100 = .ok (.aload_n 0, 1) := by decide +kernel
theorem dX5_perform_101 : decode cX5_perform 101 = .ok (.iload_n 2, 1) := by decide +kernel
theorem dX5_perform_102 : decode cX5_perform 102 = .ok (.iload_n 3, 1) := by decide +kernel
theorem dX5_perform_103 : decode cX5_perform 103 = .ok (.iload 4, 2) := by decide +kernel
theorem dX5_perform_105 : decode cX5_perform 105 = .ok (.invokevirtual 177, 3) := by decide +kernel
theorem dX5_perform_108 : decode cX5_perform 108 = .ok (.ireturn, 1) := by decide +kernel
theorem dX5_perform_109 : decode cX5_perform 109 = .ok (.aload_n 0, 1) := by decide +kernel
theorem dX5_perform_110 : decode cX5_perform 110 = .ok (.iload_n 2, 1) := by decide +kernel
theorem dX5_perform_111 : decode cX5_perform 111 = .ok (.iload_n 3, 1) := by decide +kernel
theorem dX5_perform_112 : decode cX5_perform 112 = .ok (.invokevirtual 180, 3) := by decide +kernel
theorem dX5_perform_115 : decode cX5_perform 115 = .ok (.ireturn, 1) := by decide +kernel
theorem dX5_perform_116 : decode cX5_perform 116 = .ok (.aload_n 0, 1) := by decide +kernel
theorem dX5_perform_117 : decode cX5_perform 117 = .ok (.iload_n 2, 1) := by decide +kernel
theorem dX5_perform_118 : decode cX5_perform 118 = .ok (.iload_n 3, 1) := by decide +kernel
theorem dX5_perform_119 : decode cX5_perform 119 = .ok (.invokevirtual 183, 3) := by decide +kernel
theorem dX5_perform_122 : decode cX5_perform 122 = .ok (.ireturn, 1) := by decide +kernel
theorem dX5_perform_123 : decode cX5_perform 123 = .ok (.aload_n 0, 1) := by decide +kernel
theorem dX5_perform_124 : decode cX5_perform 124 = .ok (.iload_n 2, 1) := by decide +kernel
theorem dX5_perform_125 : decode cX5_perform 125 = .ok (.iload_n 3, 1) := by decide +kernel
theorem dX5_perform_126 : decode cX5_perform 126 = .ok (.invokevirtual 186, 3) := by decide +kernel
theorem dX5_perform_129 : decode cX5_perform 129 = .ok (.ireturn, 1) := by decide +kernel
theorem dX5_perform_130 : decode cX5_perform 130 = .ok (.aload_n 0, 1) := by decide +kernel
theorem dX5_perform_131 : decode cX5_perform 131 = .ok (.iload_n 2, 1) := by decide +kernel
theorem dX5_perform_132 : decode cX5_perform 132 = .ok (.invokevirtual 189, 3) := by decide +kernel
theorem dX5_perform_135 : decode cX5_perform 135 = .ok (.ireturn, 1) := by decide +kernel
theorem dX5_perform_136 : decode cX5_perform 136 = .ok (.aload_n 0, 1) := by decide +kernel
theorem dX5_perform_137 : decode cX5_perform 137 = .ok (.iload_n 2, 1) := by decide +kernel
theorem dX5_perform_138 : decode cX5_perform 138 = .ok (.invokevirtual 192, 3) := by decide +kernel
theorem dX5_perform_141 : decode cX5_perform 141 = .ok (.ireturn, 1) := by decide +kernel
theorem dX5_perform_142 : decode cX5_perform 142 = .ok (.aload_n 0, 1) := by decide +kernel
theorem dX5_perform_143 : decode cX5_perform 143 = .ok (.iload_n 2, 1) := by decide +kernel
theorem dX5_perform_144 : decode cX5_perform 144 = .ok (.invokevirtual 195, 3) := by decide +kernel
theorem dX5_perform_147 : decode cX5_perform 147 = .ok (.ireturn, 1) := by decide +kernel
theorem dX5_undo_0 : decode cX5_undo 0 = .ok (.aload_n 0, 1) := by decide +kernel
theorem dX5_undo_1 : decode cX5_undo 1 = .ok (.getfield 19, 3) := by decide +kernel
theorem dX5_undo_4 : decode cX5_undo 4 = .ok (.getfield 198, 3) := by decide +kernel
theorem dX5_undo_7 : decode cX5_undo 7 = .ok (.ifCond .ne 6, 3) := by decide +kernel
theorem dX5_undo_10 : decode cX5_undo 10 = .ok (.bipush (-5), 2) := by decide +kernel
theorem dX5_undo_12 : decode cX5_undo 12 = .ok (.ireturn, 1) := by decide +kernel
theorem dX5_undo_13 : decode cX5_undo 13 = .ok (.aload_n 0, 1) := by decide +kernel
theorem dX5_undo_14 : decode cX5_undo 14 = .ok (.getfield 19, 3) := by decide +kernel
theorem dX5_undo_17 : decode cX5_undo 17 = .ok (.aload_n 0, 1) := by decide +kernel
theorem dX5_undo_18 : decode cX5_undo 18 = .ok (.getfield 12, 3) := by decide +kernel
theorem dX5_undo_21 : decode cX5_undo 21 = .ok (.invokevirtual 201, 3) := by decide +kernel
theorem dX5_undo_24 : decode cX5_undo 24 = .ok (.aload_n 0, 1) := by decide +kernel
theorem dX5_undo_25 : decode cX5_undo 25 = .ok (.getfield 19, 3) := by decide +kernel
theorem dX5_undo_28 : decode cX5_undo 28 = .ok (.getfield 198, 3) := by decide +kernel
theorem dX5_undo_31 : decode cX5_undo 31 = .ok (.ireturn, 1) := by decide +kernel
theorem dX5_keep_0 : decode cX5_keep 0 = .ok (.aload_n 0, 1) := by decide +kernel
theorem dX5_keep_1 : decode cX5_keep 1 = .ok (.getfield 23, 3) := by decide +kernel
theorem dX5_keep_4 : decode cX5_keep 4 = .ok (.aload_n 0, 1) := by decide +kernel
theorem dX5_keep_5 : decode cX5_keep 5 = .ok (.getfield 12, 3) := by decide +kernel
theorem dX5_keep_8 : decode cX5_keep 8 = .ok (.invokevirtual 204, 3) := by decide +kernel
theorem dX5_keep_11 : decode cX5_keep 11 = .ok (.aload_n 0, 1) := by decide +kernel
theorem dX5_keep_12 : decode cX5_keep 12 = .ok (.iconst 1, 1) := by decide +kernel
theorem dX5_keep_13 : decode cX5_keep 13 = .ok (.putfield 26, 3) := by decide +kernel
theorem dX5_keep_16 : decode cX5_keep 16 = .ok (.aload_n 0, 1) := by decide +kernel
theorem dX5_keep_17 : decode cX5_keep 17 = .ok (.getfield 12, 3) := by decide +kernel
theorem dX5_keep_20 : decode cX5_keep 20 = .ok (.getfield 57, 3) := by decide +kernel
theorem dX5_keep_23 : decode cX5_keep 23 = .ok (.invokevirtual 207, 3) := by decide +kernel
theorem dX5_keep_26 : decode cX5_keep 26 = .ok (.ireturn, 1) := by decide +kernel
theorem dX5_restore_0 : decode cX5_restore 0 = .ok (.aload_n 0, 1) := by decide +kernel
theorem dX5_restore_1 : decode cX5_restore 1 = .ok (.getfield 26, 3) := by decide +kernel
theorem dX5_restore_4 : decode cX5_restore 4 = .ok (.ifCond .ne 6, 3) := by decide +kernel
theorem dX5_restore_7 : decode cX5_restore 7 = .ok (.bipush (-5), 2) := by decide +kernel
theorem dX5_restore_9 : decode cX5_restore 9 = .ok (.ireturn, 1) := by decide +kernel
theorem dX5_restore_10 : decode cX5_restore 10 = .ok (.aload_n 0, 1) := by decide +kernel
theorem dX5_restore_11 : decode cX5_restore 11 = .ok (.getfield 19, 3) := by decide +kernel
theorem dX5_restore_14 : decode cX5_restore 14 = .ok (.aload_n 0, 1) := by decide +kernel
theorem dX5_restore_15 : decode cX5_restore 15 = .ok (.getfield 12, 3) := by decide +kernel
theorem dX5_restore_18 : decode cX5_restore 18 = .ok (.invokevirtual 71, 3) := by decide +kernel
theorem dX5_restore_21 : decode cX5_restore 21 = .ok (.aload_n 0, 1) := by decide +kernel
theorem dX5_restore_22 : decode cX5_restore 22 = .ok (.getfield 12, 3) := by decide +kernel
theorem dX5_restore_25 : decode cX5_restore 25 = .ok (.aload_n 0, 1) := by decide +kernel
theorem dX5_restore_26 : decode cX5_restore 26 = .ok (.getfield 23, 3) := by decide +kernel
theorem dX5_restore_29 : decode cX5_restore 29 = .ok (.invokevirtual 204, 3) := by decide +kernel
theorem dX5_restore_32 : decode cX5_restore 32 = .ok (.aload_n 0, 1) := by decide +kernel
theorem dX5_restore_33 : decode cX5_restore 33 = .ok (.getfield 12, 3) := by decide +kernel
theorem dX5_restore_36 : decode cX5_restore 36 = .ok (.getfield 57, 3) := by decide +kernel
theorem dX5_restore_39 : decode cX5_restore 39 = .ok (.invokevirtual 207, 3) := by decide +kernel
theorem dX5_restore_42 : decode cX5_restore 42 = .ok (.ireturn, 1) := by decide +kernel
theorem dX5_list_0 : decode cX5_list 0 = .ok (.iload_n 1, 1) := by decide +kernel
theorem dX5_list_1 : decode cX5_list 1 = .ok (.invokestatic 44, 3) := by decide +kernel
theorem dX5_list_4 : decode cX5_list 4 = .ok (.ifCond .ne 5, 3) := by decide +kernel
theorem dX5_list_7 : decode cX5_list 7 = .ok (.iconst (-1), 1) := by decide +kernel
theorem dX5_list_8 : decode cX5_list 8 = .ok (.ireturn, 1) := by decide +kernel
theorem dX5_list_9 : decode cX5_list 9 = .ok (.iload_n 2, 1) := by decide +kernel
theorem dX5_list_10 : decode cX5_list 10 = .ok (.tableswitch 98 0 4 #[34, 46, 58, 73, 86], 34) := by decide +kernel
theorem dX5_list_44 : decode cX5_list 44 = .ok (.aload_n 0, 1) := by decide +kernel
theorem dX5_list_45 : decode cX5_list 45 = .ok (.getfield 12, 3) := by decide +kernel
theorem dX5_list_48 : decode cX5_list 48 = .ok (.getfield 57, 3) := by decide +kernel
theorem dX5_list_51 : decode cX5_list 51 = .ok (.iload_n 1, 1) := by decide +kernel
theorem dX5_list_52 : decode cX5_list 52 = .ok (.invokevirtual 67, 3) := by decide +kernel
theorem dX5_list_55 : decode cX5_list 55 = .ok (.ireturn, 1) := by decide +kernel
theorem dX5_list_56 : decode cX5_list 56 = .ok (.aload_n 0, 1) := by decide +kernel
theorem dX5_list_57 : decode cX5_list 57 = .ok (.getfield 12, 3) := by decide +kernel
theorem dX5_list_60 : decode cX5_list 60 = .ok (.getfield 57, 3) := by decide +kernel
theorem dX5_list_63 : decode cX5_list 63 = .ok (.iload_n 1, 1) := by decide +kernel
theorem dX5_list_64 : decode cX5_list 64 = .ok (.invokevirtual 210, 3) := by decide +kernel
theorem dX5_list_67 : decode cX5_list 67 = .ok (.ireturn, 1) := by decide +kernel
theorem dX5_list_68 : decode cX5_list 68 = .ok (.aload_n 0, 1) := by decide +kernel
theorem dX5_list_69 : decode cX5_list 69 = .ok (.getfield 12, 3) := by decide +kernel
theorem dX5_list_72 : decode cX5_list 72 = .ok (.getfield 57, 3) := by decide +kernel
theorem dX5_list_75 : decode cX5_list 75 = .ok (.getfield 114, 3) := by decide +kernel
theorem dX5_list_78 : decode cX5_list 78 = .ok (.iload_n 1, 1) := by decide +kernel
theorem dX5_list_79 : decode cX5_list 79 = .ok (.invokestatic 117, 3) := by decide +kernel
theorem dX5_list_82 : decode cX5_list 82 = .ok (.ireturn, 1) := by decide +kernel
theorem dX5_list_83 : decode cX5_list 83 = .ok (.aload_n 0, 1) := by decide +kernel
theorem dX5_list_84 : decode cX5_list 84 = .ok (.getfield 12, 3) := by decide +kernel
theorem dX5_list_87 : decode cX5_list 87 = .ok (.getfield 57, 3) := by decide +kernel
theorem dX5_list_90 : decode cX5_list 90 = .ok (.iload_n 1, 1) := by decide +kernel
theorem dX5_list_91 : decode cX5_list 91 = .ok (.iconst 0, 1) := by decide +kernel
theorem dX5_list_92 : decode cX5_list 92 = .ok (.invokevirtual 213, 3) := by decide +kernel
theorem dX5_list_95 : decode cX5_list 95 = .ok (.ireturn, 1) := by decide +kernel
theorem dX5_list_96 : decode cX5_list 96 = .ok (.aload_n 0, 1) := by decide +kernel
theorem dX5_list_97 : decode cX5_list 97 = .ok (.getfield 12, 3) := by decide +kernel
theorem dX5_list_100 : decode cX5_list 100 = .ok (.getfield 57, 3) := by decide +kernel
theorem dX5_list_103 : decode cX5_list 103 = .ok (.iload_n 1, 1) := by decide +kernel
theorem dX5_list_104 : decode cX5_list 104 = .ok (.invokevirtual 216, 3) := by decide +kernel
theorem dX5_list_107 : decode cX5_list 107 = .ok (.ireturn, 1) := by decide +kernel
theorem dX5_list_108 : decode cX5_list 108 = .ok (.bipush (-2), 2) := by decide +kernel
theorem dX5_list_110 : decode cX5_list 110 = .ok (.ireturn, 1) := by decide +kernel
theorem dX5_entry_0 : decode cX5_entry 0 = .ok (.iload_n 1, 1) := by decide +kernel
theorem dX5_entry_1 : decode cX5_entry 1 = .ok (.invokestatic 44, 3) := by decide +kernel
theorem dX5_entry_4 : decode cX5_entry 4 = .ok (.ifCond .ne 5, 3) := by decide +kernel
theorem dX5_entry_7 : decode cX5_entry 7 = .ok (.iconst (-1), 1) := by decide +kernel
theorem dX5_entry_8 : decode cX5_entry 8 = .ok (.ireturn, 1) := by decide +kernel
theorem dX5_entry_9 : decode cX5_entry 9 = .ok (.iload_n 2, 1) := by decide +kernel
theorem dX5_entry_10 : decode cX5_entry 10 = .ok (.ifCond .lt 12, 3) := by decide +kernel
theorem dX5_entry_13 : decode cX5_entry 13 = .ok (.iload_n 3, 1) := by decide +kernel
theorem dX5_entry_14 : decode cX5_entry 14 = .ok (.ifCond .lt 8, 3) := by decide +kernel
theorem dX5_entry_17 : decode cX5_entry 17 = .ok (.iload_n 3, 1) := by decide +kernel
theorem dX5_entry_18 : decode cX5_entry 18 = .ok (.iconst 1, 1) := by decide +kernel
theorem dX5_entry_19 : decode cX5_entry 19 = .ok (.if_icmp .le 6, 3) := by decide +kernel
theorem dX5_entry_22 : decode cX5_entry 22 = .ok (.bipush (-2), 2) := by decide +kernel
theorem dX5_entry_24 : decode cX5_entry 24 = .ok (.ireturn, 1) := by decide +kernel
theorem dX5_entry_25 : decode cX5_entry 25 = .ok (.iload_n 2, 1) := by decide +kernel
theorem dX5_entry_26 : decode cX5_entry 26 = .ok (.aload_n 0, 1) := by decide +kernel
theorem dX5_entry_27 : decode cX5_entry 27 = .ok (.getfield 12, 3) := by decide +kernel
theorem dX5_entry_30 : decode cX5_entry 30 = .ok (.getfield 57, 3) := by decide +kernel
theorem dX5_entry_33 : decode cX5_entry 33 = .ok (.iload_n 1, 1) := by decide +kernel
theorem dX5_entry_34 : decode cX5_entry 34 = .ok (.invokevirtual 67, 3) := by decide +kernel
theorem dX5_entry_37 : decode cX5_entry 37 = .ok (.if_icmp .lt 6, 3) := by decide +kernel
theorem dX5_entry_40 : decode cX5_entry 40 = .ok (.bipush (-5), 2) := by decide +kernel
theorem dX5_entry_42 : decode cX5_entry 42 = .ok (.ireturn, 1) := by decide +kernel
theorem dX5_entry_43 : decode cX5_entry 43 = .ok (.iload_n 3, 1) := by decide +kernel
theorem dX5_entry_44 : decode cX5_entry 44 = .ok (.ifCond .ne 18, 3) := by decide +kernel
theorem dX5_entry_47 : decode cX5_entry 47 = .ok (.aload_n 0, 1) := by decide +kernel
theorem dX5_entry_48 : decode cX5_entry 48 = .ok (.getfield 12, 3) := by decide +kernel
theorem dX5_entry_51 : decode cX5_entry 51 = .ok (.getfield 57, 3) := by decide +kernel
theorem dX5_entry_54 : decode cX5_entry 54 = .ok (.iload_n 1, 1) := by decide +kernel
theorem dX5_entry_55 : decode cX5_entry 55 = .ok (.iload_n 2, 1) := by decide +kernel
theorem dX5_entry_56 : decode cX5_entry 56 = .ok (.invokevirtual 219, 3) := by decide +kernel
theorem dX5_entry_59 : decode cX5_entry 59 = .ok (.goto 15, 3) := by decide +kernel
theorem dX5_entry_62 : decode cX5_entry 62 = .ok (.aload_n 0, 1) := by decide +kernel
theorem dX5_entry_63 : decode cX5_entry 63 = .ok (.getfield 12, 3) := by decide +kernel
theorem dX5_entry_66 : decode cX5_entry 66 = .ok (.getfield 57, 3) := by decide +kernel
theorem dX5_entry_69 : decode cX5_entry 69 = .ok (.iload_n 1, 1) := by decide +kernel
theorem dX5_entry_70 : decode cX5_entry 70 = .ok (.iload_n 2, 1) := by decide +kernel
theorem dX5_entry_71 : decode cX5_entry 71 = .ok (.invokevirtual 213, 3) := by decide +kernel
theorem dX5_entry_74 : decode cX5_entry 74 = .ok (.ireturn, 1) := by decide +kernel
theorem dX5_document_0 : decode cX5_document 0 = .ok (.iload_n 1, 1) := by decide +kernel
theorem dX5_document_1 : decode cX5_document 1 = .ok (.invokestatic 48, 3) := by decide +kernel
theorem dX5_document_4 : decode cX5_document 4 = .ok (.ifCond .ne 5, 3) := by decide +kernel
theorem dX5_document_7 : decode cX5_document 7 = .ok (.iconst (-1), 1) := by decide +kernel
theorem dX5_document_8 : decode cX5_document 8 = .ok (.ireturn, 1) := by decide +kernel
theorem dX5_document_9 : decode cX5_document 9 = .ok (.iload_n 2, 1) := by decide +kernel
theorem dX5_document_10 : decode cX5_document 10 = .ok (.tableswitch 81 0 3 #[30, 45, 57, 69], 30) := by decide +kernel
theorem dX5_document_40 : decode cX5_document 40 = .ok (.aload_n 0, 1) := by decide +kernel
theorem dX5_document_41 : decode cX5_document 41 = .ok (.getfield 12, 3) := by decide +kernel
theorem dX5_document_44 : decode cX5_document 44 = .ok (.getfield 57, 3) := by decide +kernel
theorem dX5_document_47 : decode cX5_document 47 = .ok (.iload_n 1, 1) := by decide +kernel
theorem dX5_document_48 : decode cX5_document 48 = .ok (.invokevirtual 87, 3) := by decide +kernel
theorem dX5_document_51 : decode cX5_document 51 = .ok (.invokestatic 143, 3) := by decide +kernel
theorem dX5_document_54 : decode cX5_document 54 = .ok (.ireturn, 1) := by decide +kernel
theorem dX5_document_55 : decode cX5_document 55 = .ok (.aload_n 0, 1) := by decide +kernel
theorem dX5_document_56 : decode cX5_document 56 = .ok (.getfield 12, 3) := by decide +kernel
theorem dX5_document_59 : decode cX5_document 59 = .ok (.getfield 57, 3) := by decide +kernel
theorem dX5_document_62 : decode cX5_document 62 = .ok (.iload_n 1, 1) := by decide +kernel
theorem dX5_document_63 : decode cX5_document 63 = .ok (.invokevirtual 222, 3) := by decide +kernel
theorem dX5_document_66 : decode cX5_document 66 = .ok (.ireturn, 1) := by decide +kernel
theorem dX5_document_67 : decode cX5_document 67 = .ok (.aload_n 0, 1) := by decide +kernel
theorem dX5_document_68 : decode cX5_document 68 = .ok (.getfield 12, 3) := by decide +kernel
theorem dX5_document_71 : decode cX5_document 71 = .ok (.getfield 57, 3) := by decide +kernel
theorem dX5_document_74 : decode cX5_document 74 = .ok (.iload_n 1, 1) := by decide +kernel
theorem dX5_document_75 : decode cX5_document 75 = .ok (.invokevirtual 94, 3) := by decide +kernel
theorem dX5_document_78 : decode cX5_document 78 = .ok (.ireturn, 1) := by decide +kernel
theorem dX5_document_79 : decode cX5_document 79 = .ok (.aload_n 0, 1) := by decide +kernel
theorem dX5_document_80 : decode cX5_document 80 = .ok (.getfield 12, 3) := by decide +kernel
theorem dX5_document_83 : decode cX5_document 83 = .ok (.getfield 57, 3) := by decide +kernel
theorem dX5_document_86 : decode cX5_document 86 = .ok (.iload_n 1, 1) := by decide +kernel
theorem dX5_document_87 : decode cX5_document 87 = .ok (.invokevirtual 225, 3) := by decide +kernel
theorem dX5_document_90 : decode cX5_document 90 = .ok (.ireturn, 1) := by decide +kernel
theorem dX5_document_91 : decode cX5_document 91 = .ok (.bipush (-2), 2) := by decide +kernel
theorem dX5_document_93 : decode cX5_document 93 = .ok (.ireturn, 1) := by decide +kernel
theorem dX5_wanted_0 : decode cX5_wanted 0 = .ok (.iload_n 1, 1) := by decide +kernel
theorem dX5_wanted_1 : decode cX5_wanted 1 = .ok (.ifCond .ge 6, 3) := by decide +kernel
theorem dX5_wanted_4 : decode cX5_wanted 4 = .ok (.bipush (-2), 2) := by decide +kernel
theorem dX5_wanted_6 : decode cX5_wanted 6 = .ok (.ireturn, 1) := by decide +kernel
theorem dX5_wanted_7 : decode cX5_wanted 7 = .ok (.aload_n 0, 1) := by decide +kernel
theorem dX5_wanted_8 : decode cX5_wanted 8 = .ok (.getfield 12, 3) := by decide +kernel
theorem dX5_wanted_11 : decode cX5_wanted 11 = .ok (.getfield 57, 3) := by decide +kernel
theorem dX5_wanted_14 : decode cX5_wanted 14 = .ok (.iload_n 1, 1) := by decide +kernel
theorem dX5_wanted_15 : decode cX5_wanted 15 = .ok (.invokevirtual 228, 3) := by decide +kernel
theorem dX5_wanted_18 : decode cX5_wanted 18 = .ok (.ireturn, 1) := by decide +kernel
theorem dX5_clerk_0 : decode cX5_clerk 0 = .ok (.iload_n 1, 1) := by decide +kernel
theorem dX5_clerk_1 : decode cX5_clerk 1 = .ok (.invokestatic 44, 3) := by decide +kernel
theorem dX5_clerk_4 : decode cX5_clerk 4 = .ok (.ifCond .ne 5, 3) := by decide +kernel
theorem dX5_clerk_7 : decode cX5_clerk 7 = .ok (.iconst (-1), 1) := by decide +kernel
theorem dX5_clerk_8 : decode cX5_clerk 8 = .ok (.ireturn, 1) := by decide +kernel
theorem dX5_clerk_9 : decode cX5_clerk 9 = .ok (.iload_n 2, 1) := by decide +kernel
theorem dX5_clerk_10 : decode cX5_clerk 10 = .ok (.ifCond .lt 8, 3) := by decide +kernel
theorem dX5_clerk_13 : decode cX5_clerk 13 = .ok (.iload_n 2, 1) := by decide +kernel
theorem dX5_clerk_14 : decode cX5_clerk 14 = .ok (.iconst 4, 1) := by decide +kernel
theorem dX5_clerk_15 : decode cX5_clerk 15 = .ok (.if_icmp .le 6, 3) := by decide +kernel
theorem dX5_clerk_18 : decode cX5_clerk 18 = .ok (.bipush (-2), 2) := by decide +kernel
theorem dX5_clerk_20 : decode cX5_clerk 20 = .ok (.ireturn, 1) := by decide +kernel
theorem dX5_clerk_21 : decode cX5_clerk 21 = .ok (.aload_n 0, 1) := by decide +kernel
theorem dX5_clerk_22 : decode cX5_clerk 22 = .ok (.getfield 12, 3) := by decide +kernel
theorem dX5_clerk_25 : decode cX5_clerk 25 = .ok (.getfield 51, 3) := by decide +kernel
theorem dX5_clerk_28 : decode cX5_clerk 28 = .ok (.getfield 54, 3) := by decide +kernel
theorem dX5_clerk_31 : decode cX5_clerk 31 = .ok (.ifCond .ne 6, 3) := by decide +kernel
theorem dX5_clerk_34 : decode cX5_clerk 34 = .ok (.bipush (-4), 2) := by decide +kernel
theorem dX5_clerk_36 : decode cX5_clerk 36 = .ok (.ireturn, 1) := by decide +kernel
theorem dX5_clerk_37 : decode cX5_clerk 37 = .ok (.aload_n 0, 1) := by decide +kernel
theorem dX5_clerk_38 : decode cX5_clerk 38 = .ok (.getfield 12, 3) := by decide +kernel
theorem dX5_clerk_41 : decode cX5_clerk 41 = .ok (.getfield 57, 3) := by decide +kernel
theorem dX5_clerk_44 : decode cX5_clerk 44 = .ok (.iload_n 1, 1) := by decide +kernel
theorem dX5_clerk_45 : decode cX5_clerk 45 = .ok (.invokevirtual 231, 3) := by decide +kernel
theorem dX5_clerk_48 : decode cX5_clerk 48 = .ok (.ifCond .ne 6, 3) := by decide +kernel
theorem dX5_clerk_51 : decode cX5_clerk 51 = .ok (.bipush (-5), 2) := by decide +kernel
theorem dX5_clerk_53 : decode cX5_clerk 53 = .ok (.ireturn, 1) := by decide +kernel
theorem dX5_clerk_54 : decode cX5_clerk 54 = .ok (.iload_n 2, 1) := by decide +kernel
theorem dX5_clerk_55 : decode cX5_clerk 55 = .ok (.tableswitch 89 0 3 #[29, 44, 59, 74], 29) := by decide +kernel
theorem dX5_clerk_84 : decode cX5_clerk 84 = .ok (.aload_n 0, 1) := by decide +kernel
theorem dX5_clerk_85 : decode cX5_clerk 85 = .ok (.getfield 12, 3) := by decide +kernel
theorem dX5_clerk_88 : decode cX5_clerk 88 = .ok (.getfield 51, 3) := by decide +kernel
theorem dX5_clerk_91 : decode cX5_clerk 91 = .ok (.getfield 234, 3) := by decide +kernel
theorem dX5_clerk_94 : decode cX5_clerk 94 = .ok (.iload_n 1, 1) := by decide +kernel
theorem dX5_clerk_95 : decode cX5_clerk 95 = .ok (.invokestatic 117, 3) := by decide +kernel
theorem dX5_clerk_98 : decode cX5_clerk 98 = .ok (.ireturn, 1) := by decide +kernel
theorem dX5_clerk_99 : decode cX5_clerk 99 = .ok (.aload_n 0, 1) := by decide +kernel
theorem dX5_clerk_100 : decode cX5_clerk 100 = .ok (.getfield 12, 3) := by decide +kernel
theorem dX5_clerk_103 : decode cX5_clerk 103 = .ok (.getfield 51, 3) := by decide +kernel
theorem dX5_clerk_106 : decode cX5_clerk 106 = .ok (.getfield 237, 3) := by decide +kernel
theorem dX5_clerk_109 : decode cX5_clerk 109 = .ok (.iload_n 1, 1) := by decide +kernel
theorem dX5_clerk_110 : decode cX5_clerk 110 = .ok (.invokestatic 117, 3) := by decide +kernel
theorem dX5_clerk_113 : decode cX5_clerk 113 = .ok (.ireturn, 1) := by decide +kernel
theorem dX5_clerk_114 : decode cX5_clerk 114 = .ok (.aload_n 0, 1) := by decide +kernel
theorem dX5_clerk_115 : decode cX5_clerk 115 = .ok (.getfield 12, 3) := by decide +kernel
theorem dX5_clerk_118 : decode cX5_clerk 118 = .ok (.getfield 51, 3) := by decide +kernel
theorem dX5_clerk_121 : decode cX5_clerk 121 = .ok (.getfield 240, 3) := by decide +kernel
theorem dX5_clerk_124 : decode cX5_clerk 124 = .ok (.iload_n 1, 1) := by decide +kernel
theorem dX5_clerk_125 : decode cX5_clerk 125 = .ok (.invokestatic 117, 3) := by decide +kernel
theorem dX5_clerk_128 : decode cX5_clerk 128 = .ok (.ireturn, 1) := by decide +kernel
theorem dX5_clerk_129 : decode cX5_clerk 129 = .ok (.aload_n 0, 1) := by decide +kernel
theorem dX5_clerk_130 : decode cX5_clerk 130 = .ok (.getfield 12, 3) := by decide +kernel
theorem dX5_clerk_133 : decode cX5_clerk 133 = .ok (.getfield 51, 3) := by decide +kernel
theorem dX5_clerk_136 : decode cX5_clerk 136 = .ok (.iload_n 1, 1) := by decide +kernel
theorem dX5_clerk_137 : decode cX5_clerk 137 = .ok (.invokevirtual 243, 3) := by decide +kernel
theorem dX5_clerk_140 : decode cX5_clerk 140 = .ok (.invokestatic 143, 3) := by decide +kernel
theorem dX5_clerk_143 : decode cX5_clerk 143 = .ok (.ireturn, 1) := by decide +kernel
theorem dX5_clerk_144 : decode cX5_clerk 144 = .ok (.aload_n 0, 1) := by decide +kernel
theorem dX5_clerk_145 : decode cX5_clerk 145 = .ok (.getfield 12, 3) := by decide +kernel
theorem dX5_clerk_148 : decode cX5_clerk 148 = .ok (.getfield 51, 3) := by decide +kernel
theorem dX5_clerk_151 : decode cX5_clerk 151 = .ok (.getfield 246, 3) := by decide +kernel
theorem dX5_clerk_154 : decode cX5_clerk 154 = .ok (.iload_n 1, 1) := by decide +kernel
theorem dX5_clerk_155 : decode cX5_clerk 155 = .ok (.invokestatic 117, 3) := by decide +kernel
theorem dX5_clerk_158 : decode cX5_clerk 158 = .ok (.ireturn, 1) := by decide +kernel
theorem dX5_seen_0 : decode cX5_seen 0 = .ok (.iload_n 1, 1) := by decide +kernel
theorem dX5_seen_1 : decode cX5_seen 1 = .ok (.invokestatic 48, 3) := by decide +kernel
theorem dX5_seen_4 : decode cX5_seen 4 = .ok (.ifCond .ne 5, 3) := by decide +kernel
theorem dX5_seen_7 : decode cX5_seen 7 = .ok (.iconst (-1), 1) := by decide +kernel
theorem dX5_seen_8 : decode cX5_seen 8 = .ok (.ireturn, 1) := by decide +kernel
theorem dX5_seen_9 : decode cX5_seen 9 = .ok (.iload_n 2, 1) := by decide +kernel
theorem dX5_seen_10 : decode cX5_seen 10 = .ok (.ifCond .lt 8, 3) := by decide +kernel
theorem dX5_seen_13 : decode cX5_seen 13 = .ok (.iload_n 2, 1) := by decide +kernel
theorem dX5_seen_14 : decode cX5_seen 14 = .ok (.iconst 4, 1) := by decide +kernel
theorem dX5_seen_15 : decode cX5_seen 15 = .ok (.if_icmp .le 6, 3) := by decide +kernel
theorem dX5_seen_18 : decode cX5_seen 18 = .ok (.bipush (-2), 2) := by decide +kernel
theorem dX5_seen_20 : decode cX5_seen 20 = .ok (.ireturn, 1) := by decide +kernel
theorem dX5_seen_21 : decode cX5_seen 21 = .ok (.aload_n 0, 1) := by decide +kernel
theorem dX5_seen_22 : decode cX5_seen 22 = .ok (.getfield 12, 3) := by decide +kernel
theorem dX5_seen_25 : decode cX5_seen 25 = .ok (.getfield 51, 3) := by decide +kernel
theorem dX5_seen_28 : decode cX5_seen 28 = .ok (.getfield 54, 3) := by decide +kernel
theorem dX5_seen_31 : decode cX5_seen 31 = .ok (.ifCond .ne 6, 3) := by decide +kernel
theorem dX5_seen_34 : decode cX5_seen 34 = .ok (.bipush (-4), 2) := by decide +kernel
theorem dX5_seen_36 : decode cX5_seen 36 = .ok (.ireturn, 1) := by decide +kernel
theorem dX5_seen_37 : decode cX5_seen 37 = .ok (.aload_n 0, 1) := by decide +kernel
theorem dX5_seen_38 : decode cX5_seen 38 = .ok (.getfield 12, 3) := by decide +kernel
theorem dX5_seen_41 : decode cX5_seen 41 = .ok (.getfield 51, 3) := by decide +kernel
theorem dX5_seen_44 : decode cX5_seen 44 = .ok (.iload_n 1, 1) := by decide +kernel
theorem dX5_seen_45 : decode cX5_seen 45 = .ok (.invokevirtual 249, 3) := by decide +kernel
theorem dX5_seen_48 : decode cX5_seen 48 = .ok (.ifCond .ne 6, 3) := by decide +kernel
theorem dX5_seen_51 : decode cX5_seen 51 = .ok (.bipush (-5), 2) := by decide +kernel
theorem dX5_seen_53 : decode cX5_seen 53 = .ok (.ireturn, 1) := by decide +kernel
theorem dX5_seen_54 : decode cX5_seen 54 = .ok (.iload_n 2, 1) := by decide +kernel
theorem dX5_seen_55 : decode cX5_seen 55 = .ok (.tableswitch 94 0 3 #[29, 44, 63, 82], 29) := by decide +kernel
theorem dX5_seen_84 : decode cX5_seen 84 = .ok (.aload_n 0, 1) := by decide +kernel
theorem dX5_seen_85 : decode cX5_seen 85 = .ok (.getfield 12, 3) := by decide +kernel
theorem dX5_seen_88 : decode cX5_seen 88 = .ok (.getfield 51, 3) := by decide +kernel
theorem dX5_seen_91 : decode cX5_seen 91 = .ok (.getfield 252, 3) := by decide +kernel
theorem dX5_seen_94 : decode cX5_seen 94 = .ok (.iload_n 1, 1) := by decide +kernel
theorem dX5_seen_95 : decode cX5_seen 95 = .ok (.invokestatic 117, 3) := by decide +kernel
theorem dX5_seen_98 : decode cX5_seen 98 = .ok (.ireturn, 1) := by decide +kernel
theorem dX5_seen_99 : decode cX5_seen 99 = .ok (.aload_n 0, 1) := by decide +kernel
theorem dX5_seen_100 : decode cX5_seen 100 = .ok (.getfield 12, 3) := by decide +kernel
theorem dX5_seen_103 : decode cX5_seen 103 = .ok (.getfield 51, 3) := by decide +kernel
theorem dX5_seen_106 : decode cX5_seen 106 = .ok (.aload_n 0, 1) := by decide +kernel
theorem dX5_seen_107 : decode cX5_seen 107 = .ok (.getfield 12, 3) := by decide +kernel
theorem dX5_seen_110 : decode cX5_seen 110 = .ok (.getfield 57, 3) := by decide +kernel
theorem dX5_seen_113 : decode cX5_seen 113 = .ok (.iload_n 1, 1) := by decide +kernel
theorem dX5_seen_114 : decode cX5_seen 114 = .ok (.invokevirtual 255, 3) := by decide +kernel
theorem dX5_seen_117 : decode cX5_seen 117 = .ok (.ireturn, 1) := by decide +kernel
theorem dX5_seen_118 : decode cX5_seen 118 = .ok (.aload_n 0, 1) := by decide +kernel
theorem dX5_seen_119 : decode cX5_seen 119 = .ok (.getfield 12, 3) := by decide +kernel
theorem dX5_seen_122 : decode cX5_seen 122 = .ok (.getfield 51, 3) := by decide +kernel
theorem dX5_seen_125 : decode cX5_seen 125 = .ok (.aload_n 0, 1) := by decide +kernel
theorem dX5_seen_126 : decode cX5_seen 126 = .ok (.getfield 12, 3) := by decide +kernel
theorem dX5_seen_129 : decode cX5_seen 129 = .ok (.getfield 57, 3) := by decide +kernel
theorem dX5_seen_132 : decode cX5_seen 132 = .ok (.iload_n 1, 1) := by decide +kernel
theorem dX5_seen_133 : decode cX5_seen 133 = .ok (.invokevirtual 258, 3) := by decide +kernel
theorem dX5_seen_136 : decode cX5_seen 136 = .ok (.ireturn, 1) := by decide +kernel
theorem dX5_seen_137 : decode cX5_seen 137 = .ok (.aload_n 0, 1) := by decide +kernel
theorem dX5_seen_138 : decode cX5_seen 138 = .ok (.getfield 12, 3) := by decide +kernel
theorem dX5_seen_141 : decode cX5_seen 141 = .ok (.getfield 51, 3) := by decide +kernel
theorem dX5_seen_144 : decode cX5_seen 144 = .ok (.iload_n 1, 1) := by decide +kernel
theorem dX5_seen_145 : decode cX5_seen 145 = .ok (.invokevirtual 261, 3) := by decide +kernel
theorem dX5_seen_148 : decode cX5_seen 148 = .ok (.ireturn, 1) := by decide +kernel
theorem dX5_seen_149 : decode cX5_seen 149 = .ok (.aload_n 0, 1) := by decide +kernel
theorem dX5_seen_150 : decode cX5_seen 150 = .ok (.getfield 12, 3) := by decide +kernel
theorem dX5_seen_153 : decode cX5_seen 153 = .ok (.getfield 51, 3) := by decide +kernel
theorem dX5_seen_156 : decode cX5_seen 156 = .ok (.getfield 264, 3) := by decide +kernel
theorem dX5_seen_159 : decode cX5_seen 159 = .ok (.iload_n 1, 1) := by decide +kernel
theorem dX5_seen_160 : decode cX5_seen 160 = .ok (.invokestatic 117, 3) := by decide +kernel
theorem dX5_seen_163 : decode cX5_seen 163 = .ok (.ireturn, 1) := by decide +kernel
theorem dX5_told_0 : decode cX5_told 0 = .ok (.iload_n 1, 1) := by decide +kernel
theorem dX5_told_1 : decode cX5_told 1 = .ok (.ifCond .ge 6, 3) := by decide +kernel
theorem dX5_told_4 : decode cX5_told 4 = .ok (.bipush (-2), 2) := by decide +kernel
theorem dX5_told_6 : decode cX5_told 6 = .ok (.ireturn, 1) := by decide +kernel
theorem dX5_told_7 : decode cX5_told 7 = .ok (.aload_n 0, 1) := by decide +kernel
theorem dX5_told_8 : decode cX5_told 8 = .ok (.getfield 12, 3) := by decide +kernel
theorem dX5_told_11 : decode cX5_told 11 = .ok (.getfield 51, 3) := by decide +kernel
theorem dX5_told_14 : decode cX5_told 14 = .ok (.getfield 54, 3) := by decide +kernel
theorem dX5_told_17 : decode cX5_told 17 = .ok (.ifCond .ne 6, 3) := by decide +kernel
theorem dX5_told_20 : decode cX5_told 20 = .ok (.bipush (-4), 2) := by decide +kernel
theorem dX5_told_22 : decode cX5_told 22 = .ok (.ireturn, 1) := by decide +kernel
theorem dX5_told_23 : decode cX5_told 23 = .ok (.iload_n 1, 1) := by decide +kernel
theorem dX5_told_24 : decode cX5_told 24 = .ok (.aload_n 0, 1) := by decide +kernel
theorem dX5_told_25 : decode cX5_told 25 = .ok (.getfield 12, 3) := by decide +kernel
theorem dX5_told_28 : decode cX5_told 28 = .ok (.getfield 51, 3) := by decide +kernel
theorem dX5_told_31 : decode cX5_told 31 = .ok (.aload_n 0, 1) := by decide +kernel
theorem dX5_told_32 : decode cX5_told 32 = .ok (.getfield 12, 3) := by decide +kernel
theorem dX5_told_35 : decode cX5_told 35 = .ok (.getfield 57, 3) := by decide +kernel
theorem dX5_told_38 : decode cX5_told 38 = .ok (.invokevirtual 157, 3) := by decide +kernel
theorem dX5_told_41 : decode cX5_told 41 = .ok (.if_icmp .ge 20, 3) := by decide +kernel
theorem dX5_told_44 : decode cX5_told 44 = .ok (.aload_n 0, 1) := by decide +kernel
theorem dX5_told_45 : decode cX5_told 45 = .ok (.getfield 12, 3) := by decide +kernel
theorem dX5_told_48 : decode cX5_told 48 = .ok (.getfield 51, 3) := by decide +kernel
theorem dX5_told_51 : decode cX5_told 51 = .ok (.getfield 267, 3) := by decide +kernel
theorem dX5_told_54 : decode cX5_told 54 = .ok (.iload_n 1, 1) := by decide +kernel
theorem dX5_told_55 : decode cX5_told 55 = .ok (.invokestatic 117, 3) := by decide +kernel
theorem dX5_told_58 : decode cX5_told 58 = .ok (.goto 5, 3) := by decide +kernel
theorem dX5_told_61 : decode cX5_told 61 = .ok (.bipush (-5), 2) := by decide +kernel
theorem dX5_told_63 : decode cX5_told 63 = .ok (.ireturn, 1) := by decide +kernel
theorem dX5_reading_0 : decode cX5_reading 0 = .ok (.iload_n 1, 1) := by decide +kernel
theorem dX5_reading_1 : decode cX5_reading 1 = .ok (.ifCond .lt 9, 3) := by decide +kernel
theorem dX5_reading_4 : decode cX5_reading 4 = .ok (.iload_n 1, 1) := by decide +kernel
theorem dX5_reading_5 : decode cX5_reading 5 = .ok (.bipush 12, 2) := by decide +kernel
theorem dX5_reading_7 : decode cX5_reading 7 = .ok (.if_icmp .le 6, 3) := by decide +kernel
theorem dX5_reading_10 : decode cX5_reading 10 = .ok (.bipush (-2), 2) := by decide +kernel
theorem dX5_reading_12 : decode cX5_reading 12 = .ok (.ireturn, 1) := by decide +kernel
theorem dX5_reading_13 : decode cX5_reading 13 = .ok (.aload_n 0, 1) := by decide +kernel
theorem dX5_reading_14 : decode cX5_reading 14 = .ok (.getfield 12, 3) := by decide +kernel
theorem dX5_reading_17 : decode cX5_reading 17 = .ok (.getfield 51, 3) := by decide +kernel
theorem dX5_reading_20 : decode cX5_reading 20 = .ok (.getfield 54, 3) := by decide +kernel
theorem dX5_reading_23 : decode cX5_reading 23 = .ok (.ifCond .ne 6, 3) := by decide +kernel
theorem dX5_reading_26 : decode cX5_reading 26 = .ok (.bipush (-4), 2) := by decide +kernel
theorem dX5_reading_28 : decode cX5_reading 28 = .ok (.ireturn, 1) := by decide +kernel
theorem dX5_reading_29 : decode cX5_reading 29 = .ok (.iload_n 1, 1) := by decide +kernel
theorem dX5_reading_30 : decode cX5_reading 30 = .ok (.tableswitch 264 0 11 #[62, 73, 84, 95, 106, 117, 135, 156, 199, 217, 235, 246], 62) := by decide +kernel
theorem dX5_reading_92 : decode cX5_reading 92 = .ok (.aload_n 0, 1) := by decide +kernel
theorem dX5_reading_93 : decode cX5_reading 93 = .ok (.getfield 12, 3) := by decide +kernel
theorem dX5_reading_96 : decode cX5_reading 96 = .ok (.getfield 51, 3) := by decide +kernel
theorem dX5_reading_99 : decode cX5_reading 99 = .ok (.getfield 270, 3) := by decide +kernel
theorem dX5_reading_102 : decode cX5_reading 102 = .ok (.ireturn, 1) := by decide +kernel
theorem dX5_reading_103 : decode cX5_reading 103 = .ok (.aload_n 0, 1) := by decide +kernel
theorem dX5_reading_104 : decode cX5_reading 104 = .ok (.getfield 12, 3) := by decide +kernel
theorem dX5_reading_107 : decode cX5_reading 107 = .ok (.getfield 51, 3) := by decide +kernel
theorem dX5_reading_110 : decode cX5_reading 110 = .ok (.getfield 273, 3) := by decide +kernel
theorem dX5_reading_113 : decode cX5_reading 113 = .ok (.ireturn, 1) := by decide +kernel
theorem dX5_reading_114 : decode cX5_reading 114 = .ok (.aload_n 0, 1) := by decide +kernel
theorem dX5_reading_115 : decode cX5_reading 115 = .ok (.getfield 12, 3) := by decide +kernel
theorem dX5_reading_118 : decode cX5_reading 118 = .ok (.getfield 51, 3) := by decide +kernel
theorem dX5_reading_121 : decode cX5_reading 121 = .ok (.invokevirtual 276, 3) := by decide +kernel
theorem dX5_reading_124 : decode cX5_reading 124 = .ok (.ireturn, 1) := by decide +kernel
theorem dX5_reading_125 : decode cX5_reading 125 = .ok (.aload_n 0, 1) := by decide +kernel
theorem dX5_reading_126 : decode cX5_reading 126 = .ok (.getfield 12, 3) := by decide +kernel
theorem dX5_reading_129 : decode cX5_reading 129 = .ok (.getfield 51, 3) := by decide +kernel
theorem dX5_reading_132 : decode cX5_reading 132 = .ok (.invokevirtual 279, 3) := by decide +kernel
theorem dX5_reading_135 : decode cX5_reading 135 = .ok (.ireturn, 1) := by decide +kernel
theorem dX5_reading_136 : decode cX5_reading 136 = .ok (.aload_n 0, 1) := by decide +kernel
theorem dX5_reading_137 : decode cX5_reading 137 = .ok (.getfield 12, 3) := by decide +kernel
theorem dX5_reading_140 : decode cX5_reading 140 = .ok (.getfield 51, 3) := by decide +kernel
theorem dX5_reading_143 : decode cX5_reading 143 = .ok (.getfield 282, 3) := by decide +kernel
theorem dX5_reading_146 : decode cX5_reading 146 = .ok (.ireturn, 1) := by decide +kernel
theorem dX5_reading_147 : decode cX5_reading 147 = .ok (.aload_n 0, 1) := by decide +kernel
theorem dX5_reading_148 : decode cX5_reading 148 = .ok (.getfield 12, 3) := by decide +kernel
theorem dX5_reading_151 : decode cX5_reading 151 = .ok (.getfield 51, 3) := by decide +kernel
theorem dX5_reading_154 : decode cX5_reading 154 = .ok (.aload_n 0, 1) := by decide +kernel
theorem dX5_reading_155 : decode cX5_reading 155 = .ok (.getfield 12, 3) := by decide +kernel
theorem dX5_reading_158 : decode cX5_reading 158 = .ok (.getfield 57, 3) := by decide +kernel
theorem dX5_reading_161 : decode cX5_reading 161 = .ok (.invokevirtual 157, 3) := by decide +kernel
theorem dX5_reading_164 : decode cX5_reading 164 = .ok (.ireturn, 1) := by decide +kernel
theorem dX5_reading_165 : decode cX5_reading 165 = .ok (.aload_n 0, 1) := by decide +kernel
theorem dX5_reading_166 : decode cX5_reading 166 = .ok (.getfield 12, 3) := by decide +kernel
theorem dX5_reading_169 : decode cX5_reading 169 = .ok (.getfield 51, 3) := by decide +kernel
theorem dX5_reading_172 : decode cX5_reading 172 = .ok (.aload_n 0, 1) := by decide +kernel
theorem dX5_reading_173 : decode cX5_reading 173 = .ok (.getfield 12, 3) := by decide +kernel
theorem dX5_reading_176 : decode cX5_reading 176 = .ok (.getfield 57, 3) := by decide +kernel
theorem dX5_reading_179 : decode cX5_reading 179 = .ok (.invokevirtual 139, 3) := by decide +kernel
theorem dX5_reading_182 : decode cX5_reading 182 = .ok (.invokestatic 143, 3) := by decide +kernel
theorem dX5_reading_185 : decode cX5_reading 185 = .ok (.ireturn, 1) := by decide +kernel
theorem dX5_reading_186 : decode cX5_reading 186 = .ok (.aload_n 0, 1) := by decide +kernel
theorem dX5_reading_187 : decode cX5_reading 187 = .ok (.getfield 12, 3) := by decide +kernel
theorem dX5_reading_190 : decode cX5_reading 190 = .ok (.getfield 51, 3) := by decide +kernel
theorem dX5_reading_193 : decode cX5_reading 193 = .ok (.aload_n 0, 1) := by decide +kernel
theorem dX5_reading_194 : decode cX5_reading 194 = .ok (.getfield 12, 3) := by decide +kernel
theorem dX5_reading_197 : decode cX5_reading 197 = .ok (.getfield 57, 3) := by decide +kernel
theorem dX5_reading_200 : decode cX5_reading 200 = .ok (.invokevirtual 139, 3) := by decide +kernel
theorem dX5_reading_203 : decode cX5_reading 203 = .ok (.ifCond .eq 8, 3) := by decide +kernel
theorem dX5_reading_206 : decode cX5_reading 206 = .ok (.bipush (-5), 2) := by decide +kernel
theorem dX5_reading_208 : decode cX5_reading 208 = .ok (.goto 20, 3) := by decide +kernel
theorem dX5_reading_211 : decode cX5_reading 211 = .ok (.aload_n 0, 1) := by decide +kernel
theorem dX5_reading_212 : decode cX5_reading 212 = .ok (.getfield 12, 3) := by decide +kernel
theorem dX5_reading_215 : decode cX5_reading 215 = .ok (.getfield 51, 3) := by decide +kernel
theorem dX5_reading_218 : decode cX5_reading 218 = .ok (.aload_n 0, 1) := by decide +kernel
theorem dX5_reading_219 : decode cX5_reading 219 = .ok (.getfield 12, 3) := by decide +kernel
theorem dX5_reading_222 : decode cX5_reading 222 = .ok (.getfield 57, 3) := by decide +kernel
theorem dX5_reading_225 : decode cX5_reading 225 = .ok (.invokevirtual 285, 3) := by decide +kernel
theorem dX5_reading_228 : decode cX5_reading 228 = .ok (.ireturn, 1) := by decide +kernel
theorem dX5_reading_229 : decode cX5_reading 229 = .ok (.aload_n 0, 1) := by decide +kernel
theorem dX5_reading_230 : decode cX5_reading 230 = .ok (.getfield 12, 3) := by decide +kernel
theorem dX5_reading_233 : decode cX5_reading 233 = .ok (.getfield 51, 3) := by decide +kernel
theorem dX5_reading_236 : decode cX5_reading 236 = .ok (.aload_n 0, 1) := by decide +kernel
theorem dX5_reading_237 : decode cX5_reading 237 = .ok (.getfield 12, 3) := by decide +kernel
theorem dX5_reading_240 : decode cX5_reading 240 = .ok (.getfield 57, 3) := by decide +kernel
theorem dX5_reading_243 : decode cX5_reading 243 = .ok (.invokevirtual 288, 3) := by decide +kernel
theorem dX5_reading_246 : decode cX5_reading 246 = .ok (.ireturn, 1) := by decide +kernel
theorem dX5_reading_247 : decode cX5_reading 247 = .ok (.aload_n 0, 1) := by decide +kernel
theorem dX5_reading_248 : decode cX5_reading 248 = .ok (.getfield 12, 3) := by decide +kernel
theorem dX5_reading_251 : decode cX5_reading 251 = .ok (.getfield 51, 3) := by decide +kernel
theorem dX5_reading_254 : decode cX5_reading 254 = .ok (.aload_n 0, 1) := by decide +kernel
theorem dX5_reading_255 : decode cX5_reading 255 = .ok (.getfield 12, 3) := by decide +kernel
theorem dX5_reading_258 : decode cX5_reading 258 = .ok (.getfield 57, 3) := by decide +kernel
theorem dX5_reading_261 : decode cX5_reading 261 = .ok (.invokevirtual 291, 3) := by decide +kernel
theorem dX5_reading_264 : decode cX5_reading 264 = .ok (.ireturn, 1) := by decide +kernel
theorem dX5_reading_265 : decode cX5_reading 265 = .ok (.aload_n 0, 1) := by decide +kernel
theorem dX5_reading_266 : decode cX5_reading 266 = .ok (.getfield 12, 3) := by decide +kernel
theorem dX5_reading_269 : decode cX5_reading 269 = .ok (.getfield 51, 3) := by decide +kernel
theorem dX5_reading_272 : decode cX5_reading 272 = .ok (.invokevirtual 147, 3) := by decide +kernel
theorem dX5_reading_275 : decode cX5_reading 275 = .ok (.ireturn, 1) := by decide +kernel
theorem dX5_reading_276 : decode cX5_reading 276 = .ok (.aload_n 0, 1) := by decide +kernel
theorem dX5_reading_277 : decode cX5_reading 277 = .ok (.getfield 12, 3) := by decide +kernel
theorem dX5_reading_280 : decode cX5_reading 280 = .ok (.getfield 51, 3) := by decide +kernel
theorem dX5_reading_283 : decode cX5_reading 283 = .ok (.aload_n 0, 1) := by decide +kernel
theorem dX5_reading_284 : decode cX5_reading 284 = .ok (.getfield 12, 3) := by decide +kernel
theorem dX5_reading_287 : decode cX5_reading 287 = .ok (.getfield 57, 3) := by decide +kernel
theorem dX5_reading_290 : decode cX5_reading 290 = .ok (.invokevirtual 294, 3) := by decide +kernel
theorem dX5_reading_293 : decode cX5_reading 293 = .ok (.ireturn, 1) := by decide +kernel
theorem dX5_reading_294 : decode cX5_reading 294 = .ok (.aload_n 0, 1) := by decide +kernel
theorem dX5_reading_295 : decode cX5_reading 295 = .ok (.getfield 12, 3) := by decide +kernel
theorem dX5_reading_298 : decode cX5_reading 298 = .ok (.getfield 51, 3) := by decide +kernel
theorem dX5_reading_301 : decode cX5_reading 301 = .ok (.aload_n 0, 1) := by decide +kernel
theorem dX5_reading_302 : decode cX5_reading 302 = .ok (.getfield 12, 3) := by decide +kernel
theorem dX5_reading_305 : decode cX5_reading 305 = .ok (.getfield 57, 3) := by decide +kernel
theorem dX5_reading_308 : decode cX5_reading 308 = .ok (.invokevirtual 297, 3) := by decide +kernel
theorem dX5_reading_311 : decode cX5_reading 311 = .ok (.ireturn, 1) := by decide +kernel
theorem dX5_trial_0 : decode cX5_trial 0 = .ok (.iload_n 1, 1) := by decide +kernel
theorem dX5_trial_1 : decode cX5_trial 1 = .ok (.invokestatic 125, 3) := by decide +kernel
theorem dX5_trial_4 : decode cX5_trial 4 = .ok (.ifCond .eq 12, 3) := by decide +kernel
theorem dX5_trial_7 : decode cX5_trial 7 = .ok (.iload_n 3, 1) := by decide +kernel
theorem dX5_trial_8 : decode cX5_trial 8 = .ok (.ifCond .lt 8, 3) := by decide +kernel
theorem dX5_trial_11 : decode cX5_trial 11 = .ok (.iload_n 3, 1) := by decide +kernel
theorem dX5_trial_12 : decode cX5_trial 12 = .ok (.iconst 3, 1) := by decide +kernel
theorem dX5_trial_13 : decode cX5_trial 13 = .ok (.if_icmp .le 6, 3) := by decide +kernel
theorem dX5_trial_16 : decode cX5_trial 16 = .ok (.bipush (-2), 2) := by decide +kernel
theorem dX5_trial_18 : decode cX5_trial 18 = .ok (.ireturn, 1) := by decide +kernel
theorem dX5_trial_19 : decode cX5_trial 19 = .ok (.aload_n 0, 1) := by decide +kernel
theorem dX5_trial_20 : decode cX5_trial 20 = .ok (.getfield 12, 3) := by decide +kernel
theorem dX5_trial_23 : decode cX5_trial 23 = .ok (.getfield 57, 3) := by decide +kernel
theorem dX5_trial_26 : decode cX5_trial 26 = .ok (.invokevirtual 128, 3) := by decide +kernel
theorem dX5_trial_29 : decode cX5_trial 29 = .ok (.ifCond .ne 6, 3) := by decide +kernel
theorem dX5_trial_32 : decode cX5_trial 32 = .ok (.bipush (-4), 2) := by decide +kernel
theorem dX5_trial_34 : decode cX5_trial 34 = .ok (.ireturn, 1) := by decide +kernel
theorem dX5_trial_35 : decode cX5_trial 35 = .ok (.aload_n 0, 1) := by decide +kernel
theorem dX5_trial_36 : decode cX5_trial 36 = .ok (.getfield 40, 3) := by decide +kernel
theorem dX5_trial_39 : decode cX5_trial 39 = .ok (.aload_n 0, 1) := by decide +kernel
theorem dX5_trial_40 : decode cX5_trial 40 = .ok (.getfield 12, 3) := by decide +kernel
theorem dX5_trial_43 : decode cX5_trial 43 = .ok (.getfield 57, 3) := by decide +kernel
theorem dX5_trial_46 : decode cX5_trial 46 = .ok (.iload_n 1, 1) := by decide +kernel
theorem dX5_trial_47 : decode cX5_trial 47 = .ok (.iload_n 2, 1) := by decide +kernel
end
section
theorem dX5_trial_48 : decode cX5_trial 48 = .ok (.invokevirtual 135, 3) := by decide +kernel
theorem dX5_trial_51 : decode cX5_trial 51 = .ok (.aload_n 0, 1) := by decide +kernel
theorem dX5_trial_52 : decode cX5_trial 52 = .ok (.getfield 40, 3) := by decide +kernel
theorem dX5_trial_55 : decode cX5_trial 55 = .ok (.aload_n 0, 1) := by decide +kernel
theorem dX5_trial_56 : decode cX5_trial 56 = .ok (.getfield 12, 3) := by decide +kernel
theorem dX5_trial_59 : decode cX5_trial 59 = .ok (.getfield 57, 3) := by decide +kernel
theorem dX5_trial_62 : decode cX5_trial 62 = .ok (.sipush 240, 3) := by decide +kernel
theorem dX5_trial_65 : decode cX5_trial 65 = .ok (.invokevirtual 150, 3) := by decide +kernel
theorem dX5_trial_68 : decode cX5_trial 68 = .ok (.pop, 1) := by decide +kernel
theorem dX5_trial_69 : decode cX5_trial 69 = .ok (.iload_n 3, 1) := by decide +kernel
theorem dX5_trial_70 : decode cX5_trial 70 = .ok (.tableswitch 57 0 2 #[26, 34, 42], 26) := by decide +kernel
theorem dX5_trial_96 : decode cX5_trial 96 = .ok (.aload_n 0, 1) := by decide +kernel
theorem dX5_trial_97 : decode cX5_trial 97 = .ok (.getfield 40, 3) := by decide +kernel
theorem dX5_trial_100 : decode cX5_trial 100 = .ok (.getfield 270, 3) := by decide +kernel
theorem dX5_trial_103 : decode cX5_trial 103 = .ok (.ireturn, 1) := by decide +kernel
theorem dX5_trial_104 : decode cX5_trial 104 = .ok (.aload_n 0, 1) := by decide +kernel
theorem dX5_trial_105 : decode cX5_trial 105 = .ok (.getfield 40, 3) := by decide +kernel
theorem dX5_trial_108 : decode cX5_trial 108 = .ok (.invokevirtual 279, 3) := by decide +kernel
theorem dX5_trial_111 : decode cX5_trial 111 = .ok (.ireturn, 1) := by decide +kernel
theorem dX5_trial_112 : decode cX5_trial 112 = .ok (.aload_n 0, 1) := by decide +kernel
theorem dX5_trial_113 : decode cX5_trial 113 = .ok (.getfield 40, 3) := by decide +kernel
theorem dX5_trial_116 : decode cX5_trial 116 = .ok (.aload_n 0, 1) := by decide +kernel
theorem dX5_trial_117 : decode cX5_trial 117 = .ok (.getfield 12, 3) := by decide +kernel
theorem dX5_trial_120 : decode cX5_trial 120 = .ok (.getfield 57, 3) := by decide +kernel
theorem dX5_trial_123 : decode cX5_trial 123 = .ok (.invokevirtual 294, 3) := by decide +kernel
theorem dX5_trial_126 : decode cX5_trial 126 = .ok (.ireturn, 1) := by decide +kernel
theorem dX5_trial_127 : decode cX5_trial 127 = .ok (.aload_n 0, 1) := by decide +kernel
theorem dX5_trial_128 : decode cX5_trial 128 = .ok (.getfield 40, 3) := by decide +kernel
theorem dX5_trial_131 : decode cX5_trial 131 = .ok (.invokevirtual 147, 3) := by decide +kernel
theorem dX5_trial_134 : decode cX5_trial 134 = .ok (.ireturn, 1) := by decide +kernel
theorem dX5_cheapest_0 : decode cX5_cheapest 0 = .ok (.aload_n 0, 1) := by decide +kernel
theorem dX5_cheapest_1 : decode cX5_cheapest 1 = .ok (.getfield 12, 3) := by decide +kernel
theorem dX5_cheapest_4 : decode cX5_cheapest 4 = .ok (.getfield 57, 3) := by decide +kernel
theorem dX5_cheapest_7 : decode cX5_cheapest 7 = .ok (.invokevirtual 128, 3) := by decide +kernel
theorem dX5_cheapest_10 : decode cX5_cheapest 10 = .ok (.ifCond .ne 6, 3) := by decide +kernel
theorem dX5_cheapest_13 : decode cX5_cheapest 13 = .ok (.bipush (-4), 2) := by decide +kernel
theorem dX5_cheapest_15 : decode cX5_cheapest 15 = .ok (.ireturn, 1) := by decide +kernel
theorem dX5_cheapest_16 : decode cX5_cheapest 16 = .ok (.iconst 0, 1) := by decide +kernel
theorem dX5_cheapest_17 : decode cX5_cheapest 17 = .ok (.istore_n 1, 1) := by decide +kernel
theorem dX5_cheapest_18 : decode cX5_cheapest 18 = .ok (.iconst 0, 1) := by decide +kernel
theorem dX5_cheapest_19 : decode cX5_cheapest 19 = .ok (.istore_n 2, 1) := by decide +kernel
theorem dX5_cheapest_20 : decode cX5_cheapest 20 = .ok (.iconst 0, 1) := by decide +kernel
theorem dX5_cheapest_21 : decode cX5_cheapest 21 = .ok (.istore_n 3, 1) := by decide +kernel
theorem dX5_cheapest_22 : decode cX5_cheapest 22 = .ok (.iload_n 3, 1) := by decide +kernel
theorem dX5_cheapest_23 : decode cX5_cheapest 23 = .ok (.bipush 6, 2) := by decide +kernel
theorem dX5_cheapest_25 : decode cX5_cheapest 25 = .ok (.if_icmp .ge 80, 3) := by decide +kernel
theorem dX5_cheapest_28 : decode cX5_cheapest 28 = .ok (.aload_n 0, 1) := by decide +kernel
theorem dX5_cheapest_29 : decode cX5_cheapest 29 = .ok (.getfield 40, 3) := by decide +kernel
theorem dX5_cheapest_32 : decode cX5_cheapest 32 = .ok (.aload_n 0, 1) := by decide +kernel
theorem dX5_cheapest_33 : decode cX5_cheapest 33 = .ok (.getfield 12, 3) := by decide +kernel
theorem dX5_cheapest_36 : decode cX5_cheapest 36 = .ok (.getfield 57, 3) := by decide +kernel
theorem dX5_cheapest_39 : decode cX5_cheapest 39 = .ok (.iload_n 3, 1) := by decide +kernel
theorem dX5_cheapest_40 : decode cX5_cheapest 40 = .ok (.iconst 1, 1) := by decide +kernel
theorem dX5_cheapest_41 : decode cX5_cheapest 41 = .ok (.ishr, 1) := by decide +kernel
theorem dX5_cheapest_42 : decode cX5_cheapest 42 = .ok (.iload_n 3, 1) := by decide +kernel
theorem dX5_cheapest_43 : decode cX5_cheapest 43 = .ok (.iconst 1, 1) := by decide +kernel
theorem dX5_cheapest_44 : decode cX5_cheapest 44 = .ok (.iand, 1) := by decide +kernel
theorem dX5_cheapest_45 : decode cX5_cheapest 45 = .ok (.iconst 1, 1) := by decide +kernel
theorem dX5_cheapest_46 : decode cX5_cheapest 46 = .ok (.if_icmp .ne 7, 3) := by decide +kernel
theorem dX5_cheapest_49 : decode cX5_cheapest 49 = .ok (.iconst 1, 1) := by decide +kernel
theorem dX5_cheapest_50 : decode cX5_cheapest 50 = .ok (.goto 4, 3) := by decide +kernel
theorem dX5_cheapest_53 : decode cX5_cheapest 53 = .ok (.iconst 0, 1) := by decide +kernel
theorem dX5_cheapest_54 : decode cX5_cheapest 54 = .ok (.invokevirtual 135, 3) := by decide +kernel
theorem dX5_cheapest_57 : decode cX5_cheapest 57 = .ok (.aload_n 0, 1) := by decide +kernel
theorem dX5_cheapest_58 : decode cX5_cheapest 58 = .ok (.getfield 40, 3) := by decide +kernel
theorem dX5_cheapest_61 : decode cX5_cheapest 61 = .ok (.aload_n 0, 1) := by decide +kernel
theorem dX5_cheapest_62 : decode cX5_cheapest 62 = .ok (.getfield 12, 3) := by decide +kernel
theorem dX5_cheapest_65 : decode cX5_cheapest 65 = .ok (.getfield 57, 3) := by decide +kernel
theorem dX5_cheapest_68 : decode cX5_cheapest 68 = .ok (.sipush 240, 3) := by decide +kernel
theorem dX5_cheapest_71 : decode cX5_cheapest 71 = .ok (.invokevirtual 150, 3) := by decide +kernel
theorem dX5_cheapest_74 : decode cX5_cheapest 74 = .ok (.pop, 1) := by decide +kernel
theorem dX5_cheapest_75 : decode cX5_cheapest 75 = .ok (.aload_n 0, 1) := by decide +kernel
theorem dX5_cheapest_76 : decode cX5_cheapest 76 = .ok (.getfield 40, 3) := by decide +kernel
theorem dX5_cheapest_79 : decode cX5_cheapest 79 = .ok (.invokevirtual 279, 3) := by decide +kernel
theorem dX5_cheapest_82 : decode cX5_cheapest 82 = .ok (.istore 4, 2) := by decide +kernel
theorem dX5_cheapest_84 : decode cX5_cheapest 84 = .ok (.iload_n 3, 1) := by decide +kernel
theorem dX5_cheapest_85 : decode cX5_cheapest 85 = .ok (.ifCond .eq 9, 3) := by decide +kernel
theorem dX5_cheapest_88 : decode cX5_cheapest 88 = .ok (.iload 4, 2) := by decide +kernel
theorem dX5_cheapest_90 : decode cX5_cheapest 90 = .ok (.iload_n 2, 1) := by decide +kernel
theorem dX5_cheapest_91 : decode cX5_cheapest 91 = .ok (.if_icmp .ge 8, 3) := by decide +kernel
theorem dX5_cheapest_94 : decode cX5_cheapest 94 = .ok (.iload_n 3, 1) := by decide +kernel
theorem dX5_cheapest_95 : decode cX5_cheapest 95 = .ok (.istore_n 1, 1) := by decide +kernel
theorem dX5_cheapest_96 : decode cX5_cheapest 96 = .ok (.iload 4, 2) := by decide +kernel
theorem dX5_cheapest_98 : decode cX5_cheapest 98 = .ok (.istore_n 2, 1) := by decide +kernel
theorem dX5_cheapest_99 : decode cX5_cheapest 99 = .ok (.iinc 3 1, 3) := by decide +kernel
theorem dX5_cheapest_102 : decode cX5_cheapest 102 = .ok (.goto (-80), 3) := by decide +kernel
theorem dX5_cheapest_105 : decode cX5_cheapest 105 = .ok (.iload_n 1, 1) := by decide +kernel
theorem dX5_cheapest_106 : decode cX5_cheapest 106 = .ok (.ireturn, 1) := by decide +kernel
theorem dX5_count_0 : decode cX5_count 0 = .ok (.iload_n 1, 1) := by decide +kernel
theorem dX5_count_1 : decode cX5_count 1 = .ok (.tableswitch 159 0 9 #[55, 66, 77, 88, 102, 113, 127, 135, 143, 151], 55) := by decide +kernel
theorem dX5_count_56 : decode cX5_count 56 = .ok (.aload_n 0, 1) := by decide +kernel
theorem dX5_count_57 : decode cX5_count 57 = .ok (.getfield 12, 3) := by decide +kernel
theorem dX5_count_60 : decode cX5_count 60 = .ok (.getfield 57, 3) := by decide +kernel
theorem dX5_count_63 : decode cX5_count 63 = .ok (.invokevirtual 207, 3) := by decide +kernel
theorem dX5_count_66 : decode cX5_count 66 = .ok (.ireturn, 1) := by decide +kernel
theorem dX5_count_67 : decode cX5_count 67 = .ok (.aload_n 0, 1) := by decide +kernel
theorem dX5_count_68 : decode cX5_count 68 = .ok (.getfield 12, 3) := by decide +kernel
theorem dX5_count_71 : decode cX5_count 71 = .ok (.getfield 57, 3) := by decide +kernel
theorem dX5_count_74 : decode cX5_count 74 = .ok (.invokevirtual 128, 3) := by decide +kernel
theorem dX5_count_77 : decode cX5_count 77 = .ok (.ireturn, 1) := by decide +kernel
theorem dX5_count_78 : decode cX5_count 78 = .ok (.aload_n 0, 1) := by decide +kernel
theorem dX5_count_79 : decode cX5_count 79 = .ok (.getfield 12, 3) := by decide +kernel
theorem dX5_count_82 : decode cX5_count 82 = .ok (.getfield 57, 3) := by decide +kernel
theorem dX5_count_85 : decode cX5_count 85 = .ok (.getfield 110, 3) := by decide +kernel
theorem dX5_count_88 : decode cX5_count 88 = .ok (.ireturn, 1) := by decide +kernel
theorem dX5_count_89 : decode cX5_count 89 = .ok (.aload_n 0, 1) := by decide +kernel
theorem dX5_count_90 : decode cX5_count 90 = .ok (.getfield 12, 3) := by decide +kernel
theorem dX5_count_93 : decode cX5_count 93 = .ok (.getfield 57, 3) := by decide +kernel
theorem dX5_count_96 : decode cX5_count 96 = .ok (.getfield 90, 3) := by decide +kernel
theorem dX5_count_99 : decode cX5_count 99 = .ok (.invokestatic 300, 3) := by decide +kernel
theorem dX5_count_102 : decode cX5_count 102 = .ok (.ireturn, 1) := by decide +kernel
theorem dX5_count_103 : decode cX5_count 103 = .ok (.aload_n 0, 1) := by decide +kernel
theorem dX5_count_104 : decode cX5_count 104 = .ok (.getfield 12, 3) := by decide +kernel
theorem dX5_count_107 : decode cX5_count 107 = .ok (.getfield 57, 3) := by decide +kernel
theorem dX5_count_110 : decode cX5_count 110 = .ok (.invokevirtual 305, 3) := by decide +kernel
theorem dX5_count_113 : decode cX5_count 113 = .ok (.ireturn, 1) := by decide +kernel
theorem dX5_count_114 : decode cX5_count 114 = .ok (.aload_n 0, 1) := by decide +kernel
theorem dX5_count_115 : decode cX5_count 115 = .ok (.getfield 12, 3) := by decide +kernel
theorem dX5_count_118 : decode cX5_count 118 = .ok (.getfield 51, 3) := by decide +kernel
theorem dX5_count_121 : decode cX5_count 121 = .ok (.getfield 54, 3) := by decide +kernel
theorem dX5_count_124 : decode cX5_count 124 = .ok (.invokestatic 143, 3) := by decide +kernel
theorem dX5_count_127 : decode cX5_count 127 = .ok (.ireturn, 1) := by decide +kernel
theorem dX5_count_128 : decode cX5_count 128 = .ok (.aload_n 0, 1) := by decide +kernel
theorem dX5_count_129 : decode cX5_count 129 = .ok (.getfield 12, 3) := by decide +kernel
theorem dX5_count_132 : decode cX5_count 132 = .ok (.getfield 132, 3) := by decide +kernel
theorem dX5_count_135 : decode cX5_count 135 = .ok (.ireturn, 1) := by decide +kernel
theorem dX5_count_136 : decode cX5_count 136 = .ok (.aload_n 0, 1) := by decide +kernel
theorem dX5_count_137 : decode cX5_count 137 = .ok (.getfield 12, 3) := by decide +kernel
theorem dX5_count_140 : decode cX5_count 140 = .ok (.getfield 154, 3) := by decide +kernel
theorem dX5_count_143 : decode cX5_count 143 = .ok (.ireturn, 1) := by decide +kernel
theorem dX5_count_144 : decode cX5_count 144 = .ok (.aload_n 0, 1) := by decide +kernel
theorem dX5_count_145 : decode cX5_count 145 = .ok (.getfield 19, 3) := by decide +kernel
theorem dX5_count_148 : decode cX5_count 148 = .ok (.getfield 198, 3) := by decide +kernel
theorem dX5_count_151 : decode cX5_count 151 = .ok (.ireturn, 1) := by decide +kernel
theorem dX5_count_152 : decode cX5_count 152 = .ok (.aload_n 0, 1) := by decide +kernel
theorem dX5_count_153 : decode cX5_count 153 = .ok (.getfield 33, 3) := by decide +kernel
theorem dX5_count_156 : decode cX5_count 156 = .ok (.getfield 161, 3) := by decide +kernel
theorem dX5_count_159 : decode cX5_count 159 = .ok (.ireturn, 1) := by decide +kernel
theorem dX5_count_160 : decode cX5_count 160 = .ok (.bipush (-2), 2) := by decide +kernel
theorem dX5_count_162 : decode cX5_count 162 = .ok (.ireturn, 1) := by decide +kernel
theorem dX5_isList_0 : decode cX5_isList 0 = .ok (.iload_n 0, 1) := by decide +kernel
theorem dX5_isList_1 : decode cX5_isList 1 = .ok (.ifCond .lt 13, 3) := by decide +kernel
theorem dX5_isList_4 : decode cX5_isList 4 = .ok (.iload_n 0, 1) := by decide +kernel
theorem dX5_isList_5 : decode cX5_isList 5 = .ok (.bipush 6, 2) := by decide +kernel
theorem dX5_isList_7 : decode cX5_isList 7 = .ok (.if_icmp .ge 7, 3) := by decide +kernel
theorem dX5_isList_10 : decode cX5_isList 10 = .ok (.iconst 1, 1) := by decide +kernel
theorem dX5_isList_11 : decode cX5_isList 11 = .ok (.goto 4, 3) := by decide +kernel
theorem dX5_isList_14 : decode cX5_isList 14 = .ok (.iconst 0, 1) := by decide +kernel
theorem dX5_isList_15 : decode cX5_isList 15 = .ok (.ireturn, 1) := by decide +kernel
theorem dX5_isDocument_0 : decode cX5_isDocument 0 = .ok (.iload_n 0, 1) := by decide +kernel
theorem dX5_isDocument_1 : decode cX5_isDocument 1 = .ok (.ifCond .lt 13, 3) := by decide +kernel
theorem dX5_isDocument_4 : decode cX5_isDocument 4 = .ok (.iload_n 0, 1) := by decide +kernel
theorem dX5_isDocument_5 : decode cX5_isDocument 5 = .ok (.bipush 60, 2) := by decide +kernel
theorem dX5_isDocument_7 : decode cX5_isDocument 7 = .ok (.if_icmp .ge 7, 3) := by decide +kernel
theorem dX5_isDocument_10 : decode cX5_isDocument 10 = .ok (.iconst 1, 1) := by decide +kernel
theorem dX5_isDocument_11 : decode cX5_isDocument 11 = .ok (.goto 4, 3) := by decide +kernel
theorem dX5_isDocument_14 : decode cX5_isDocument 14 = .ok (.iconst 0, 1) := by decide +kernel
theorem dX5_isDocument_15 : decode cX5_isDocument 15 = .ok (.ireturn, 1) := by decide +kernel
theorem dX5_isWay_0 : decode cX5_isWay 0 = .ok (.iload_n 0, 1) := by decide +kernel
theorem dX5_isWay_1 : decode cX5_isWay 1 = .ok (.ifCond .lt 12, 3) := by decide +kernel
theorem dX5_isWay_4 : decode cX5_isWay 4 = .ok (.iload_n 0, 1) := by decide +kernel
theorem dX5_isWay_5 : decode cX5_isWay 5 = .ok (.iconst 2, 1) := by decide +kernel
theorem dX5_isWay_6 : decode cX5_isWay 6 = .ok (.if_icmp .gt 7, 3) := by decide +kernel
theorem dX5_isWay_9 : decode cX5_isWay 9 = .ok (.iconst 1, 1) := by decide +kernel
theorem dX5_isWay_10 : decode cX5_isWay 10 = .ok (.goto 4, 3) := by decide +kernel
theorem dX5_isWay_13 : decode cX5_isWay 13 = .ok (.iconst 0, 1) := by decide +kernel
theorem dX5_isWay_14 : decode cX5_isWay 14 = .ok (.ireturn, 1) := by decide +kernel
theorem dX5_oneIf_0 : decode cX5_oneIf 0 = .ok (.iload_n 0, 1) := by decide +kernel
theorem dX5_oneIf_1 : decode cX5_oneIf 1 = .ok (.ifCond .eq 7, 3) := by decide +kernel
theorem dX5_oneIf_4 : decode cX5_oneIf 4 = .ok (.iconst 1, 1) := by decide +kernel
theorem dX5_oneIf_5 : decode cX5_oneIf 5 = .ok (.goto 4, 3) := by decide +kernel
theorem dX5_oneIf_8 : decode cX5_oneIf 8 = .ok (.iconst 0, 1) := by decide +kernel
theorem dX5_oneIf_9 : decode cX5_oneIf 9 = .ok (.ireturn, 1) := by decide +kernel
theorem dX5_at_0 : decode cX5_at 0 = .ok (.iload_n 1, 1) := by decide +kernel
theorem dX5_at_1 : decode cX5_at 1 = .ok (.ifCond .lt 15, 3) := by decide +kernel
theorem dX5_at_4 : decode cX5_at 4 = .ok (.iload_n 1, 1) := by decide +kernel
theorem dX5_at_5 : decode cX5_at 5 = .ok (.aload_n 0, 1) := by decide +kernel
theorem dX5_at_6 : decode cX5_at 6 = .ok (.arraylength, 1) := by decide +kernel
theorem dX5_at_7 : decode cX5_at 7 = .ok (.if_icmp .ge 9, 3) := by decide +kernel
theorem dX5_at_10 : decode cX5_at 10 = .ok (.aload_n 0, 1) := by decide +kernel
theorem dX5_at_11 : decode cX5_at 11 = .ok (.iload_n 1, 1) := by decide +kernel
theorem dX5_at_12 : decode cX5_at 12 = .ok (.iaload, 1) := by decide +kernel
theorem dX5_at_13 : decode cX5_at 13 = .ok (.goto 4, 3) := by decide +kernel
theorem dX5_at_16 : decode cX5_at 16 = .ok (.iconst 0, 1) := by decide +kernel
theorem dX5_at_17 : decode cX5_at 17 = .ok (.ireturn, 1) := by decide +kernel
theorem dX5_put_0 : decode cX5_put 0 = .ok (.iload_n 1, 1) := by decide +kernel
theorem dX5_put_1 : decode cX5_put 1 = .ok (.ifCond .lt 13, 3) := by decide +kernel
theorem dX5_put_4 : decode cX5_put 4 = .ok (.iload_n 1, 1) := by decide +kernel
theorem dX5_put_5 : decode cX5_put 5 = .ok (.aload_n 0, 1) := by decide +kernel
theorem dX5_put_6 : decode cX5_put 6 = .ok (.arraylength, 1) := by decide +kernel
theorem dX5_put_7 : decode cX5_put 7 = .ok (.if_icmp .ge 7, 3) := by decide +kernel
theorem dX5_put_10 : decode cX5_put 10 = .ok (.aload_n 0, 1) := by decide +kernel
theorem dX5_put_11 : decode cX5_put 11 = .ok (.iload_n 1, 1) := by decide +kernel
theorem dX5_put_12 : decode cX5_put 12 = .ok (.iload_n 2, 1) := by decide +kernel
theorem dX5_put_13 : decode cX5_put 13 = .ok (.iastore, 1) := by decide +kernel
theorem dX5_put_14 : decode cX5_put 14 = .ok (.return_, 1) := by decide +kernel
theorem dX5_copyRow_0 : decode cX5_copyRow 0 = .ok (.aload_n 0, 1) := by decide +kernel
theorem dX5_copyRow_1 : decode cX5_copyRow 1 = .ok (.iconst 0, 1) := by decide +kernel
theorem dX5_copyRow_2 : decode cX5_copyRow 2 = .ok (.aload_n 1, 1) := by decide +kernel
theorem dX5_copyRow_3 : decode cX5_copyRow 3 = .ok (.iconst 0, 1) := by decide +kernel
theorem dX5_copyRow_4 : decode cX5_copyRow 4 = .ok (.aload_n 0, 1) := by decide +kernel
theorem dX5_copyRow_5 : decode cX5_copyRow 5 = .ok (.arraylength, 1) := by decide +kernel
theorem dX5_copyRow_6 : decode cX5_copyRow 6 = .ok (.aload_n 1, 1) := by decide +kernel
theorem dX5_copyRow_7 : decode cX5_copyRow 7 = .ok (.arraylength, 1) := by decide +kernel
theorem dX5_copyRow_8 : decode cX5_copyRow 8 = .ok (.invokestatic 308, 3) := by decide +kernel
theorem dX5_copyRow_11 : decode cX5_copyRow 11 = .ok (.invokestatic 313, 3) := by decide +kernel
theorem dX5_copyRow_14 : decode cX5_copyRow 14 = .ok (.return_, 1) := by decide +kernel
theorem dX6_init_0 : decode cX6_init 0 = .ok (.aload_n 0, 1) := by decide +kernel
theorem dX6_init_1 : decode cX6_init 1 = .ok (.invokespecial 1, 3) := by decide +kernel
theorem dX6_init_4 : decode cX6_init 4 = .ok (.aload_n 0, 1) := by decide +kernel
theorem dX6_init_5 : decode cX6_init 5 = .ok (.sipush 706, 3) := by decide +kernel
theorem dX6_init_8 : decode cX6_init 8 = .ok (.newarray .int, 2) := by decide +kernel
theorem dX6_init_10 : decode cX6_init 10 = .ok (.putfield 7, 3) := by decide +kernel
theorem dX6_init_13 : decode cX6_init 13 = .ok (.aload_n 0, 1) := by decide +kernel
theorem dX6_init_14 : decode cX6_init 14 = .ok (.sipush 2824, 3) := by decide +kernel
theorem dX6_init_17 : decode cX6_init 17 = .ok (.newarray .int, 2) := by decide +kernel
theorem dX6_init_19 : decode cX6_init 19 = .ok (.putfield 13, 3) := by decide +kernel
theorem dX6_init_22 : decode cX6_init 22 = .ok (.aload_n 0, 1) := by decide +kernel
theorem dX6_init_23 : decode cX6_init 23 = .ok (.sipush 706, 3) := by decide +kernel
theorem dX6_init_26 : decode cX6_init 26 = .ok (.newarray .int, 2) := by decide +kernel
theorem dX6_init_28 : decode cX6_init 28 = .ok (.putfield 16, 3) := by decide +kernel
theorem dX6_init_31 : decode cX6_init 31 = .ok (.aload_n 0, 1) := by decide +kernel
theorem dX6_init_32 : decode cX6_init 32 = .ok (.sipush 706, 3) := by decide +kernel
theorem dX6_init_35 : decode cX6_init 35 = .ok (.newarray .int, 2) := by decide +kernel
theorem dX6_init_37 : decode cX6_init 37 = .ok (.putfield 19, 3) := by decide +kernel
theorem dX6_init_40 : decode cX6_init 40 = .ok (.aload_n 0, 1) := by decide +kernel
theorem dX6_init_41 : decode cX6_init 41 = .ok (.bipush 60, 2) := by decide +kernel
theorem dX6_init_43 : decode cX6_init 43 = .ok (.newarray .int, 2) := by decide +kernel
theorem dX6_init_45 : decode cX6_init 45 = .ok (.putfield 22, 3) := by decide +kernel
theorem dX6_init_48 : decode cX6_init 48 = .ok (.aload_n 0, 1) := by decide +kernel
theorem dX6_init_49 : decode cX6_init 49 = .ok (.bipush 40, 2) := by decide +kernel
theorem dX6_init_51 : decode cX6_init 51 = .ok (.newarray .char, 2) := by decide +kernel
theorem dX6_init_53 : decode cX6_init 53 = .ok (.putfield 25, 3) := by decide +kernel
theorem dX6_init_56 : decode cX6_init 56 = .ok (.aload_n 0, 1) := by decide +kernel
theorem dX6_init_57 : decode cX6_init 57 = .ok (.iconst 3, 1) := by decide +kernel
theorem dX6_init_58 : decode cX6_init 58 = .ok (.newarray .int, 2) := by decide +kernel
theorem dX6_init_60 : decode cX6_init 60 = .ok (.putfield 29, 3) := by decide +kernel
theorem dX6_init_63 : decode cX6_init 63 = .ok (.aload_n 0, 1) := by decide +kernel
theorem dX6_init_64 : decode cX6_init 64 = .ok (.getfield 7, 3) := by decide +kernel
theorem dX6_init_67 : decode cX6_init 67 = .ok (.sipush 558, 3) := by decide +kernel
theorem dX6_init_70 : decode cX6_init 70 = .ok (.iconst 3, 1) := by decide +kernel
theorem dX6_init_71 : decode cX6_init 71 = .ok (.iastore, 1) := by decide +kernel
theorem dX6_init_72 : decode cX6_init 72 = .ok (.aload_n 0, 1) := by decide +kernel
theorem dX6_init_73 : decode cX6_init 73 = .ok (.getfield 7, 3) := by decide +kernel
theorem dX6_init_76 : decode cX6_init 76 = .ok (.sipush 563, 3) := by decide +kernel
theorem dX6_init_79 : decode cX6_init 79 = .ok (.iconst (-1), 1) := by decide +kernel
theorem dX6_init_80 : decode cX6_init 80 = .ok (.iastore, 1) := by decide +kernel
theorem dX6_init_81 : decode cX6_init 81 = .ok (.return_, 1) := by decide +kernel
theorem dX6_record_0 : decode cX6_record 0 = .ok (.aload_n 0, 1) := by decide +kernel
theorem dX6_record_1 : decode cX6_record 1 = .ok (.getfield 32, 3) := by decide +kernel
theorem dX6_record_4 : decode cX6_record 4 = .ok (.iconst 4, 1) := by decide +kernel
theorem dX6_record_5 : decode cX6_record 5 = .ok (.if_icmp .ne 44, 3) := by decide +kernel
theorem dX6_record_8 : decode cX6_record 8 = .ok (.iconst 0, 1) := by decide +kernel
theorem dX6_record_9 : decode cX6_record 9 = .ok (.istore_n 1, 1) := by decide +kernel
theorem dX6_record_10 : decode cX6_record 10 = .ok (.iload_n 1, 1) := by decide +kernel
theorem dX6_record_11 : decode cX6_record 11 = .ok (.sipush 2118, 3) := by decide +kernel
theorem dX6_record_14 : decode cX6_record 14 = .ok (.if_icmp .ge 25, 3) := by decide +kernel
theorem dX6_record_17 : decode cX6_record 17 = .ok (.aload_n 0, 1) := by decide +kernel
theorem dX6_record_18 : decode cX6_record 18 = .ok (.getfield 13, 3) := by decide +kernel
theorem dX6_record_21 : decode cX6_record 21 = .ok (.iload_n 1, 1) := by decide +kernel
theorem dX6_record_22 : decode cX6_record 22 = .ok (.aload_n 0, 1) := by decide +kernel
theorem dX6_record_23 : decode cX6_record 23 = .ok (.getfield 13, 3) := by decide +kernel
theorem dX6_record_26 : decode cX6_record 26 = .ok (.iload_n 1, 1) := by decide +kernel
theorem dX6_record_27 : decode cX6_record 27 = .ok (.sipush 706, 3) := by decide +kernel
theorem dX6_record_30 : decode cX6_record 30 = .ok (.iadd, 1) := by decide +kernel
theorem dX6_record_31 : decode cX6_record 31 = .ok (.iaload, 1) := by decide +kernel
theorem dX6_record_32 : decode cX6_record 32 = .ok (.iastore, 1) := by decide +kernel
theorem dX6_record_33 : decode cX6_record 33 = .ok (.iinc 1 1, 3) := by decide +kernel
theorem dX6_record_36 : decode cX6_record 36 = .ok (.goto (-26), 3) := by decide +kernel
theorem dX6_record_39 : decode cX6_record 39 = .ok (.aload_n 0, 1) := by decide +kernel
theorem dX6_record_40 : decode cX6_record 40 = .ok (.dup, 1) := by decide +kernel
theorem dX6_record_41 : decode cX6_record 41 = .ok (.getfield 32, 3) := by decide +kernel
theorem dX6_record_44 : decode cX6_record 44 = .ok (.iconst 1, 1) := by decide +kernel
theorem dX6_record_45 : decode cX6_record 45 = .ok (.isub, 1) := by decide +kernel
theorem dX6_record_46 : decode cX6_record 46 = .ok (.putfield 32, 3) := by decide +kernel
theorem dX6_record_49 : decode cX6_record 49 = .ok (.iconst 0, 1) := by decide +kernel
theorem dX6_record_50 : decode cX6_record 50 = .ok (.istore_n 1, 1) := by decide +kernel
theorem dX6_record_51 : decode cX6_record 51 = .ok (.iload_n 1, 1) := by decide +kernel
theorem dX6_record_52 : decode cX6_record 52 = .ok (.sipush 706, 3) := by decide +kernel
theorem dX6_record_55 : decode cX6_record 55 = .ok (.if_icmp .ge 30, 3) := by decide +kernel
theorem dX6_record_58 : decode cX6_record 58 = .ok (.aload_n 0, 1) := by decide +kernel
theorem dX6_record_59 : decode cX6_record 59 = .ok (.getfield 13, 3) := by decide +kernel
theorem dX6_record_62 : decode cX6_record 62 = .ok (.aload_n 0, 1) := by decide +kernel
theorem dX6_record_63 : decode cX6_record 63 = .ok (.getfield 32, 3) := by decide +kernel
theorem dX6_record_66 : decode cX6_record 66 = .ok (.sipush 706, 3) := by decide +kernel
theorem dX6_record_69 : decode cX6_record 69 = .ok (.imul, 1) := by decide +kernel
theorem dX6_record_70 : decode cX6_record 70 = .ok (.iload_n 1, 1) := by decide +kernel
theorem dX6_record_71 : decode cX6_record 71 = .ok (.iadd, 1) := by decide +kernel
theorem dX6_record_72 : decode cX6_record 72 = .ok (.aload_n 0, 1) := by decide +kernel
theorem dX6_record_73 : decode cX6_record 73 = .ok (.getfield 7, 3) := by decide +kernel
theorem dX6_record_76 : decode cX6_record 76 = .ok (.iload_n 1, 1) := by decide +kernel
theorem dX6_record_77 : decode cX6_record 77 = .ok (.iaload, 1) := by decide +kernel
theorem dX6_record_78 : decode cX6_record 78 = .ok (.iastore, 1) := by decide +kernel
theorem dX6_record_79 : decode cX6_record 79 = .ok (.iinc 1 1, 3) := by decide +kernel
theorem dX6_record_82 : decode cX6_record 82 = .ok (.goto (-31), 3) := by decide +kernel
theorem dX6_record_85 : decode cX6_record 85 = .ok (.aload_n 0, 1) := by decide +kernel
theorem dX6_record_86 : decode cX6_record 86 = .ok (.dup, 1) := by decide +kernel
theorem dX6_record_87 : decode cX6_record 87 = .ok (.getfield 32, 3) := by decide +kernel
theorem dX6_record_90 : decode cX6_record 90 = .ok (.iconst 1, 1) := by decide +kernel
theorem dX6_record_91 : decode cX6_record 91 = .ok (.iadd, 1) := by decide +kernel
theorem dX6_record_92 : decode cX6_record 92 = .ok (.putfield 32, 3) := by decide +kernel
theorem dX6_record_95 : decode cX6_record 95 = .ok (.return_, 1) := by decide +kernel
theorem dX6_entries_0 : decode cX6_entries 0 = .ok (.iconst 0, 1) := by decide +kernel
theorem dX6_entries_1 : decode cX6_entries 1 = .ok (.istore_n 1, 1) := by decide +kernel
theorem dX6_entries_2 : decode cX6_entries 2 = .ok (.iconst 0, 1) := by decide +kernel
theorem dX6_entries_3 : decode cX6_entries 3 = .ok (.istore_n 2, 1) := by decide +kernel
theorem dX6_entries_4 : decode cX6_entries 4 = .ok (.iload_n 2, 1) := by decide +kernel
theorem dX6_entries_5 : decode cX6_entries 5 = .ok (.bipush 6, 2) := by decide +kernel
theorem dX6_entries_7 : decode cX6_entries 7 = .ok (.if_icmp .ge 22, 3) := by decide +kernel
theorem dX6_entries_10 : decode cX6_entries 10 = .ok (.iload_n 1, 1) := by decide +kernel
theorem dX6_entries_11 : decode cX6_entries 11 = .ok (.aload_n 0, 1) := by decide +kernel
theorem dX6_entries_12 : decode cX6_entries 12 = .ok (.getfield 7, 3) := by decide +kernel
theorem dX6_entries_15 : decode cX6_entries 15 = .ok (.sipush 480, 3) := by decide +kernel
theorem dX6_entries_18 : decode cX6_entries 18 = .ok (.iload_n 2, 1) := by decide +kernel
theorem dX6_entries_19 : decode cX6_entries 19 = .ok (.iadd, 1) := by decide +kernel
theorem dX6_entries_20 : decode cX6_entries 20 = .ok (.iaload, 1) := by decide +kernel
theorem dX6_entries_21 : decode cX6_entries 21 = .ok (.iadd, 1) := by decide +kernel
theorem dX6_entries_22 : decode cX6_entries 22 = .ok (.istore_n 1, 1) := by decide +kernel
theorem dX6_entries_23 : decode cX6_entries 23 = .ok (.iinc 2 1, 3) := by decide +kernel
theorem dX6_entries_26 : decode cX6_entries 26 = .ok (.goto (-22), 3) := by decide +kernel
theorem dX6_entries_29 : decode cX6_entries 29 = .ok (.iload_n 1, 1) := by decide +kernel
theorem dX6_entries_30 : decode cX6_entries 30 = .ok (.ireturn, 1) := by decide +kernel
theorem dX6_undo_0 : decode cX6_undo 0 = .ok (.aload_n 0, 1) := by decide +kernel
theorem dX6_undo_1 : decode cX6_undo 1 = .ok (.getfield 32, 3) := by decide +kernel
theorem dX6_undo_4 : decode cX6_undo 4 = .ok (.ifCond .ne 6, 3) := by decide +kernel
theorem dX6_undo_7 : decode cX6_undo 7 = .ok (.bipush (-5), 2) := by decide +kernel
theorem dX6_undo_9 : decode cX6_undo 9 = .ok (.ireturn, 1) := by decide +kernel
theorem dX6_undo_10 : decode cX6_undo 10 = .ok (.aload_n 0, 1) := by decide +kernel
theorem dX6_undo_11 : decode cX6_undo 11 = .ok (.dup, 1) := by decide +kernel
theorem dX6_undo_12 : decode cX6_undo 12 = .ok (.getfield 32, 3) := by decide +kernel
theorem dX6_undo_15 : decode cX6_undo 15 = .ok (.iconst 1, 1) := by decide +kernel
theorem dX6_undo_16 : decode cX6_undo 16 = .ok (.isub, 1) := by decide +kernel
theorem dX6_undo_17 : decode cX6_undo 17 = .ok (.putfield 32, 3) := by decide +kernel
theorem dX6_undo_20 : decode cX6_undo 20 = .ok (.iconst 0, 1) := by decide +kernel
theorem dX6_undo_21 : decode cX6_undo 21 = .ok (.istore_n 1, 1) := by decide +kernel
theorem dX6_undo_22 : decode cX6_undo 22 = .ok (.iload_n 1, 1) := by decide +kernel
theorem dX6_undo_23 : decode cX6_undo 23 = .ok (.sipush 706, 3) := by decide +kernel
theorem dX6_undo_26 : decode cX6_undo 26 = .ok (.if_icmp .ge 30, 3) := by decide +kernel
theorem dX6_undo_29 : decode cX6_undo 29 = .ok (.aload_n 0, 1) := by decide +kernel
theorem dX6_undo_30 : decode cX6_undo 30 = .ok (.getfield 7, 3) := by decide +kernel
theorem dX6_undo_33 : decode cX6_undo 33 = .ok (.iload_n 1, 1) := by decide +kernel
theorem dX6_undo_34 : decode cX6_undo 34 = .ok (.aload_n 0, 1) := by decide +kernel
theorem dX6_undo_35 : decode cX6_undo 35 = .ok (.getfield 13, 3) := by decide +kernel
theorem dX6_undo_38 : decode cX6_undo 38 = .ok (.aload_n 0, 1) := by decide +kernel
theorem dX6_undo_39 : decode cX6_undo 39 = .ok (.getfield 32, 3) := by decide +kernel
theorem dX6_undo_42 : decode cX6_undo 42 = .ok (.sipush 706, 3) := by decide +kernel
theorem dX6_undo_45 : decode cX6_undo 45 = .ok (.imul, 1) := by decide +kernel
theorem dX6_undo_46 : decode cX6_undo 46 = .ok (.iload_n 1, 1) := by decide +kernel
theorem dX6_undo_47 : decode cX6_undo 47 = .ok (.iadd, 1) := by decide +kernel
theorem dX6_undo_48 : decode cX6_undo 48 = .ok (.iaload, 1) := by decide +kernel
theorem dX6_undo_49 : decode cX6_undo 49 = .ok (.iastore, 1) := by decide +kernel
theorem dX6_undo_50 : decode cX6_undo 50 = .ok (.iinc 1 1, 3) := by decide +kernel
theorem dX6_undo_53 : decode cX6_undo 53 = .ok (.goto (-31), 3) := by decide +kernel
theorem dX6_undo_56 : decode cX6_undo 56 = .ok (.aload_n 0, 1) := by decide +kernel
theorem dX6_undo_57 : decode cX6_undo 57 = .ok (.getfield 32, 3) := by decide +kernel
theorem dX6_undo_60 : decode cX6_undo 60 = .ok (.ireturn, 1) := by decide +kernel
theorem dX6_keep_0 : decode cX6_keep 0 = .ok (.aload_n 0, 1) := by decide +kernel
theorem dX6_keep_1 : decode cX6_keep 1 = .ok (.iconst 1, 1) := by decide +kernel
theorem dX6_keep_2 : decode cX6_keep 2 = .ok (.putfield 36, 3) := by decide +kernel
theorem dX6_keep_5 : decode cX6_keep 5 = .ok (.iconst 0, 1) := by decide +kernel
theorem dX6_keep_6 : decode cX6_keep 6 = .ok (.istore_n 1, 1) := by decide +kernel
theorem dX6_keep_7 : decode cX6_keep 7 = .ok (.iload_n 1, 1) := by decide +kernel
theorem dX6_keep_8 : decode cX6_keep 8 = .ok (.sipush 706, 3) := by decide +kernel
theorem dX6_keep_11 : decode cX6_keep 11 = .ok (.if_icmp .ge 21, 3) := by decide +kernel
theorem dX6_keep_14 : decode cX6_keep 14 = .ok (.aload_n 0, 1) := by decide +kernel
theorem dX6_keep_15 : decode cX6_keep 15 = .ok (.getfield 16, 3) := by decide +kernel
theorem dX6_keep_18 : decode cX6_keep 18 = .ok (.iload_n 1, 1) := by decide +kernel
theorem dX6_keep_19 : decode cX6_keep 19 = .ok (.aload_n 0, 1) := by decide +kernel
theorem dX6_keep_20 : decode cX6_keep 20 = .ok (.getfield 7, 3) := by decide +kernel
theorem dX6_keep_23 : decode cX6_keep 23 = .ok (.iload_n 1, 1) := by decide +kernel
theorem dX6_keep_24 : decode cX6_keep 24 = .ok (.iaload, 1) := by decide +kernel
theorem dX6_keep_25 : decode cX6_keep 25 = .ok (.iastore, 1) := by decide +kernel
theorem dX6_keep_26 : decode cX6_keep 26 = .ok (.iinc 1 1, 3) := by decide +kernel
theorem dX6_keep_29 : decode cX6_keep 29 = .ok (.goto (-22), 3) := by decide +kernel
theorem dX6_keep_32 : decode cX6_keep 32 = .ok (.aload_n 0, 1) := by decide +kernel
theorem dX6_keep_33 : decode cX6_keep 33 = .ok (.invokevirtual 40, 3) := by decide +kernel
theorem dX6_keep_36 : decode cX6_keep 36 = .ok (.ireturn, 1) := by decide +kernel
theorem dX6_restore_0 : decode cX6_restore 0 = .ok (.aload_n 0, 1) := by decide +kernel
theorem dX6_restore_1 : decode cX6_restore 1 = .ok (.getfield 36, 3) := by decide +kernel
theorem dX6_restore_4 : decode cX6_restore 4 = .ok (.ifCond .ne 6, 3) := by decide +kernel
theorem dX6_restore_7 : decode cX6_restore 7 = .ok (.bipush (-5), 2) := by decide +kernel
theorem dX6_restore_9 : decode cX6_restore 9 = .ok (.ireturn, 1) := by decide +kernel
theorem dX6_restore_10 : decode cX6_restore 10 = .ok (.aload_n 0, 1) := by decide +kernel
theorem dX6_restore_11 : decode cX6_restore 11 = .ok (.invokevirtual 44, 3) := by decide +kernel
theorem dX6_restore_14 : decode cX6_restore 14 = .ok (.iconst 0, 1) := by decide +kernel
theorem dX6_restore_15 : decode cX6_restore 15 = .ok (.istore_n 1, 1) := by decide +kernel
theorem dX6_restore_16 : decode cX6_restore 16 = .ok (.iload_n 1, 1) := by decide +kernel
theorem dX6_restore_17 : decode cX6_restore 17 = .ok (.sipush 706, 3) := by decide +kernel
theorem dX6_restore_20 : decode cX6_restore 20 = .ok (.if_icmp .ge 21, 3) := by decide +kernel
theorem dX6_restore_23 : decode cX6_restore 23 = .ok (.aload_n 0, 1) := by decide +kernel
theorem dX6_restore_24 : decode cX6_restore 24 = .ok (.getfield 7, 3) := by decide +kernel
theorem dX6_restore_27 : decode cX6_restore 27 = .ok (.iload_n 1, 1) := by decide +kernel
theorem dX6_restore_28 : decode cX6_restore 28 = .ok (.aload_n 0, 1) := by decide +kernel
theorem dX6_restore_29 : decode cX6_restore 29 = .ok (.getfield 16, 3) := by decide +kernel
theorem dX6_restore_32 : decode cX6_restore 32 = .ok (.iload_n 1, 1) := by decide +kernel
theorem dX6_restore_33 : decode cX6_restore 33 = .ok (.iaload, 1) := by decide +kernel
theorem dX6_restore_34 : decode cX6_restore 34 = .ok (.iastore, 1) := by decide +kernel
theorem dX6_restore_35 : decode cX6_restore 35 = .ok (.iinc 1 1, 3) := by decide +kernel
theorem dX6_restore_38 : decode cX6_restore 38 = .ok (.goto (-22), 3) := by decide +kernel
theorem dX6_restore_41 : decode cX6_restore 41 = .ok (.aload_n 0, 1) := by decide +kernel
theorem dX6_restore_42 : decode cX6_restore 42 = .ok (.invokevirtual 40, 3) := by decide +kernel
theorem dX6_restore_45 : decode cX6_restore 45 = .ok (.ireturn, 1) := by decide +kernel
theorem dX6_isList_0 : decode cX6_isList 0 = .ok (.iload_n 0, 1) := by decide +kernel
theorem dX6_isList_1 : decode cX6_isList 1 = .ok (.ifCond .lt 13, 3) := by decide +kernel
theorem dX6_isList_4 : decode cX6_isList 4 = .ok (.iload_n 0, 1) := by decide +kernel
theorem dX6_isList_5 : decode cX6_isList 5 = .ok (.bipush 6, 2) := by decide +kernel
theorem dX6_isList_7 : decode cX6_isList 7 = .ok (.if_icmp .ge 7, 3) := by decide +kernel
theorem dX6_isList_10 : decode cX6_isList 10 = .ok (.iconst 1, 1) := by decide +kernel
theorem dX6_isList_11 : decode cX6_isList 11 = .ok (.goto 4, 3) := by decide +kernel
theorem dX6_isList_14 : decode cX6_isList 14 = .ok (.iconst 0, 1) := by decide +kernel
theorem dX6_isList_15 : decode cX6_isList 15 = .ok (.ireturn, 1) := by decide +kernel
theorem dX6_isDocument_0 : decode cX6_isDocument 0 = .ok (.iload_n 0, 1) := by decide +kernel
theorem dX6_isDocument_1 : decode cX6_isDocument 1 = .ok (.ifCond .lt 13, 3) := by decide +kernel
theorem dX6_isDocument_4 : decode cX6_isDocument 4 = .ok (.iload_n 0, 1) := by decide +kernel
theorem dX6_isDocument_5 : decode cX6_isDocument 5 = .ok (.bipush 60, 2) := by decide +kernel
theorem dX6_isDocument_7 : decode cX6_isDocument 7 = .ok (.if_icmp .ge 7, 3) := by decide +kernel
theorem dX6_isDocument_10 : decode cX6_isDocument 10 = .ok (.iconst 1, 1) := by decide +kernel
theorem dX6_isDocument_11 : decode cX6_isDocument 11 = .ok (.goto 4, 3) := by decide +kernel
theorem dX6_isDocument_14 : decode cX6_isDocument 14 = .ok (.iconst 0, 1) := by decide +kernel
theorem dX6_isDocument_15 : decode cX6_isDocument 15 = .ok (.ireturn, 1) := by decide +kernel
theorem dX6_placeOf_0 : decode cX6_placeOf 0 = .ok (.iconst (-1), 1) := by decide +kernel
theorem dX6_placeOf_1 : decode cX6_placeOf 1 = .ok (.istore_n 3, 1) := by decide +kernel
theorem dX6_placeOf_2 : decode cX6_placeOf 2 = .ok (.iconst 0, 1) := by decide +kernel
theorem dX6_placeOf_3 : decode cX6_placeOf 3 = .ok (.istore 4, 2) := by decide +kernel
theorem dX6_placeOf_5 : decode cX6_placeOf 5 = .ok (.iload 4, 2) := by decide +kernel
theorem dX6_placeOf_7 : decode cX6_placeOf 7 = .ok (.aload_n 0, 1) := by decide +kernel
theorem dX6_placeOf_8 : decode cX6_placeOf 8 = .ok (.getfield 7, 3) := by decide +kernel
theorem dX6_placeOf_11 : decode cX6_placeOf 11 = .ok (.sipush 480, 3) := by decide +kernel
theorem dX6_placeOf_14 : decode cX6_placeOf 14 = .ok (.iload_n 1, 1) := by decide +kernel
theorem dX6_placeOf_15 : decode cX6_placeOf 15 = .ok (.iadd, 1) := by decide +kernel
theorem dX6_placeOf_16 : decode cX6_placeOf 16 = .ok (.iaload, 1) := by decide +kernel
theorem dX6_placeOf_17 : decode cX6_placeOf 17 = .ok (.if_icmp .ge 34, 3) := by decide +kernel
theorem dX6_placeOf_20 : decode cX6_placeOf 20 = .ok (.aload_n 0, 1) := by decide +kernel
theorem dX6_placeOf_21 : decode cX6_placeOf 21 = .ok (.getfield 7, 3) := by decide +kernel
theorem dX6_placeOf_24 : decode cX6_placeOf 24 = .ok (.iconst 0, 1) := by decide +kernel
theorem dX6_placeOf_25 : decode cX6_placeOf 25 = .ok (.bipush 40, 2) := by decide +kernel
theorem dX6_placeOf_27 : decode cX6_placeOf 27 = .ok (.iload_n 1, 1) := by decide +kernel
theorem dX6_placeOf_28 : decode cX6_placeOf 28 = .ok (.imul, 1) := by decide +kernel
theorem dX6_placeOf_29 : decode cX6_placeOf 29 = .ok (.iadd, 1) := by decide +kernel
theorem dX6_placeOf_30 : decode cX6_placeOf 30 = .ok (.iload 4, 2) := by decide +kernel
theorem dX6_placeOf_32 : decode cX6_placeOf 32 = .ok (.iadd, 1) := by decide +kernel
theorem dX6_placeOf_33 : decode cX6_placeOf 33 = .ok (.iaload, 1) := by decide +kernel
theorem dX6_placeOf_34 : decode cX6_placeOf 34 = .ok (.iload_n 2, 1) := by decide +kernel
theorem dX6_placeOf_35 : decode cX6_placeOf 35 = .ok (.if_icmp .ne 8, 3) := by decide +kernel
theorem dX6_placeOf_38 : decode cX6_placeOf 38 = .ok (.iload 4, 2) := by decide +kernel
theorem dX6_placeOf_40 : decode cX6_placeOf 40 = .ok (.goto 4, 3) := by decide +kernel
theorem dX6_placeOf_43 : decode cX6_placeOf 43 = .ok (.iload_n 3, 1) := by decide +kernel
theorem dX6_placeOf_44 : decode cX6_placeOf 44 = .ok (.istore_n 3, 1) := by decide +kernel
theorem dX6_placeOf_45 : decode cX6_placeOf 45 = .ok (.iinc 4 1, 3) := by decide +kernel
theorem dX6_placeOf_48 : decode cX6_placeOf 48 = .ok (.goto (-43), 3) := by decide +kernel
theorem dX6_placeOf_51 : decode cX6_placeOf 51 = .ok (.iload_n 3, 1) := by decide +kernel
theorem dX6_placeOf_52 : decode cX6_placeOf 52 = .ok (.ireturn, 1) := by decide +kernel
theorem dX6_scoreOf_0 : decode cX6_scoreOf 0 = .ok (.aload_n 0, 1) := by decide +kernel
theorem dX6_scoreOf_1 : decode cX6_scoreOf 1 = .ok (.iload_n 1, 1) := by decide +kernel
theorem dX6_scoreOf_2 : decode cX6_scoreOf 2 = .ok (.iload_n 2, 1) := by decide +kernel
theorem dX6_scoreOf_3 : decode cX6_scoreOf 3 = .ok (.invokevirtual 47, 3) := by decide +kernel
theorem dX6_scoreOf_6 : decode cX6_scoreOf 6 = .ok (.istore_n 3, 1) := by decide +kernel
theorem dX6_scoreOf_7 : decode cX6_scoreOf 7 = .ok (.iload_n 3, 1) := by decide +kernel
theorem dX6_scoreOf_8 : decode cX6_scoreOf 8 = .ok (.ifCond .ge 7, 3) := by decide +kernel
theorem dX6_scoreOf_11 : decode cX6_scoreOf 11 = .ok (.iconst 0, 1) := by decide +kernel
theorem dX6_scoreOf_12 : decode cX6_scoreOf 12 = .ok (.goto 18, 3) := by decide +kernel
theorem dX6_scoreOf_15 : decode cX6_scoreOf 15 = .ok (.aload_n 0, 1) := by decide +kernel
theorem dX6_scoreOf_16 : decode cX6_scoreOf 16 = .ok (.getfield 7, 3) := by decide +kernel
theorem dX6_scoreOf_19 : decode cX6_scoreOf 19 = .ok (.sipush 240, 3) := by decide +kernel
theorem dX6_scoreOf_22 : decode cX6_scoreOf 22 = .ok (.bipush 40, 2) := by decide +kernel
theorem dX6_scoreOf_24 : decode cX6_scoreOf 24 = .ok (.iload_n 1, 1) := by decide +kernel
theorem dX6_scoreOf_25 : decode cX6_scoreOf 25 = .ok (.imul, 1) := by decide +kernel
theorem dX6_scoreOf_26 : decode cX6_scoreOf 26 = .ok (.iadd, 1) := by decide +kernel
theorem dX6_scoreOf_27 : decode cX6_scoreOf 27 = .ok (.iload_n 3, 1) := by decide +kernel
theorem dX6_scoreOf_28 : decode cX6_scoreOf 28 = .ok (.iadd, 1) := by decide +kernel
theorem dX6_scoreOf_29 : decode cX6_scoreOf 29 = .ok (.iaload, 1) := by decide +kernel
theorem dX6_scoreOf_30 : decode cX6_scoreOf 30 = .ok (.ireturn, 1) := by decide +kernel
theorem dX6_takeOut_0 : decode cX6_takeOut 0 = .ok (.aload_n 0, 1) := by decide +kernel
theorem dX6_takeOut_1 : decode cX6_takeOut 1 = .ok (.getfield 7, 3) := by decide +kernel
theorem dX6_takeOut_4 : decode cX6_takeOut 4 = .ok (.sipush 480, 3) := by decide +kernel
theorem dX6_takeOut_7 : decode cX6_takeOut 7 = .ok (.iload_n 1, 1) := by decide +kernel
theorem dX6_takeOut_8 : decode cX6_takeOut 8 = .ok (.iadd, 1) := by decide +kernel
theorem dX6_takeOut_9 : decode cX6_takeOut 9 = .ok (.dup2, 1) := by decide +kernel
theorem dX6_takeOut_10 : decode cX6_takeOut 10 = .ok (.iaload, 1) := by decide +kernel
theorem dX6_takeOut_11 : decode cX6_takeOut 11 = .ok (.iconst 1, 1) := by decide +kernel
theorem dX6_takeOut_12 : decode cX6_takeOut 12 = .ok (.isub, 1) := by decide +kernel
theorem dX6_takeOut_13 : decode cX6_takeOut 13 = .ok (.iastore, 1) := by decide +kernel
theorem dX6_takeOut_14 : decode cX6_takeOut 14 = .ok (.iload_n 2, 1) := by decide +kernel
theorem dX6_takeOut_15 : decode cX6_takeOut 15 = .ok (.istore_n 3, 1) := by decide +kernel
theorem dX6_takeOut_16 : decode cX6_takeOut 16 = .ok (.iload_n 3, 1) := by decide +kernel
theorem dX6_takeOut_17 : decode cX6_takeOut 17 = .ok (.aload_n 0, 1) := by decide +kernel
theorem dX6_takeOut_18 : decode cX6_takeOut 18 = .ok (.getfield 7, 3) := by decide +kernel
theorem dX6_takeOut_21 : decode cX6_takeOut 21 = .ok (.sipush 480, 3) := by decide +kernel
theorem dX6_takeOut_24 : decode cX6_takeOut 24 = .ok (.iload_n 1, 1) := by decide +kernel
theorem dX6_takeOut_25 : decode cX6_takeOut 25 = .ok (.iadd, 1) := by decide +kernel
theorem dX6_takeOut_26 : decode cX6_takeOut 26 = .ok (.iaload, 1) := by decide +kernel
theorem dX6_takeOut_27 : decode cX6_takeOut 27 = .ok (.if_icmp .ge 69, 3) := by decide +kernel
theorem dX6_takeOut_30 : decode cX6_takeOut 30 = .ok (.aload_n 0, 1) := by decide +kernel
theorem dX6_takeOut_31 : decode cX6_takeOut 31 = .ok (.getfield 7, 3) := by decide +kernel
theorem dX6_takeOut_34 : decode cX6_takeOut 34 = .ok (.iconst 0, 1) := by decide +kernel
theorem dX6_takeOut_35 : decode cX6_takeOut 35 = .ok (.bipush 40, 2) := by decide +kernel
theorem dX6_takeOut_37 : decode cX6_takeOut 37 = .ok (.iload_n 1, 1) := by decide +kernel
theorem dX6_takeOut_38 : decode cX6_takeOut 38 = .ok (.imul, 1) := by decide +kernel
theorem dX6_takeOut_39 : decode cX6_takeOut 39 = .ok (.iadd, 1) := by decide +kernel
theorem dX6_takeOut_40 : decode cX6_takeOut 40 = .ok (.iload_n 3, 1) := by decide +kernel
theorem dX6_takeOut_41 : decode cX6_takeOut 41 = .ok (.iadd, 1) := by decide +kernel
theorem dX6_takeOut_42 : decode cX6_takeOut 42 = .ok (.aload_n 0, 1) := by decide +kernel
theorem dX6_takeOut_43 : decode cX6_takeOut 43 = .ok (.getfield 7, 3) := by decide +kernel
theorem dX6_takeOut_46 : decode cX6_takeOut 46 = .ok (.iconst 0, 1) := by decide +kernel
theorem dX6_takeOut_47 : decode cX6_takeOut 47 = .ok (.bipush 40, 2) := by decide +kernel
theorem dX6_takeOut_49 : decode cX6_takeOut 49 = .ok (.iload_n 1, 1) := by decide +kernel
theorem dX6_takeOut_50 : decode cX6_takeOut 50 = .ok (.imul, 1) := by decide +kernel
theorem dX6_takeOut_51 : decode cX6_takeOut 51 = .ok (.iadd, 1) := by decide +kernel
theorem dX6_takeOut_52 : decode cX6_takeOut 52 = .ok (.iload_n 3, 1) := by decide +kernel
theorem dX6_takeOut_53 : decode cX6_takeOut 53 = .ok (.iadd, 1) := by decide +kernel
theorem dX6_takeOut_54 : decode cX6_takeOut 54 = .ok (.iconst 1, 1) := by decide +kernel
theorem dX6_takeOut_55 : decode cX6_takeOut 55 = .ok (.iadd, 1) := by decide +kernel
theorem dX6_takeOut_56 : decode cX6_takeOut 56 = .ok (.iaload, 1) := by decide +kernel
theorem dX6_takeOut_57 : decode cX6_takeOut 57 = .ok (.iastore, 1) := by decide +kernel
theorem dX6_takeOut_58 : decode cX6_takeOut 58 = .ok (.aload_n 0, 1) := by decide +kernel
theorem dX6_takeOut_59 : decode cX6_takeOut 59 = .ok (.getfield 7, 3) := by decide +kernel
theorem dX6_takeOut_62 : decode cX6_takeOut 62 = .ok (.sipush 240, 3) := by decide +kernel
theorem dX6_takeOut_65 : decode cX6_takeOut 65 = .ok (.bipush 40, 2) := by decide +kernel
theorem dX6_takeOut_67 : decode cX6_takeOut 67 = .ok (.iload_n 1, 1) := by decide +kernel
theorem dX6_takeOut_68 : decode cX6_takeOut 68 = .ok (.imul, 1) := by decide +kernel
theorem dX6_takeOut_69 : decode cX6_takeOut 69 = .ok (.iadd, 1) := by decide +kernel
theorem dX6_takeOut_70 : decode cX6_takeOut 70 = .ok (.iload_n 3, 1) := by decide +kernel
theorem dX6_takeOut_71 : decode cX6_takeOut 71 = .ok (.iadd, 1) := by decide +kernel
theorem dX6_takeOut_72 : decode cX6_takeOut 72 = .ok (.aload_n 0, 1) := by decide +kernel
theorem dX6_takeOut_73 : decode cX6_takeOut 73 = .ok (.getfield 7, 3) := by decide +kernel
theorem dX6_takeOut_76 : decode cX6_takeOut 76 = .ok (.sipush 240, 3) := by decide +kernel
theorem dX6_takeOut_79 : decode cX6_takeOut 79 = .ok (.bipush 40, 2) := by decide +kernel
theorem dX6_takeOut_81 : decode cX6_takeOut 81 = .ok (.iload_n 1, 1) := by decide +kernel
theorem dX6_takeOut_82 : decode cX6_takeOut 82 = .ok (.imul, 1) := by decide +kernel
theorem dX6_takeOut_83 : decode cX6_takeOut 83 = .ok (.iadd, 1) := by decide +kernel
theorem dX6_takeOut_84 : decode cX6_takeOut 84 = .ok (.iload_n 3, 1) := by decide +kernel
theorem dX6_takeOut_85 : decode cX6_takeOut 85 = .ok (.iadd, 1) := by decide +kernel
theorem dX6_takeOut_86 : decode cX6_takeOut 86 = .ok (.iconst 1, 1) := by decide +kernel
theorem dX6_takeOut_87 : decode cX6_takeOut 87 = .ok (.iadd, 1) := by decide +kernel
theorem dX6_takeOut_88 : decode cX6_takeOut 88 = .ok (.iaload, 1) := by decide +kernel
theorem dX6_takeOut_89 : decode cX6_takeOut 89 = .ok (.iastore, 1) := by decide +kernel
theorem dX6_takeOut_90 : decode cX6_takeOut 90 = .ok (.iinc 3 1, 3) := by decide +kernel
theorem dX6_takeOut_93 : decode cX6_takeOut 93 = .ok (.goto (-77), 3) := by decide +kernel
theorem dX6_takeOut_96 : decode cX6_takeOut 96 = .ok (.aload_n 0, 1) := by decide +kernel
theorem dX6_takeOut_97 : decode cX6_takeOut 97 = .ok (.getfield 7, 3) := by decide +kernel
theorem dX6_takeOut_100 : decode cX6_takeOut 100 = .ok (.iconst 0, 1) := by decide +kernel
theorem dX6_takeOut_101 : decode cX6_takeOut 101 = .ok (.bipush 40, 2) := by decide +kernel
theorem dX6_takeOut_103 : decode cX6_takeOut 103 = .ok (.iload_n 1, 1) := by decide +kernel
theorem dX6_takeOut_104 : decode cX6_takeOut 104 = .ok (.imul, 1) := by decide +kernel
theorem dX6_takeOut_105 : decode cX6_takeOut 105 = .ok (.iadd, 1) := by decide +kernel
theorem dX6_takeOut_106 : decode cX6_takeOut 106 = .ok (.aload_n 0, 1) := by decide +kernel
theorem dX6_takeOut_107 : decode cX6_takeOut 107 = .ok (.getfield 7, 3) := by decide +kernel
theorem dX6_takeOut_110 : decode cX6_takeOut 110 = .ok (.sipush 480, 3) := by decide +kernel
theorem dX6_takeOut_113 : decode cX6_takeOut 113 = .ok (.iload_n 1, 1) := by decide +kernel
theorem dX6_takeOut_114 : decode cX6_takeOut 114 = .ok (.iadd, 1) := by decide +kernel
theorem dX6_takeOut_115 : decode cX6_takeOut 115 = .ok (.iaload, 1) := by decide +kernel
theorem dX6_takeOut_116 : decode cX6_takeOut 116 = .ok (.iadd, 1) := by decide +kernel
theorem dX6_takeOut_117 : decode cX6_takeOut 117 = .ok (.iconst 0, 1) := by decide +kernel
theorem dX6_takeOut_118 : decode cX6_takeOut 118 = .ok (.iastore, 1) := by decide +kernel
theorem dX6_takeOut_119 : decode cX6_takeOut 119 = .ok (.aload_n 0, 1) := by decide +kernel
theorem dX6_takeOut_120 : decode cX6_takeOut 120 = .ok (.getfield 7, 3) := by decide +kernel
theorem dX6_takeOut_123 : decode cX6_takeOut 123 = .ok (.sipush 240, 3) := by decide +kernel
theorem dX6_takeOut_126 : decode cX6_takeOut 126 = .ok (.bipush 40, 2) := by decide +kernel
theorem dX6_takeOut_128 : decode cX6_takeOut 128 = .ok (.iload_n 1, 1) := by decide +kernel
theorem dX6_takeOut_129 : decode cX6_takeOut 129 = .ok (.imul, 1) := by decide +kernel
theorem dX6_takeOut_130 : decode cX6_takeOut 130 = .ok (.iadd, 1) := by decide +kernel
theorem dX6_takeOut_131 : decode cX6_takeOut 131 = .ok (.aload_n 0, 1) := by decide +kernel
theorem dX6_takeOut_132 : decode cX6_takeOut 132 = .ok (.getfield 7, 3) := by decide +kernel
theorem dX6_takeOut_135 : decode cX6_takeOut 135 = .ok (.sipush 480, 3) := by decide +kernel
theorem dX6_takeOut_138 : decode cX6_takeOut 138 = .ok (.iload_n 1, 1) := by decide +kernel
theorem dX6_takeOut_139 : decode cX6_takeOut 139 = .ok (.iadd, 1) := by decide +kernel
theorem dX6_takeOut_140 : decode cX6_takeOut 140 = .ok (.iaload, 1) := by decide +kernel
theorem dX6_takeOut_141 : decode cX6_takeOut 141 = .ok (.iadd, 1) := by decide +kernel
theorem dX6_takeOut_142 : decode cX6_takeOut 142 = .ok (.iconst 0, 1) := by decide +kernel
theorem dX6_takeOut_143 : decode cX6_takeOut 143 = .ok (.iastore, 1) := by decide +kernel
theorem dX6_takeOut_144 : decode cX6_takeOut 144 = .ok (.return_, 1) := by decide +kernel
theorem dX6_putIn_0 : decode cX6_putIn 0 = .ok (.iconst 0, 1) := by decide +kernel
theorem dX6_putIn_1 : decode cX6_putIn 1 = .ok (.istore 4, 2) := by decide +kernel
theorem dX6_putIn_3 : decode cX6_putIn 3 = .ok (.iconst 0, 1) := by decide +kernel
theorem dX6_putIn_4 : decode cX6_putIn 4 = .ok (.istore 5, 2) := by decide +kernel
theorem dX6_putIn_6 : decode cX6_putIn 6 = .ok (.iload 5, 2) := by decide +kernel
theorem dX6_putIn_8 : decode cX6_putIn 8 = .ok (.aload_n 0, 1) := by decide +kernel
theorem dX6_putIn_9 : decode cX6_putIn 9 = .ok (.getfield 7, 3) := by decide +kernel
theorem dX6_putIn_12 : decode cX6_putIn 12 = .ok (.sipush 480, 3) := by decide +kernel
theorem dX6_putIn_15 : decode cX6_putIn 15 = .ok (.iload_n 1, 1) := by decide +kernel
theorem dX6_putIn_16 : decode cX6_putIn 16 = .ok (.iadd, 1) := by decide +kernel
theorem dX6_putIn_17 : decode cX6_putIn 17 = .ok (.iaload, 1) := by decide +kernel
theorem dX6_putIn_18 : decode cX6_putIn 18 = .ok (.if_icmp .ge 79, 3) := by decide +kernel
theorem dX6_putIn_21 : decode cX6_putIn 21 = .ok (.aload_n 0, 1) := by decide +kernel
theorem dX6_putIn_22 : decode cX6_putIn 22 = .ok (.getfield 7, 3) := by decide +kernel
theorem dX6_putIn_25 : decode cX6_putIn 25 = .ok (.sipush 240, 3) := by decide +kernel
theorem dX6_putIn_28 : decode cX6_putIn 28 = .ok (.bipush 40, 2) := by decide +kernel
theorem dX6_putIn_30 : decode cX6_putIn 30 = .ok (.iload_n 1, 1) := by decide +kernel
theorem dX6_putIn_31 : decode cX6_putIn 31 = .ok (.imul, 1) := by decide +kernel
theorem dX6_putIn_32 : decode cX6_putIn 32 = .ok (.iadd, 1) := by decide +kernel
theorem dX6_putIn_33 : decode cX6_putIn 33 = .ok (.iload 5, 2) := by decide +kernel
theorem dX6_putIn_35 : decode cX6_putIn 35 = .ok (.iadd, 1) := by decide +kernel
theorem dX6_putIn_36 : decode cX6_putIn 36 = .ok (.iaload, 1) := by decide +kernel
theorem dX6_putIn_37 : decode cX6_putIn 37 = .ok (.istore 6, 2) := by decide +kernel
theorem dX6_putIn_39 : decode cX6_putIn 39 = .ok (.iload 6, 2) := by decide +kernel
theorem dX6_putIn_41 : decode cX6_putIn 41 = .ok (.iload_n 3, 1) := by decide +kernel
theorem dX6_putIn_42 : decode cX6_putIn 42 = .ok (.if_icmp .gt 27, 3) := by decide +kernel
theorem dX6_putIn_45 : decode cX6_putIn 45 = .ok (.iload 6, 2) := by decide +kernel
theorem dX6_putIn_47 : decode cX6_putIn 47 = .ok (.iload_n 3, 1) := by decide +kernel
theorem dX6_putIn_48 : decode cX6_putIn 48 = .ok (.if_icmp .ne 25, 3) := by decide +kernel
theorem dX6_putIn_51 : decode cX6_putIn 51 = .ok (.aload_n 0, 1) := by decide +kernel
theorem dX6_putIn_52 : decode cX6_putIn 52 = .ok (.getfield 7, 3) := by decide +kernel
theorem dX6_putIn_55 : decode cX6_putIn 55 = .ok (.iconst 0, 1) := by decide +kernel
theorem dX6_putIn_56 : decode cX6_putIn 56 = .ok (.bipush 40, 2) := by decide +kernel
theorem dX6_putIn_58 : decode cX6_putIn 58 = .ok (.iload_n 1, 1) := by decide +kernel
theorem dX6_putIn_59 : decode cX6_putIn 59 = .ok (.imul, 1) := by decide +kernel
theorem dX6_putIn_60 : decode cX6_putIn 60 = .ok (.iadd, 1) := by decide +kernel
theorem dX6_putIn_61 : decode cX6_putIn 61 = .ok (.iload 5, 2) := by decide +kernel
theorem dX6_putIn_63 : decode cX6_putIn 63 = .ok (.iadd, 1) := by decide +kernel
theorem dX6_putIn_64 : decode cX6_putIn 64 = .ok (.iaload, 1) := by decide +kernel
theorem dX6_putIn_65 : decode cX6_putIn 65 = .ok (.iload_n 2, 1) := by decide +kernel
theorem dX6_putIn_66 : decode cX6_putIn 66 = .ok (.if_icmp .ge 7, 3) := by decide +kernel
theorem dX6_putIn_69 : decode cX6_putIn 69 = .ok (.iconst 1, 1) := by decide +kernel
theorem dX6_putIn_70 : decode cX6_putIn 70 = .ok (.goto 4, 3) := by decide +kernel
theorem dX6_putIn_73 : decode cX6_putIn 73 = .ok (.iconst 0, 1) := by decide +kernel
theorem dX6_putIn_74 : decode cX6_putIn 74 = .ok (.istore 7, 2) := by decide +kernel
theorem dX6_putIn_76 : decode cX6_putIn 76 = .ok (.iload 4, 2) := by decide +kernel
theorem dX6_putIn_78 : decode cX6_putIn 78 = .ok (.iload 7, 2) := by decide +kernel
theorem dX6_putIn_80 : decode cX6_putIn 80 = .ok (.ifCond .eq 7, 3) := by decide +kernel
theorem dX6_putIn_83 : decode cX6_putIn 83 = .ok (.iconst 1, 1) := by decide +kernel
theorem dX6_putIn_84 : decode cX6_putIn 84 = .ok (.goto 4, 3) := by decide +kernel
theorem dX6_putIn_87 : decode cX6_putIn 87 = .ok (.iconst 0, 1) := by decide +kernel
theorem dX6_putIn_88 : decode cX6_putIn 88 = .ok (.iadd, 1) := by decide +kernel
theorem dX6_putIn_89 : decode cX6_putIn 89 = .ok (.istore 4, 2) := by decide +kernel
theorem dX6_putIn_91 : decode cX6_putIn 91 = .ok (.iinc 5 1, 3) := by decide +kernel
theorem dX6_putIn_94 : decode cX6_putIn 94 = .ok (.goto (-88), 3) := by decide +kernel
theorem dX6_putIn_97 : decode cX6_putIn 97 = .ok (.aload_n 0, 1) := by decide +kernel
theorem dX6_putIn_98 : decode cX6_putIn 98 = .ok (.getfield 7, 3) := by decide +kernel
theorem dX6_putIn_101 : decode cX6_putIn 101 = .ok (.sipush 480, 3) := by decide +kernel
theorem dX6_putIn_104 : decode cX6_putIn 104 = .ok (.iload_n 1, 1) := by decide +kernel
theorem dX6_putIn_105 : decode cX6_putIn 105 = .ok (.iadd, 1) := by decide +kernel
theorem dX6_putIn_106 : decode cX6_putIn 106 = .ok (.iaload, 1) := by decide +kernel
theorem dX6_putIn_107 : decode cX6_putIn 107 = .ok (.istore 5, 2) := by decide +kernel
theorem dX6_putIn_109 : decode cX6_putIn 109 = .ok (.iload 5, 2) := by decide +kernel
theorem dX6_putIn_111 : decode cX6_putIn 111 = .ok (.iload 4, 2) := by decide +kernel
theorem dX6_putIn_113 : decode cX6_putIn 113 = .ok (.if_icmp .le 73, 3) := by decide +kernel
theorem dX6_putIn_116 : decode cX6_putIn 116 = .ok (.aload_n 0, 1) := by decide +kernel
theorem dX6_putIn_117 : decode cX6_putIn 117 = .ok (.getfield 7, 3) := by decide +kernel
theorem dX6_putIn_120 : decode cX6_putIn 120 = .ok (.iconst 0, 1) := by decide +kernel
theorem dX6_putIn_121 : decode cX6_putIn 121 = .ok (.bipush 40, 2) := by decide +kernel
theorem dX6_putIn_123 : decode cX6_putIn 123 = .ok (.iload_n 1, 1) := by decide +kernel
theorem dX6_putIn_124 : decode cX6_putIn 124 = .ok (.imul, 1) := by decide +kernel
theorem dX6_putIn_125 : decode cX6_putIn 125 = .ok (.iadd, 1) := by decide +kernel
theorem dX6_putIn_126 : decode cX6_putIn 126 = .ok (.iload 5, 2) := by decide +kernel
theorem dX6_putIn_128 : decode cX6_putIn 128 = .ok (.iadd, 1) := by decide +kernel
theorem dX6_putIn_129 : decode cX6_putIn 129 = .ok (.aload_n 0, 1) := by decide +kernel
theorem dX6_putIn_130 : decode cX6_putIn 130 = .ok (.getfield 7, 3) := by decide +kernel
theorem dX6_putIn_133 : decode cX6_putIn 133 = .ok (.iconst 0, 1) := by decide +kernel
theorem dX6_putIn_134 : decode cX6_putIn 134 = .ok (.bipush 40, 2) := by decide +kernel
theorem dX6_putIn_136 : decode cX6_putIn 136 = .ok (.iload_n 1, 1) := by decide +kernel
theorem dX6_putIn_137 : decode cX6_putIn 137 = .ok (.imul, 1) := by decide +kernel
theorem dX6_putIn_138 : decode cX6_putIn 138 = .ok (.iadd, 1) := by decide +kernel
theorem dX6_putIn_139 : decode cX6_putIn 139 = .ok (.iload 5, 2) := by decide +kernel
theorem dX6_putIn_141 : decode cX6_putIn 141 = .ok (.iadd, 1) := by decide +kernel
theorem dX6_putIn_142 : decode cX6_putIn 142 = .ok (.iconst 1, 1) := by decide +kernel
theorem dX6_putIn_143 : decode cX6_putIn 143 = .ok (.isub, 1) := by decide +kernel
theorem dX6_putIn_144 : decode cX6_putIn 144 = .ok (.iaload, 1) := by decide +kernel
theorem dX6_putIn_145 : decode cX6_putIn 145 = .ok (.iastore, 1) := by decide +kernel
theorem dX6_putIn_146 : decode cX6_putIn 146 = .ok (.aload_n 0, 1) := by decide +kernel
theorem dX6_putIn_147 : decode cX6_putIn 147 = .ok (.getfield 7, 3) := by decide +kernel
theorem dX6_putIn_150 : decode cX6_putIn 150 = .ok (.sipush 240, 3) := by decide +kernel
theorem dX6_putIn_153 : decode cX6_putIn 153 = .ok (.bipush 40, 2) := by decide +kernel
theorem dX6_putIn_155 : decode cX6_putIn 155 = .ok (.iload_n 1, 1) := by decide +kernel
theorem dX6_putIn_156 : decode cX6_putIn 156 = .ok (.imul, 1) := by decide +kernel
theorem dX6_putIn_157 : decode cX6_putIn 157 = .ok (.iadd, 1) := by decide +kernel
theorem dX6_putIn_158 : decode cX6_putIn 158 = .ok (.iload 5, 2) := by decide +kernel
theorem dX6_putIn_160 : decode cX6_putIn 160 = .ok (.iadd, 1) := by decide +kernel
theorem dX6_putIn_161 : decode cX6_putIn 161 = .ok (.aload_n 0, 1) := by decide +kernel
theorem dX6_putIn_162 : decode cX6_putIn 162 = .ok (.getfield 7, 3) := by decide +kernel
theorem dX6_putIn_165 : decode cX6_putIn 165 = .ok (.sipush 240, 3) := by decide +kernel
theorem dX6_putIn_168 : decode cX6_putIn 168 = .ok (.bipush 40, 2) := by decide +kernel
theorem dX6_putIn_170 : decode cX6_putIn 170 = .ok (.iload_n 1, 1) := by decide +kernel
theorem dX6_putIn_171 : decode cX6_putIn 171 = .ok (.imul, 1) := by decide +kernel
theorem dX6_putIn_172 : decode cX6_putIn 172 = .ok (.iadd, 1) := by decide +kernel
theorem dX6_putIn_173 : decode cX6_putIn 173 = .ok (.iload 5, 2) := by decide +kernel
theorem dX6_putIn_175 : decode cX6_putIn 175 = .ok (.iadd, 1) := by decide +kernel
theorem dX6_putIn_176 : decode cX6_putIn 176 = .ok (.iconst 1, 1) := by decide +kernel
theorem dX6_putIn_177 : decode cX6_putIn 177 = .ok (.isub, 1) := by decide +kernel
theorem dX6_putIn_178 : decode cX6_putIn 178 = .ok (.iaload, 1) := by decide +kernel
theorem dX6_putIn_179 : decode cX6_putIn 179 = .ok (.iastore, 1) := by decide +kernel
theorem dX6_putIn_180 : decode cX6_putIn 180 = .ok (.iinc 5 (-1), 3) := by decide +kernel
theorem dX6_putIn_183 : decode cX6_putIn 183 = .ok (.goto (-74), 3) := by decide +kernel
theorem dX6_putIn_186 : decode cX6_putIn 186 = .ok (.aload_n 0, 1) := by decide +kernel
theorem dX6_putIn_187 : decode cX6_putIn 187 = .ok (.getfield 7, 3) := by decide +kernel
theorem dX6_putIn_190 : decode cX6_putIn 190 = .ok (.iconst 0, 1) := by decide +kernel
theorem dX6_putIn_191 : decode cX6_putIn 191 = .ok (.bipush 40, 2) := by decide +kernel
theorem dX6_putIn_193 : decode cX6_putIn 193 = .ok (.iload_n 1, 1) := by decide +kernel
theorem dX6_putIn_194 : decode cX6_putIn 194 = .ok (.imul, 1) := by decide +kernel
theorem dX6_putIn_195 : decode cX6_putIn 195 = .ok (.iadd, 1) := by decide +kernel
theorem dX6_putIn_196 : decode cX6_putIn 196 = .ok (.iload 4, 2) := by decide +kernel
theorem dX6_putIn_198 : decode cX6_putIn 198 = .ok (.iadd, 1) := by decide +kernel
theorem dX6_putIn_199 : decode cX6_putIn 199 = .ok (.iload_n 2, 1) := by decide +kernel
theorem dX6_putIn_200 : decode cX6_putIn 200 = .ok (.iastore, 1) := by decide +kernel
theorem dX6_putIn_201 : decode cX6_putIn 201 = .ok (.aload_n 0, 1) := by decide +kernel
theorem dX6_putIn_202 : decode cX6_putIn 202 = .ok (.getfield 7, 3) := by decide +kernel
theorem dX6_putIn_205 : decode cX6_putIn 205 = .ok (.sipush 240, 3) := by decide +kernel
theorem dX6_putIn_208 : decode cX6_putIn 208 = .ok (.bipush 40, 2) := by decide +kernel
theorem dX6_putIn_210 : decode cX6_putIn 210 = .ok (.iload_n 1, 1) := by decide +kernel
theorem dX6_putIn_211 : decode cX6_putIn 211 = .ok (.imul, 1) := by decide +kernel
theorem dX6_putIn_212 : decode cX6_putIn 212 = .ok (.iadd, 1) := by decide +kernel
theorem dX6_putIn_213 : decode cX6_putIn 213 = .ok (.iload 4, 2) := by decide +kernel
theorem dX6_putIn_215 : decode cX6_putIn 215 = .ok (.iadd, 1) := by decide +kernel
theorem dX6_putIn_216 : decode cX6_putIn 216 = .ok (.iload_n 3, 1) := by decide +kernel
theorem dX6_putIn_217 : decode cX6_putIn 217 = .ok (.iastore, 1) := by decide +kernel
theorem dX6_putIn_218 : decode cX6_putIn 218 = .ok (.aload_n 0, 1) := by decide +kernel
theorem dX6_putIn_219 : decode cX6_putIn 219 = .ok (.getfield 7, 3) := by decide +kernel
theorem dX6_putIn_222 : decode cX6_putIn 222 = .ok (.sipush 480, 3) := by decide +kernel
theorem dX6_putIn_225 : decode cX6_putIn 225 = .ok (.iload_n 1, 1) := by decide +kernel
theorem dX6_putIn_226 : decode cX6_putIn 226 = .ok (.iadd, 1) := by decide +kernel
theorem dX6_putIn_227 : decode cX6_putIn 227 = .ok (.dup2, 1) := by decide +kernel
theorem dX6_putIn_228 : decode cX6_putIn 228 = .ok (.iaload, 1) := by decide +kernel
theorem dX6_putIn_229 : decode cX6_putIn 229 = .ok (.iconst 1, 1) := by decide +kernel
theorem dX6_putIn_230 : decode cX6_putIn 230 = .ok (.iadd, 1) := by decide +kernel
theorem dX6_putIn_231 : decode cX6_putIn 231 = .ok (.iastore, 1) := by decide +kernel
theorem dX6_putIn_232 : decode cX6_putIn 232 = .ok (.iload 4, 2) := by decide +kernel
theorem dX6_putIn_234 : decode cX6_putIn 234 = .ok (.ireturn, 1) := by decide +kernel
theorem dX6_add_0 : decode cX6_add 0 = .ok (.iload_n 1, 1) := by decide +kernel
theorem dX6_add_1 : decode cX6_add 1 = .ok (.invokestatic 51, 3) := by decide +kernel
theorem dX6_add_4 : decode cX6_add 4 = .ok (.ifCond .eq 10, 3) := by decide +kernel
theorem dX6_add_7 : decode cX6_add 7 = .ok (.iload_n 2, 1) := by decide +kernel
theorem dX6_add_8 : decode cX6_add 8 = .ok (.invokestatic 55, 3) := by decide +kernel
theorem dX6_add_11 : decode cX6_add 11 = .ok (.ifCond .ne 5, 3) := by decide +kernel
theorem dX6_add_14 : decode cX6_add 14 = .ok (.iconst (-1), 1) := by decide +kernel
theorem dX6_add_15 : decode cX6_add 15 = .ok (.ireturn, 1) := by decide +kernel
theorem dX6_add_16 : decode cX6_add 16 = .ok (.iload_n 3, 1) := by decide +kernel
theorem dX6_add_17 : decode cX6_add 17 = .ok (.iconst 1, 1) := by decide +kernel
theorem dX6_add_18 : decode cX6_add 18 = .ok (.if_icmp .lt 10, 3) := by decide +kernel
theorem dX6_add_21 : decode cX6_add 21 = .ok (.iload_n 3, 1) := by decide +kernel
theorem dX6_add_22 : decode cX6_add 22 = .ok (.sipush 999, 3) := by decide +kernel
theorem dX6_add_25 : decode cX6_add 25 = .ok (.if_icmp .le 6, 3) := by decide +kernel
theorem dX6_add_28 : decode cX6_add 28 = .ok (.bipush (-2), 2) := by decide +kernel
theorem dX6_add_30 : decode cX6_add 30 = .ok (.ireturn, 1) := by decide +kernel
theorem dX6_add_31 : decode cX6_add 31 = .ok (.aload_n 0, 1) := by decide +kernel
theorem dX6_add_32 : decode cX6_add 32 = .ok (.getfield 7, 3) := by decide +kernel
theorem dX6_add_35 : decode cX6_add 35 = .ok (.sipush 559, 3) := by decide +kernel
theorem dX6_add_38 : decode cX6_add 38 = .ok (.iaload, 1) := by decide +kernel
theorem dX6_add_39 : decode cX6_add 39 = .ok (.iconst 1, 1) := by decide +kernel
theorem dX6_add_40 : decode cX6_add 40 = .ok (.if_icmp .ne 6, 3) := by decide +kernel
theorem dX6_add_43 : decode cX6_add 43 = .ok (.bipush (-4), 2) := by decide +kernel
theorem dX6_add_45 : decode cX6_add 45 = .ok (.ireturn, 1) := by decide +kernel
theorem dX6_add_46 : decode cX6_add 46 = .ok (.aload_n 0, 1) := by decide +kernel
theorem dX6_add_47 : decode cX6_add 47 = .ok (.iload_n 1, 1) := by decide +kernel
theorem dX6_add_48 : decode cX6_add 48 = .ok (.iload_n 2, 1) := by decide +kernel
theorem dX6_add_49 : decode cX6_add 49 = .ok (.invokevirtual 47, 3) := by decide +kernel
theorem dX6_add_52 : decode cX6_add 52 = .ok (.istore 4, 2) := by decide +kernel
theorem dX6_add_54 : decode cX6_add 54 = .ok (.iload 4, 2) := by decide +kernel
theorem dX6_add_56 : decode cX6_add 56 = .ok (.ifCond .ge 21, 3) := by decide +kernel
theorem dX6_add_59 : decode cX6_add 59 = .ok (.aload_n 0, 1) := by decide +kernel
theorem dX6_add_60 : decode cX6_add 60 = .ok (.getfield 7, 3) := by decide +kernel
theorem dX6_add_63 : decode cX6_add 63 = .ok (.sipush 480, 3) := by decide +kernel
theorem dX6_add_66 : decode cX6_add 66 = .ok (.iload_n 1, 1) := by decide +kernel
theorem dX6_add_67 : decode cX6_add 67 = .ok (.iadd, 1) := by decide +kernel
theorem dX6_add_68 : decode cX6_add 68 = .ok (.iaload, 1) := by decide +kernel
theorem dX6_add_69 : decode cX6_add 69 = .ok (.bipush 40, 2) := by decide +kernel
theorem dX6_add_71 : decode cX6_add 71 = .ok (.if_icmp .ne 6, 3) := by decide +kernel
theorem dX6_add_74 : decode cX6_add 74 = .ok (.bipush (-3), 2) := by decide +kernel
theorem dX6_add_76 : decode cX6_add 76 = .ok (.ireturn, 1) := by decide +kernel
theorem dX6_add_77 : decode cX6_add 77 = .ok (.iload 4, 2) := by decide +kernel
theorem dX6_add_79 : decode cX6_add 79 = .ok (.ifCond .lt 26, 3) := by decide +kernel
theorem dX6_add_82 : decode cX6_add 82 = .ok (.aload_n 0, 1) := by decide +kernel
theorem dX6_add_83 : decode cX6_add 83 = .ok (.getfield 7, 3) := by decide +kernel
theorem dX6_add_86 : decode cX6_add 86 = .ok (.sipush 240, 3) := by decide +kernel
theorem dX6_add_89 : decode cX6_add 89 = .ok (.bipush 40, 2) := by decide +kernel
theorem dX6_add_91 : decode cX6_add 91 = .ok (.iload_n 1, 1) := by decide +kernel
theorem dX6_add_92 : decode cX6_add 92 = .ok (.imul, 1) := by decide +kernel
theorem dX6_add_93 : decode cX6_add 93 = .ok (.iadd, 1) := by decide +kernel
theorem dX6_add_94 : decode cX6_add 94 = .ok (.iload 4, 2) := by decide +kernel
theorem dX6_add_96 : decode cX6_add 96 = .ok (.iadd, 1) := by decide +kernel
theorem dX6_add_97 : decode cX6_add 97 = .ok (.iaload, 1) := by decide +kernel
theorem dX6_add_98 : decode cX6_add 98 = .ok (.iload_n 3, 1) := by decide +kernel
theorem dX6_add_99 : decode cX6_add 99 = .ok (.if_icmp .ne 6, 3) := by decide +kernel
theorem dX6_add_102 : decode cX6_add 102 = .ok (.bipush (-5), 2) := by decide +kernel
theorem dX6_add_104 : decode cX6_add 104 = .ok (.ireturn, 1) := by decide +kernel
theorem dX6_add_105 : decode cX6_add 105 = .ok (.aload_n 0, 1) := by decide +kernel
theorem dX6_add_106 : decode cX6_add 106 = .ok (.invokevirtual 44, 3) := by decide +kernel
theorem dX6_add_109 : decode cX6_add 109 = .ok (.iload 4, 2) := by decide +kernel
theorem dX6_add_111 : decode cX6_add 111 = .ok (.ifCond .lt 10, 3) := by decide +kernel
theorem dX6_add_114 : decode cX6_add 114 = .ok (.aload_n 0, 1) := by decide +kernel
theorem dX6_add_115 : decode cX6_add 115 = .ok (.iload_n 1, 1) := by decide +kernel
theorem dX6_add_116 : decode cX6_add 116 = .ok (.iload 4, 2) := by decide +kernel
theorem dX6_add_118 : decode cX6_add 118 = .ok (.invokevirtual 58, 3) := by decide +kernel
theorem dX6_add_121 : decode cX6_add 121 = .ok (.aload_n 0, 1) := by decide +kernel
theorem dX6_add_122 : decode cX6_add 122 = .ok (.iload_n 1, 1) := by decide +kernel
theorem dX6_add_123 : decode cX6_add 123 = .ok (.iload_n 2, 1) := by decide +kernel
theorem dX6_add_124 : decode cX6_add 124 = .ok (.iload_n 3, 1) := by decide +kernel
theorem dX6_add_125 : decode cX6_add 125 = .ok (.invokevirtual 62, 3) := by decide +kernel
theorem dX6_add_128 : decode cX6_add 128 = .ok (.ireturn, 1) := by decide +kernel
theorem dX6_drop_0 : decode cX6_drop 0 = .ok (.iload_n 1, 1) := by decide +kernel
theorem dX6_drop_1 : decode cX6_drop 1 = .ok (.invokestatic 51, 3) := by decide +kernel
theorem dX6_drop_4 : decode cX6_drop 4 = .ok (.ifCond .eq 10, 3) := by decide +kernel
theorem dX6_drop_7 : decode cX6_drop 7 = .ok (.iload_n 2, 1) := by decide +kernel
theorem dX6_drop_8 : decode cX6_drop 8 = .ok (.invokestatic 55, 3) := by decide +kernel
theorem dX6_drop_11 : decode cX6_drop 11 = .ok (.ifCond .ne 5, 3) := by decide +kernel
theorem dX6_drop_14 : decode cX6_drop 14 = .ok (.iconst (-1), 1) := by decide +kernel
theorem dX6_drop_15 : decode cX6_drop 15 = .ok (.ireturn, 1) := by decide +kernel
theorem dX6_drop_16 : decode cX6_drop 16 = .ok (.aload_n 0, 1) := by decide +kernel
theorem dX6_drop_17 : decode cX6_drop 17 = .ok (.iload_n 1, 1) := by decide +kernel
theorem dX6_drop_18 : decode cX6_drop 18 = .ok (.iload_n 2, 1) := by decide +kernel
theorem dX6_drop_19 : decode cX6_drop 19 = .ok (.invokevirtual 47, 3) := by decide +kernel
theorem dX6_drop_22 : decode cX6_drop 22 = .ok (.istore_n 3, 1) := by decide +kernel
theorem dX6_drop_23 : decode cX6_drop 23 = .ok (.iload_n 3, 1) := by decide +kernel
theorem dX6_drop_24 : decode cX6_drop 24 = .ok (.ifCond .ge 5, 3) := by decide +kernel
theorem dX6_drop_27 : decode cX6_drop 27 = .ok (.iconst (-1), 1) := by decide +kernel
theorem dX6_drop_28 : decode cX6_drop 28 = .ok (.ireturn, 1) := by decide +kernel
theorem dX6_drop_29 : decode cX6_drop 29 = .ok (.aload_n 0, 1) := by decide +kernel
theorem dX6_drop_30 : decode cX6_drop 30 = .ok (.getfield 7, 3) := by decide +kernel
theorem dX6_drop_33 : decode cX6_drop 33 = .ok (.sipush 559, 3) := by decide +kernel
theorem dX6_drop_36 : decode cX6_drop 36 = .ok (.iaload, 1) := by decide +kernel
theorem dX6_drop_37 : decode cX6_drop 37 = .ok (.iconst 1, 1) := by decide +kernel
theorem dX6_drop_38 : decode cX6_drop 38 = .ok (.if_icmp .ne 6, 3) := by decide +kernel
theorem dX6_drop_41 : decode cX6_drop 41 = .ok (.bipush (-4), 2) := by decide +kernel
theorem dX6_drop_43 : decode cX6_drop 43 = .ok (.ireturn, 1) := by decide +kernel
theorem dX6_drop_44 : decode cX6_drop 44 = .ok (.aload_n 0, 1) := by decide +kernel
theorem dX6_drop_45 : decode cX6_drop 45 = .ok (.invokevirtual 44, 3) := by decide +kernel
theorem dX6_drop_48 : decode cX6_drop 48 = .ok (.aload_n 0, 1) := by decide +kernel
theorem dX6_drop_49 : decode cX6_drop 49 = .ok (.iload_n 1, 1) := by decide +kernel
theorem dX6_drop_50 : decode cX6_drop 50 = .ok (.iload_n 3, 1) := by decide +kernel
theorem dX6_drop_51 : decode cX6_drop 51 = .ok (.invokevirtual 58, 3) := by decide +kernel
theorem dX6_drop_54 : decode cX6_drop 54 = .ok (.aload_n 0, 1) := by decide +kernel
theorem dX6_drop_55 : decode cX6_drop 55 = .ok (.getfield 7, 3) := by decide +kernel
theorem dX6_drop_58 : decode cX6_drop 58 = .ok (.sipush 480, 3) := by decide +kernel
theorem dX6_drop_61 : decode cX6_drop 61 = .ok (.iload_n 1, 1) := by decide +kernel
theorem dX6_drop_62 : decode cX6_drop 62 = .ok (.iadd, 1) := by decide +kernel
theorem dX6_drop_63 : decode cX6_drop 63 = .ok (.iaload, 1) := by decide +kernel
theorem dX6_drop_64 : decode cX6_drop 64 = .ok (.ireturn, 1) := by decide +kernel
theorem dX6_listsOf_0 : decode cX6_listsOf 0 = .ok (.iconst 0, 1) := by decide +kernel
theorem dX6_listsOf_1 : decode cX6_listsOf 1 = .ok (.istore_n 2, 1) := by decide +kernel
theorem dX6_listsOf_2 : decode cX6_listsOf 2 = .ok (.iconst 0, 1) := by decide +kernel
theorem dX6_listsOf_3 : decode cX6_listsOf 3 = .ok (.istore_n 3, 1) := by decide +kernel
theorem dX6_listsOf_4 : decode cX6_listsOf 4 = .ok (.iload_n 3, 1) := by decide +kernel
theorem dX6_listsOf_5 : decode cX6_listsOf 5 = .ok (.bipush 6, 2) := by decide +kernel
theorem dX6_listsOf_7 : decode cX6_listsOf 7 = .ok (.if_icmp .ge 28, 3) := by decide +kernel
theorem dX6_listsOf_10 : decode cX6_listsOf 10 = .ok (.iload_n 2, 1) := by decide +kernel
theorem dX6_listsOf_11 : decode cX6_listsOf 11 = .ok (.aload_n 0, 1) := by decide +kernel
theorem dX6_listsOf_12 : decode cX6_listsOf 12 = .ok (.iload_n 3, 1) := by decide +kernel
theorem dX6_listsOf_13 : decode cX6_listsOf 13 = .ok (.iload_n 1, 1) := by decide +kernel
theorem dX6_listsOf_14 : decode cX6_listsOf 14 = .ok (.invokevirtual 47, 3) := by decide +kernel
theorem dX6_listsOf_17 : decode cX6_listsOf 17 = .ok (.ifCond .lt 9, 3) := by decide +kernel
theorem dX6_listsOf_20 : decode cX6_listsOf 20 = .ok (.iconst 1, 1) := by decide +kernel
theorem dX6_listsOf_21 : decode cX6_listsOf 21 = .ok (.iload_n 3, 1) := by decide +kernel
theorem dX6_listsOf_22 : decode cX6_listsOf 22 = .ok (.ishl, 1) := by decide +kernel
theorem dX6_listsOf_23 : decode cX6_listsOf 23 = .ok (.goto 4, 3) := by decide +kernel
theorem dX6_listsOf_26 : decode cX6_listsOf 26 = .ok (.iconst 0, 1) := by decide +kernel
theorem dX6_listsOf_27 : decode cX6_listsOf 27 = .ok (.ior, 1) := by decide +kernel
theorem dX6_listsOf_28 : decode cX6_listsOf 28 = .ok (.istore_n 2, 1) := by decide +kernel
theorem dX6_listsOf_29 : decode cX6_listsOf 29 = .ok (.iinc 3 1, 3) := by decide +kernel
theorem dX6_listsOf_32 : decode cX6_listsOf 32 = .ok (.goto (-28), 3) := by decide +kernel
theorem dX6_listsOf_35 : decode cX6_listsOf 35 = .ok (.iload_n 2, 1) := by decide +kernel
theorem dX6_listsOf_36 : decode cX6_listsOf 36 = .ok (.ireturn, 1) := by decide +kernel
theorem dX6_bits_0 : decode cX6_bits 0 = .ok (.iconst 0, 1) := by decide +kernel
theorem dX6_bits_1 : decode cX6_bits 1 = .ok (.istore_n 1, 1) := by decide +kernel
theorem dX6_bits_2 : decode cX6_bits 2 = .ok (.iconst 0, 1) := by decide +kernel
theorem dX6_bits_3 : decode cX6_bits 3 = .ok (.istore_n 2, 1) := by decide +kernel
theorem dX6_bits_4 : decode cX6_bits 4 = .ok (.iload_n 2, 1) := by decide +kernel
theorem dX6_bits_5 : decode cX6_bits 5 = .ok (.bipush 6, 2) := by decide +kernel
theorem dX6_bits_7 : decode cX6_bits 7 = .ok (.if_icmp .ge 17, 3) := by decide +kernel
theorem dX6_bits_10 : decode cX6_bits 10 = .ok (.iload_n 1, 1) := by decide +kernel
theorem dX6_bits_11 : decode cX6_bits 11 = .ok (.iload_n 0, 1) := by decide +kernel
theorem dX6_bits_12 : decode cX6_bits 12 = .ok (.iload_n 2, 1) := by decide +kernel
theorem dX6_bits_13 : decode cX6_bits 13 = .ok (.ishr, 1) := by decide +kernel
theorem dX6_bits_14 : decode cX6_bits 14 = .ok (.iconst 1, 1) := by decide +kernel
theorem dX6_bits_15 : decode cX6_bits 15 = .ok (.iand, 1) := by decide +kernel
theorem dX6_bits_16 : decode cX6_bits 16 = .ok (.iadd, 1) := by decide +kernel
theorem dX6_bits_17 : decode cX6_bits 17 = .ok (.istore_n 1, 1) := by decide +kernel
theorem dX6_bits_18 : decode cX6_bits 18 = .ok (.iinc 2 1, 3) := by decide +kernel
theorem dX6_bits_21 : decode cX6_bits 21 = .ok (.goto (-17), 3) := by decide +kernel
theorem dX6_bits_24 : decode cX6_bits 24 = .ok (.iload_n 1, 1) := by decide +kernel
theorem dX6_bits_25 : decode cX6_bits 25 = .ok (.ireturn, 1) := by decide +kernel
theorem dX6_gone_0 : decode cX6_gone 0 = .ok (.iload_n 1, 1) := by decide +kernel
theorem dX6_gone_1 : decode cX6_gone 1 = .ok (.invokestatic 55, 3) := by decide +kernel
theorem dX6_gone_4 : decode cX6_gone 4 = .ok (.ifCond .ne 5, 3) := by decide +kernel
theorem dX6_gone_7 : decode cX6_gone 7 = .ok (.iconst (-1), 1) := by decide +kernel
theorem dX6_gone_8 : decode cX6_gone 8 = .ok (.ireturn, 1) := by decide +kernel
theorem dX6_gone_9 : decode cX6_gone 9 = .ok (.aload_n 0, 1) := by decide +kernel
theorem dX6_gone_10 : decode cX6_gone 10 = .ok (.getfield 7, 3) := by decide +kernel
theorem dX6_gone_13 : decode cX6_gone 13 = .ok (.sipush 559, 3) := by decide +kernel
theorem dX6_gone_16 : decode cX6_gone 16 = .ok (.iaload, 1) := by decide +kernel
theorem dX6_gone_17 : decode cX6_gone 17 = .ok (.iconst 1, 1) := by decide +kernel
theorem dX6_gone_18 : decode cX6_gone 18 = .ok (.if_icmp .ne 6, 3) := by decide +kernel
theorem dX6_gone_21 : decode cX6_gone 21 = .ok (.bipush (-4), 2) := by decide +kernel
theorem dX6_gone_23 : decode cX6_gone 23 = .ok (.ireturn, 1) := by decide +kernel
theorem dX6_gone_24 : decode cX6_gone 24 = .ok (.aload_n 0, 1) := by decide +kernel
theorem dX6_gone_25 : decode cX6_gone 25 = .ok (.getfield 7, 3) := by decide +kernel
theorem dX6_gone_28 : decode cX6_gone 28 = .ok (.sipush 498, 3) := by decide +kernel
theorem dX6_gone_31 : decode cX6_gone 31 = .ok (.iload_n 1, 1) := by decide +kernel
theorem dX6_gone_32 : decode cX6_gone 32 = .ok (.iadd, 1) := by decide +kernel
theorem dX6_gone_33 : decode cX6_gone 33 = .ok (.iaload, 1) := by decide +kernel
theorem dX6_gone_34 : decode cX6_gone 34 = .ok (.iload_n 2, 1) := by decide +kernel
theorem dX6_gone_35 : decode cX6_gone 35 = .ok (.if_icmp .ne 6, 3) := by decide +kernel
theorem dX6_gone_38 : decode cX6_gone 38 = .ok (.bipush (-5), 2) := by decide +kernel
theorem dX6_gone_40 : decode cX6_gone 40 = .ok (.ireturn, 1) := by decide +kernel
theorem dX6_gone_41 : decode cX6_gone 41 = .ok (.aload_n 0, 1) := by decide +kernel
theorem dX6_gone_42 : decode cX6_gone 42 = .ok (.invokevirtual 44, 3) := by decide +kernel
theorem dX6_gone_45 : decode cX6_gone 45 = .ok (.aload_n 0, 1) := by decide +kernel
theorem dX6_gone_46 : decode cX6_gone 46 = .ok (.getfield 7, 3) := by decide +kernel
theorem dX6_gone_49 : decode cX6_gone 49 = .ok (.sipush 498, 3) := by decide +kernel
theorem dX6_gone_52 : decode cX6_gone 52 = .ok (.iload_n 1, 1) := by decide +kernel
theorem dX6_gone_53 : decode cX6_gone 53 = .ok (.iadd, 1) := by decide +kernel
theorem dX6_gone_54 : decode cX6_gone 54 = .ok (.iload_n 2, 1) := by decide +kernel
theorem dX6_gone_55 : decode cX6_gone 55 = .ok (.iastore, 1) := by decide +kernel
theorem dX6_gone_56 : decode cX6_gone 56 = .ok (.aload_n 0, 1) := by decide +kernel
theorem dX6_gone_57 : decode cX6_gone 57 = .ok (.iload_n 1, 1) := by decide +kernel
theorem dX6_gone_58 : decode cX6_gone 58 = .ok (.invokevirtual 66, 3) := by decide +kernel
theorem dX6_gone_61 : decode cX6_gone 61 = .ok (.invokestatic 70, 3) := by decide +kernel
theorem dX6_gone_64 : decode cX6_gone 64 = .ok (.ireturn, 1) := by decide +kernel
theorem dX6_delete_0 : decode cX6_delete 0 = .ok (.aload_n 0, 1) := by decide +kernel
theorem dX6_delete_1 : decode cX6_delete 1 = .ok (.iload_n 1, 1) := by decide +kernel
theorem dX6_delete_2 : decode cX6_delete 2 = .ok (.iconst 1, 1) := by decide +kernel
theorem dX6_delete_3 : decode cX6_delete 3 = .ok (.invokevirtual 73, 3) := by decide +kernel
theorem dX6_delete_6 : decode cX6_delete 6 = .ok (.ireturn, 1) := by decide +kernel
theorem dX6_bring_0 : decode cX6_bring 0 = .ok (.aload_n 0, 1) := by decide +kernel
theorem dX6_bring_1 : decode cX6_bring 1 = .ok (.iload_n 1, 1) := by decide +kernel
theorem dX6_bring_2 : decode cX6_bring 2 = .ok (.iconst 0, 1) := by decide +kernel
theorem dX6_bring_3 : decode cX6_bring 3 = .ok (.invokevirtual 73, 3) := by decide +kernel
theorem dX6_bring_6 : decode cX6_bring 6 = .ok (.ireturn, 1) := by decide +kernel
theorem dX6_setOf_0 : decode cX6_setOf 0 = .ok (.iload_n 2, 1) := by decide +kernel
theorem dX6_setOf_1 : decode cX6_setOf 1 = .ok (.invokestatic 51, 3) := by decide +kernel
theorem dX6_setOf_4 : decode cX6_setOf 4 = .ok (.ifCond .ne 5, 3) := by decide +kernel
theorem dX6_setOf_7 : decode cX6_setOf 7 = .ok (.iconst (-1), 1) := by decide +kernel
theorem dX6_setOf_8 : decode cX6_setOf 8 = .ok (.ireturn, 1) := by decide +kernel
theorem dX6_setOf_9 : decode cX6_setOf 9 = .ok (.iload_n 3, 1) := by decide +kernel
theorem dX6_setOf_10 : decode cX6_setOf 10 = .ok (.ifCond .lt 9, 3) := by decide +kernel
theorem dX6_setOf_13 : decode cX6_setOf 13 = .ok (.iload_n 3, 1) := by decide +kernel
theorem dX6_setOf_14 : decode cX6_setOf 14 = .ok (.iload 4, 2) := by decide +kernel
theorem dX6_setOf_16 : decode cX6_setOf 16 = .ok (.if_icmp .le 6, 3) := by decide +kernel
theorem dX6_setOf_19 : decode cX6_setOf 19 = .ok (.bipush (-2), 2) := by decide +kernel
theorem dX6_setOf_21 : decode cX6_setOf 21 = .ok (.ireturn, 1) := by decide +kernel
theorem dX6_setOf_22 : decode cX6_setOf 22 = .ok (.aload_n 0, 1) := by decide +kernel
theorem dX6_setOf_23 : decode cX6_setOf 23 = .ok (.getfield 7, 3) := by decide +kernel
theorem dX6_setOf_26 : decode cX6_setOf 26 = .ok (.sipush 559, 3) := by decide +kernel
theorem dX6_setOf_29 : decode cX6_setOf 29 = .ok (.iaload, 1) := by decide +kernel
theorem dX6_setOf_30 : decode cX6_setOf 30 = .ok (.iconst 1, 1) := by decide +kernel
theorem dX6_setOf_31 : decode cX6_setOf 31 = .ok (.if_icmp .ne 6, 3) := by decide +kernel
theorem dX6_setOf_34 : decode cX6_setOf 34 = .ok (.bipush (-4), 2) := by decide +kernel
theorem dX6_setOf_36 : decode cX6_setOf 36 = .ok (.ireturn, 1) := by decide +kernel
theorem dX6_setOf_37 : decode cX6_setOf 37 = .ok (.aload_n 0, 1) := by decide +kernel
theorem dX6_setOf_38 : decode cX6_setOf 38 = .ok (.getfield 7, 3) := by decide +kernel
theorem dX6_setOf_41 : decode cX6_setOf 41 = .ok (.iload_n 1, 1) := by decide +kernel
theorem dX6_setOf_42 : decode cX6_setOf 42 = .ok (.iload_n 2, 1) := by decide +kernel
theorem dX6_setOf_43 : decode cX6_setOf 43 = .ok (.iadd, 1) := by decide +kernel
theorem dX6_setOf_44 : decode cX6_setOf 44 = .ok (.iaload, 1) := by decide +kernel
theorem dX6_setOf_45 : decode cX6_setOf 45 = .ok (.istore 5, 2) := by decide +kernel
theorem dX6_setOf_47 : decode cX6_setOf 47 = .ok (.iload 5, 2) := by decide +kernel
theorem dX6_setOf_49 : decode cX6_setOf 49 = .ok (.iload_n 3, 1) := by decide +kernel
theorem dX6_setOf_50 : decode cX6_setOf 50 = .ok (.if_icmp .ne 6, 3) := by decide +kernel
theorem dX6_setOf_53 : decode cX6_setOf 53 = .ok (.bipush (-5), 2) := by decide +kernel
theorem dX6_setOf_55 : decode cX6_setOf 55 = .ok (.ireturn, 1) := by decide +kernel
theorem dX6_setOf_56 : decode cX6_setOf 56 = .ok (.aload_n 0, 1) := by decide +kernel
theorem dX6_setOf_57 : decode cX6_setOf 57 = .ok (.invokevirtual 44, 3) := by decide +kernel
theorem dX6_setOf_60 : decode cX6_setOf 60 = .ok (.aload_n 0, 1) := by decide +kernel
theorem dX6_setOf_61 : decode cX6_setOf 61 = .ok (.getfield 7, 3) := by decide +kernel
theorem dX6_setOf_64 : decode cX6_setOf 64 = .ok (.iload_n 1, 1) := by decide +kernel
theorem dX6_setOf_65 : decode cX6_setOf 65 = .ok (.iload_n 2, 1) := by decide +kernel
theorem dX6_setOf_66 : decode cX6_setOf 66 = .ok (.iadd, 1) := by decide +kernel
theorem dX6_setOf_67 : decode cX6_setOf 67 = .ok (.iload_n 3, 1) := by decide +kernel
theorem dX6_setOf_68 : decode cX6_setOf 68 = .ok (.iastore, 1) := by decide +kernel
theorem dX6_setOf_69 : decode cX6_setOf 69 = .ok (.iload 5, 2) := by decide +kernel
theorem dX6_setOf_71 : decode cX6_setOf 71 = .ok (.ireturn, 1) := by decide +kernel
theorem dX6_weight_0 : decode cX6_weight 0 = .ok (.aload_n 0, 1) := by decide +kernel
theorem dX6_weight_1 : decode cX6_weight 1 = .ok (.sipush 486, 3) := by decide +kernel
theorem dX6_weight_4 : decode cX6_weight 4 = .ok (.iload_n 1, 1) := by decide +kernel
theorem dX6_weight_5 : decode cX6_weight 5 = .ok (.iload_n 2, 1) := by decide +kernel
theorem dX6_weight_6 : decode cX6_weight 6 = .ok (.bipush 9, 2) := by decide +kernel
theorem dX6_weight_8 : decode cX6_weight 8 = .ok (.invokevirtual 76, 3) := by decide +kernel
theorem dX6_weight_11 : decode cX6_weight 11 = .ok (.ireturn, 1) := by decide +kernel
theorem dX6_bribe_0 : decode cX6_bribe 0 = .ok (.aload_n 0, 1) := by decide +kernel
theorem dX6_bribe_1 : decode cX6_bribe 1 = .ok (.sipush 492, 3) := by decide +kernel
theorem dX6_bribe_4 : decode cX6_bribe 4 = .ok (.iload_n 1, 1) := by decide +kernel
theorem dX6_bribe_5 : decode cX6_bribe 5 = .ok (.iload_n 2, 1) := by decide +kernel
theorem dX6_bribe_6 : decode cX6_bribe 6 = .ok (.sipush 500, 3) := by decide +kernel
theorem dX6_bribe_9 : decode cX6_bribe 9 = .ok (.invokevirtual 76, 3) := by decide +kernel
theorem dX6_bribe_12 : decode cX6_bribe 12 = .ok (.ireturn, 1) := by decide +kernel
theorem dX6_want_0 : decode cX6_want 0 = .ok (.iload_n 1, 1) := by decide +kernel
theorem dX6_want_1 : decode cX6_want 1 = .ok (.iconst 1, 1) := by decide +kernel
theorem dX6_want_2 : decode cX6_want 2 = .ok (.if_icmp .lt 9, 3) := by decide +kernel
theorem dX6_want_5 : decode cX6_want 5 = .ok (.iload_n 1, 1) := by decide +kernel
theorem dX6_want_6 : decode cX6_want 6 = .ok (.bipush 10, 2) := by decide +kernel
theorem dX6_want_8 : decode cX6_want 8 = .ok (.if_icmp .le 6, 3) := by decide +kernel
theorem dX6_want_11 : decode cX6_want 11 = .ok (.bipush (-2), 2) := by decide +kernel
theorem dX6_want_13 : decode cX6_want 13 = .ok (.ireturn, 1) := by decide +kernel
theorem dX6_want_14 : decode cX6_want 14 = .ok (.aload_n 0, 1) := by decide +kernel
theorem dX6_want_15 : decode cX6_want 15 = .ok (.getfield 7, 3) := by decide +kernel
theorem dX6_want_18 : decode cX6_want 18 = .ok (.sipush 559, 3) := by decide +kernel
theorem dX6_want_21 : decode cX6_want 21 = .ok (.iaload, 1) := by decide +kernel
theorem dX6_want_22 : decode cX6_want 22 = .ok (.iconst 1, 1) := by decide +kernel
theorem dX6_want_23 : decode cX6_want 23 = .ok (.if_icmp .ne 6, 3) := by decide +kernel
theorem dX6_want_26 : decode cX6_want 26 = .ok (.bipush (-4), 2) := by decide +kernel
theorem dX6_want_28 : decode cX6_want 28 = .ok (.ireturn, 1) := by decide +kernel
theorem dX6_want_29 : decode cX6_want 29 = .ok (.aload_n 0, 1) := by decide +kernel
theorem dX6_want_30 : decode cX6_want 30 = .ok (.getfield 7, 3) := by decide +kernel
theorem dX6_want_33 : decode cX6_want 33 = .ok (.sipush 558, 3) := by decide +kernel
theorem dX6_want_36 : decode cX6_want 36 = .ok (.iaload, 1) := by decide +kernel
theorem dX6_want_37 : decode cX6_want 37 = .ok (.istore_n 2, 1) := by decide +kernel
theorem dX6_want_38 : decode cX6_want 38 = .ok (.iload_n 2, 1) := by decide +kernel
theorem dX6_want_39 : decode cX6_want 39 = .ok (.iload_n 1, 1) := by decide +kernel
theorem dX6_want_40 : decode cX6_want 40 = .ok (.if_icmp .ne 6, 3) := by decide +kernel
theorem dX6_want_43 : decode cX6_want 43 = .ok (.bipush (-5), 2) := by decide +kernel
theorem dX6_want_45 : decode cX6_want 45 = .ok (.ireturn, 1) := by decide +kernel
theorem dX6_want_46 : decode cX6_want 46 = .ok (.aload_n 0, 1) := by decide +kernel
theorem dX6_want_47 : decode cX6_want 47 = .ok (.invokevirtual 44, 3) := by decide +kernel
theorem dX6_want_50 : decode cX6_want 50 = .ok (.aload_n 0, 1) := by decide +kernel
theorem dX6_want_51 : decode cX6_want 51 = .ok (.getfield 7, 3) := by decide +kernel
theorem dX6_want_54 : decode cX6_want 54 = .ok (.sipush 558, 3) := by decide +kernel
theorem dX6_want_57 : decode cX6_want 57 = .ok (.iload_n 1, 1) := by decide +kernel
theorem dX6_want_58 : decode cX6_want 58 = .ok (.iastore, 1) := by decide +kernel
theorem dX6_want_59 : decode cX6_want 59 = .ok (.iload_n 2, 1) := by decide +kernel
theorem dX6_want_60 : decode cX6_want 60 = .ok (.ireturn, 1) := by decide +kernel
theorem dX6_isAsked_0 : decode cX6_isAsked 0 = .ok (.aload_n 0, 1) := by decide +kernel
theorem dX6_isAsked_1 : decode cX6_isAsked 1 = .ok (.getfield 7, 3) := by decide +kernel
theorem dX6_isAsked_4 : decode cX6_isAsked 4 = .ok (.sipush 486, 3) := by decide +kernel
theorem dX6_isAsked_7 : decode cX6_isAsked 7 = .ok (.iload_n 1, 1) := by decide +kernel
theorem dX6_isAsked_8 : decode cX6_isAsked 8 = .ok (.iadd, 1) := by decide +kernel
theorem dX6_isAsked_9 : decode cX6_isAsked 9 = .ok (.iaload, 1) := by decide +kernel
theorem dX6_isAsked_10 : decode cX6_isAsked 10 = .ok (.ifCond .le 7, 3) := by decide +kernel
theorem dX6_isAsked_13 : decode cX6_isAsked 13 = .ok (.iconst 1, 1) := by decide +kernel
theorem dX6_isAsked_14 : decode cX6_isAsked 14 = .ok (.goto 4, 3) := by decide +kernel
theorem dX6_isAsked_17 : decode cX6_isAsked 17 = .ok (.iconst 0, 1) := by decide +kernel
theorem dX6_isAsked_18 : decode cX6_isAsked 18 = .ok (.ireturn, 1) := by decide +kernel
theorem dX6_asked_0 : decode cX6_asked 0 = .ok (.iconst 0, 1) := by decide +kernel
theorem dX6_asked_1 : decode cX6_asked 1 = .ok (.istore_n 1, 1) := by decide +kernel
theorem dX6_asked_2 : decode cX6_asked 2 = .ok (.iconst 0, 1) := by decide +kernel
theorem dX6_asked_3 : decode cX6_asked 3 = .ok (.istore_n 2, 1) := by decide +kernel
theorem dX6_asked_4 : decode cX6_asked 4 = .ok (.iload_n 2, 1) := by decide +kernel
theorem dX6_asked_5 : decode cX6_asked 5 = .ok (.bipush 6, 2) := by decide +kernel
theorem dX6_asked_7 : decode cX6_asked 7 = .ok (.if_icmp .ge 25, 3) := by decide +kernel
theorem dX6_asked_10 : decode cX6_asked 10 = .ok (.iload_n 1, 1) := by decide +kernel
theorem dX6_asked_11 : decode cX6_asked 11 = .ok (.aload_n 0, 1) := by decide +kernel
theorem dX6_asked_12 : decode cX6_asked 12 = .ok (.iload_n 2, 1) := by decide +kernel
theorem dX6_asked_13 : decode cX6_asked 13 = .ok (.invokevirtual 80, 3) := by decide +kernel
theorem dX6_asked_16 : decode cX6_asked 16 = .ok (.ifCond .eq 7, 3) := by decide +kernel
theorem dX6_asked_19 : decode cX6_asked 19 = .ok (.iconst 1, 1) := by decide +kernel
theorem dX6_asked_20 : decode cX6_asked 20 = .ok (.goto 4, 3) := by decide +kernel
theorem dX6_asked_23 : decode cX6_asked 23 = .ok (.iconst 0, 1) := by decide +kernel
theorem dX6_asked_24 : decode cX6_asked 24 = .ok (.iadd, 1) := by decide +kernel
theorem dX6_asked_25 : decode cX6_asked 25 = .ok (.istore_n 1, 1) := by decide +kernel
theorem dX6_asked_26 : decode cX6_asked 26 = .ok (.iinc 2 1, 3) := by decide +kernel
theorem dX6_asked_29 : decode cX6_asked 29 = .ok (.goto (-25), 3) := by decide +kernel
theorem dX6_asked_32 : decode cX6_asked 32 = .ok (.iload_n 1, 1) := by decide +kernel
theorem dX6_asked_33 : decode cX6_asked 33 = .ok (.ireturn, 1) := by decide +kernel
theorem dX6_value_0 : decode cX6_value 0 = .ok (.iconst 0, 1) := by decide +kernel
theorem dX6_value_1 : decode cX6_value 1 = .ok (.istore_n 2, 1) := by decide +kernel
theorem dX6_value_2 : decode cX6_value 2 = .ok (.iconst 0, 1) := by decide +kernel
theorem dX6_value_3 : decode cX6_value 3 = .ok (.istore_n 3, 1) := by decide +kernel
theorem dX6_value_4 : decode cX6_value 4 = .ok (.iload_n 3, 1) := by decide +kernel
theorem dX6_value_5 : decode cX6_value 5 = .ok (.bipush 6, 2) := by decide +kernel
theorem dX6_value_7 : decode cX6_value 7 = .ok (.if_icmp .ge 29, 3) := by decide +kernel
theorem dX6_value_10 : decode cX6_value 10 = .ok (.iload_n 2, 1) := by decide +kernel
theorem dX6_value_11 : decode cX6_value 11 = .ok (.aload_n 0, 1) := by decide +kernel
theorem dX6_value_12 : decode cX6_value 12 = .ok (.getfield 7, 3) := by decide +kernel
theorem dX6_value_15 : decode cX6_value 15 = .ok (.sipush 486, 3) := by decide +kernel
theorem dX6_value_18 : decode cX6_value 18 = .ok (.iload_n 3, 1) := by decide +kernel
theorem dX6_value_19 : decode cX6_value 19 = .ok (.iadd, 1) := by decide +kernel
theorem dX6_value_20 : decode cX6_value 20 = .ok (.iaload, 1) := by decide +kernel
theorem dX6_value_21 : decode cX6_value 21 = .ok (.aload_n 0, 1) := by decide +kernel
theorem dX6_value_22 : decode cX6_value 22 = .ok (.iload_n 3, 1) := by decide +kernel
theorem dX6_value_23 : decode cX6_value 23 = .ok (.iload_n 1, 1) := by decide +kernel
theorem dX6_value_24 : decode cX6_value 24 = .ok (.invokevirtual 83, 3) := by decide +kernel
theorem dX6_value_27 : decode cX6_value 27 = .ok (.imul, 1) := by decide +kernel
theorem dX6_value_28 : decode cX6_value 28 = .ok (.iadd, 1) := by decide +kernel
theorem dX6_value_29 : decode cX6_value 29 = .ok (.istore_n 2, 1) := by decide +kernel
theorem dX6_value_30 : decode cX6_value 30 = .ok (.iinc 3 1, 3) := by decide +kernel
theorem dX6_value_33 : decode cX6_value 33 = .ok (.goto (-29), 3) := by decide +kernel
theorem dX6_value_36 : decode cX6_value 36 = .ok (.iload_n 2, 1) := by decide +kernel
theorem dX6_value_37 : decode cX6_value 37 = .ok (.ireturn, 1) := by decide +kernel
theorem dX6_mayBeWanted_0 : decode cX6_mayBeWanted 0 = .ok (.aload_n 0, 1) := by decide +kernel
theorem dX6_mayBeWanted_1 : decode cX6_mayBeWanted 1 = .ok (.getfield 7, 3) := by decide +kernel
theorem dX6_mayBeWanted_4 : decode cX6_mayBeWanted 4 = .ok (.sipush 498, 3) := by decide +kernel
theorem dX6_mayBeWanted_7 : decode cX6_mayBeWanted 7 = .ok (.iload_n 1, 1) := by decide +kernel
theorem dX6_mayBeWanted_8 : decode cX6_mayBeWanted 8 = .ok (.iadd, 1) := by decide +kernel
theorem dX6_mayBeWanted_9 : decode cX6_mayBeWanted 9 = .ok (.iaload, 1) := by decide +kernel
theorem dX6_mayBeWanted_10 : decode cX6_mayBeWanted 10 = .ok (.ifCond .ne 15, 3) := by decide +kernel
theorem dX6_mayBeWanted_13 : decode cX6_mayBeWanted 13 = .ok (.aload_n 0, 1) := by decide +kernel
theorem dX6_mayBeWanted_14 : decode cX6_mayBeWanted 14 = .ok (.iload_n 1, 1) := by decide +kernel
theorem dX6_mayBeWanted_15 : decode cX6_mayBeWanted 15 = .ok (.invokevirtual 86, 3) := by decide +kernel
theorem dX6_mayBeWanted_18 : decode cX6_mayBeWanted 18 = .ok (.ifCond .le 7, 3) := by decide +kernel
theorem dX6_mayBeWanted_21 : decode cX6_mayBeWanted 21 = .ok (.iconst 1, 1) := by decide +kernel
theorem dX6_mayBeWanted_22 : decode cX6_mayBeWanted 22 = .ok (.goto 4, 3) := by decide +kernel
theorem dX6_mayBeWanted_25 : decode cX6_mayBeWanted 25 = .ok (.iconst 0, 1) := by decide +kernel
theorem dX6_mayBeWanted_26 : decode cX6_mayBeWanted 26 = .ok (.ireturn, 1) := by decide +kernel
theorem dX6_wantedPlace_0 : decode cX6_wantedPlace 0 = .ok (.aload_n 0, 1) := by decide +kernel
theorem dX6_wantedPlace_1 : decode cX6_wantedPlace 1 = .ok (.iload_n 1, 1) := by decide +kernel
theorem dX6_wantedPlace_2 : decode cX6_wantedPlace 2 = .ok (.invokevirtual 89, 3) := by decide +kernel
theorem dX6_wantedPlace_5 : decode cX6_wantedPlace 5 = .ok (.ifCond .ne 5, 3) := by decide +kernel
theorem dX6_wantedPlace_8 : decode cX6_wantedPlace 8 = .ok (.iconst (-1), 1) := by decide +kernel
theorem dX6_wantedPlace_9 : decode cX6_wantedPlace 9 = .ok (.ireturn, 1) := by decide +kernel
theorem dX6_wantedPlace_10 : decode cX6_wantedPlace 10 = .ok (.aload_n 0, 1) := by decide +kernel
theorem dX6_wantedPlace_11 : decode cX6_wantedPlace 11 = .ok (.iload_n 1, 1) := by decide +kernel
theorem dX6_wantedPlace_12 : decode cX6_wantedPlace 12 = .ok (.invokevirtual 86, 3) := by decide +kernel
theorem dX6_wantedPlace_15 : decode cX6_wantedPlace 15 = .ok (.istore_n 2, 1) := by decide +kernel
theorem dX6_wantedPlace_16 : decode cX6_wantedPlace 16 = .ok (.iconst 0, 1) := by decide +kernel
theorem dX6_wantedPlace_17 : decode cX6_wantedPlace 17 = .ok (.istore_n 3, 1) := by decide +kernel
theorem dX6_wantedPlace_18 : decode cX6_wantedPlace 18 = .ok (.iconst 0, 1) := by decide +kernel
theorem dX6_wantedPlace_19 : decode cX6_wantedPlace 19 = .ok (.istore 4, 2) := by decide +kernel
theorem dX6_wantedPlace_21 : decode cX6_wantedPlace 21 = .ok (.iload 4, 2) := by decide +kernel
theorem dX6_wantedPlace_23 : decode cX6_wantedPlace 23 = .ok (.bipush 60, 2) := by decide +kernel
theorem dX6_wantedPlace_25 : decode cX6_wantedPlace 25 = .ok (.if_icmp .ge 52, 3) := by decide +kernel
theorem dX6_wantedPlace_28 : decode cX6_wantedPlace 28 = .ok (.aload_n 0, 1) := by decide +kernel
theorem dX6_wantedPlace_29 : decode cX6_wantedPlace 29 = .ok (.iload 4, 2) := by decide +kernel
theorem dX6_wantedPlace_31 : decode cX6_wantedPlace 31 = .ok (.invokevirtual 89, 3) := by decide +kernel
theorem dX6_wantedPlace_34 : decode cX6_wantedPlace 34 = .ok (.ifCond .eq 37, 3) := by decide +kernel
theorem dX6_wantedPlace_37 : decode cX6_wantedPlace 37 = .ok (.aload_n 0, 1) := by decide +kernel
theorem dX6_wantedPlace_38 : decode cX6_wantedPlace 38 = .ok (.iload 4, 2) := by decide +kernel
theorem dX6_wantedPlace_40 : decode cX6_wantedPlace 40 = .ok (.invokevirtual 86, 3) := by decide +kernel
theorem dX6_wantedPlace_43 : decode cX6_wantedPlace 43 = .ok (.istore 5, 2) := by decide +kernel
theorem dX6_wantedPlace_45 : decode cX6_wantedPlace 45 = .ok (.iload_n 3, 1) := by decide +kernel
theorem dX6_wantedPlace_46 : decode cX6_wantedPlace 46 = .ok (.iload 5, 2) := by decide +kernel
theorem dX6_wantedPlace_48 : decode cX6_wantedPlace 48 = .ok (.iload_n 2, 1) := by decide +kernel
theorem dX6_wantedPlace_49 : decode cX6_wantedPlace 49 = .ok (.if_icmp .gt 15, 3) := by decide +kernel
theorem dX6_wantedPlace_52 : decode cX6_wantedPlace 52 = .ok (.iload 5, 2) := by decide +kernel
theorem dX6_wantedPlace_54 : decode cX6_wantedPlace 54 = .ok (.iload_n 2, 1) := by decide +kernel
theorem dX6_wantedPlace_55 : decode cX6_wantedPlace 55 = .ok (.if_icmp .ne 13, 3) := by decide +kernel
theorem dX6_wantedPlace_58 : decode cX6_wantedPlace 58 = .ok (.iload 4, 2) := by decide +kernel
theorem dX6_wantedPlace_60 : decode cX6_wantedPlace 60 = .ok (.iload_n 1, 1) := by decide +kernel
theorem dX6_wantedPlace_61 : decode cX6_wantedPlace 61 = .ok (.if_icmp .ge 7, 3) := by decide +kernel
theorem dX6_wantedPlace_64 : decode cX6_wantedPlace 64 = .ok (.iconst 1, 1) := by decide +kernel
theorem dX6_wantedPlace_65 : decode cX6_wantedPlace 65 = .ok (.goto 4, 3) := by decide +kernel
theorem dX6_wantedPlace_68 : decode cX6_wantedPlace 68 = .ok (.iconst 0, 1) := by decide +kernel
theorem dX6_wantedPlace_69 : decode cX6_wantedPlace 69 = .ok (.iadd, 1) := by decide +kernel
theorem dX6_wantedPlace_70 : decode cX6_wantedPlace 70 = .ok (.istore_n 3, 1) := by decide +kernel
theorem dX6_wantedPlace_71 : decode cX6_wantedPlace 71 = .ok (.iinc 4 1, 3) := by decide +kernel
theorem dX6_wantedPlace_74 : decode cX6_wantedPlace 74 = .ok (.goto (-53), 3) := by decide +kernel
theorem dX6_wantedPlace_77 : decode cX6_wantedPlace 77 = .ok (.iload_n 3, 1) := by decide +kernel
theorem dX6_wantedPlace_78 : decode cX6_wantedPlace 78 = .ok (.aload_n 0, 1) := by decide +kernel
theorem dX6_wantedPlace_79 : decode cX6_wantedPlace 79 = .ok (.getfield 7, 3) := by decide +kernel
theorem dX6_wantedPlace_82 : decode cX6_wantedPlace 82 = .ok (.sipush 558, 3) := by decide +kernel
theorem dX6_wantedPlace_85 : decode cX6_wantedPlace 85 = .ok (.iaload, 1) := by decide +kernel
theorem dX6_wantedPlace_86 : decode cX6_wantedPlace 86 = .ok (.if_icmp .ge 7, 3) := by decide +kernel
theorem dX6_wantedPlace_89 : decode cX6_wantedPlace 89 = .ok (.iload_n 3, 1) := by decide +kernel
theorem dX6_wantedPlace_90 : decode cX6_wantedPlace 90 = .ok (.goto 4, 3) := by decide +kernel
theorem dX6_wantedPlace_93 : decode cX6_wantedPlace 93 = .ok (.iconst (-1), 1) := by decide +kernel
theorem dX6_wantedPlace_94 : decode cX6_wantedPlace 94 = .ok (.ireturn, 1) := by decide +kernel
theorem dX6_wantedMany_0 : decode cX6_wantedMany 0 = .ok (.iconst 0, 1) := by decide +kernel
theorem dX6_wantedMany_1 : decode cX6_wantedMany 1 = .ok (.istore_n 1, 1) := by decide +kernel
theorem dX6_wantedMany_2 : decode cX6_wantedMany 2 = .ok (.iconst 0, 1) := by decide +kernel
theorem dX6_wantedMany_3 : decode cX6_wantedMany 3 = .ok (.istore_n 2, 1) := by decide +kernel
theorem dX6_wantedMany_4 : decode cX6_wantedMany 4 = .ok (.iload_n 2, 1) := by decide +kernel
theorem dX6_wantedMany_5 : decode cX6_wantedMany 5 = .ok (.bipush 60, 2) := by decide +kernel
theorem dX6_wantedMany_7 : decode cX6_wantedMany 7 = .ok (.if_icmp .ge 25, 3) := by decide +kernel
theorem dX6_wantedMany_10 : decode cX6_wantedMany 10 = .ok (.iload_n 1, 1) := by decide +kernel
theorem dX6_wantedMany_11 : decode cX6_wantedMany 11 = .ok (.aload_n 0, 1) := by decide +kernel
theorem dX6_wantedMany_12 : decode cX6_wantedMany 12 = .ok (.iload_n 2, 1) := by decide +kernel
theorem dX6_wantedMany_13 : decode cX6_wantedMany 13 = .ok (.invokevirtual 89, 3) := by decide +kernel
theorem dX6_wantedMany_16 : decode cX6_wantedMany 16 = .ok (.ifCond .eq 7, 3) := by decide +kernel
theorem dX6_wantedMany_19 : decode cX6_wantedMany 19 = .ok (.iconst 1, 1) := by decide +kernel
theorem dX6_wantedMany_20 : decode cX6_wantedMany 20 = .ok (.goto 4, 3) := by decide +kernel
theorem dX6_wantedMany_23 : decode cX6_wantedMany 23 = .ok (.iconst 0, 1) := by decide +kernel
theorem dX6_wantedMany_24 : decode cX6_wantedMany 24 = .ok (.iadd, 1) := by decide +kernel
theorem dX6_wantedMany_25 : decode cX6_wantedMany 25 = .ok (.istore_n 1, 1) := by decide +kernel
theorem dX6_wantedMany_26 : decode cX6_wantedMany 26 = .ok (.iinc 2 1, 3) := by decide +kernel
theorem dX6_wantedMany_29 : decode cX6_wantedMany 29 = .ok (.goto (-25), 3) := by decide +kernel
theorem dX6_wantedMany_32 : decode cX6_wantedMany 32 = .ok (.iload_n 1, 1) := by decide +kernel
theorem dX6_wantedMany_33 : decode cX6_wantedMany 33 = .ok (.aload_n 0, 1) := by decide +kernel
theorem dX6_wantedMany_34 : decode cX6_wantedMany 34 = .ok (.getfield 7, 3) := by decide +kernel
theorem dX6_wantedMany_37 : decode cX6_wantedMany 37 = .ok (.sipush 558, 3) := by decide +kernel
theorem dX6_wantedMany_40 : decode cX6_wantedMany 40 = .ok (.iaload, 1) := by decide +kernel
theorem dX6_wantedMany_41 : decode cX6_wantedMany 41 = .ok (.if_icmp .ge 7, 3) := by decide +kernel
theorem dX6_wantedMany_44 : decode cX6_wantedMany 44 = .ok (.iload_n 1, 1) := by decide +kernel
theorem dX6_wantedMany_45 : decode cX6_wantedMany 45 = .ok (.goto 11, 3) := by decide +kernel
theorem dX6_wantedMany_48 : decode cX6_wantedMany 48 = .ok (.aload_n 0, 1) := by decide +kernel
theorem dX6_wantedMany_49 : decode cX6_wantedMany 49 = .ok (.getfield 7, 3) := by decide +kernel
theorem dX6_wantedMany_52 : decode cX6_wantedMany 52 = .ok (.sipush 558, 3) := by decide +kernel
theorem dX6_wantedMany_55 : decode cX6_wantedMany 55 = .ok (.iaload, 1) := by decide +kernel
theorem dX6_wantedMany_56 : decode cX6_wantedMany 56 = .ok (.ireturn, 1) := by decide +kernel
theorem dX6_wanted_0 : decode cX6_wanted 0 = .ok (.iload_n 1, 1) := by decide +kernel
theorem dX6_wanted_1 : decode cX6_wanted 1 = .ok (.ifCond .ge 6, 3) := by decide +kernel
theorem dX6_wanted_4 : decode cX6_wanted 4 = .ok (.bipush (-2), 2) := by decide +kernel
theorem dX6_wanted_6 : decode cX6_wanted 6 = .ok (.ireturn, 1) := by decide +kernel
theorem dX6_wanted_7 : decode cX6_wanted 7 = .ok (.bipush (-5), 2) := by decide +kernel
theorem dX6_wanted_9 : decode cX6_wanted 9 = .ok (.istore_n 2, 1) := by decide +kernel
theorem dX6_wanted_10 : decode cX6_wanted 10 = .ok (.iconst 0, 1) := by decide +kernel
theorem dX6_wanted_11 : decode cX6_wanted 11 = .ok (.istore_n 3, 1) := by decide +kernel
theorem dX6_wanted_12 : decode cX6_wanted 12 = .ok (.iload_n 3, 1) := by decide +kernel
theorem dX6_wanted_13 : decode cX6_wanted 13 = .ok (.bipush 60, 2) := by decide +kernel
theorem dX6_wanted_15 : decode cX6_wanted 15 = .ok (.if_icmp .ge 24, 3) := by decide +kernel
theorem dX6_wanted_18 : decode cX6_wanted 18 = .ok (.aload_n 0, 1) := by decide +kernel
theorem dX6_wanted_19 : decode cX6_wanted 19 = .ok (.iload_n 3, 1) := by decide +kernel
theorem dX6_wanted_20 : decode cX6_wanted 20 = .ok (.invokevirtual 92, 3) := by decide +kernel
theorem dX6_wanted_23 : decode cX6_wanted 23 = .ok (.iload_n 1, 1) := by decide +kernel
theorem dX6_wanted_24 : decode cX6_wanted 24 = .ok (.if_icmp .ne 7, 3) := by decide +kernel
theorem dX6_wanted_27 : decode cX6_wanted 27 = .ok (.iload_n 3, 1) := by decide +kernel
theorem dX6_wanted_28 : decode cX6_wanted 28 = .ok (.goto 4, 3) := by decide +kernel
theorem dX6_wanted_31 : decode cX6_wanted 31 = .ok (.iload_n 2, 1) := by decide +kernel
theorem dX6_wanted_32 : decode cX6_wanted 32 = .ok (.istore_n 2, 1) := by decide +kernel
theorem dX6_wanted_33 : decode cX6_wanted 33 = .ok (.iinc 3 1, 3) := by decide +kernel
theorem dX6_wanted_36 : decode cX6_wanted 36 = .ok (.goto (-24), 3) := by decide +kernel
theorem dX6_wanted_39 : decode cX6_wanted 39 = .ok (.iload_n 2, 1) := by decide +kernel
theorem dX6_wanted_40 : decode cX6_wanted 40 = .ok (.ireturn, 1) := by decide +kernel
theorem dX6_document_0 : decode cX6_document 0 = .ok (.iload_n 1, 1) := by decide +kernel
theorem dX6_document_1 : decode cX6_document 1 = .ok (.invokestatic 55, 3) := by decide +kernel
theorem dX6_document_4 : decode cX6_document 4 = .ok (.ifCond .ne 5, 3) := by decide +kernel
theorem dX6_document_7 : decode cX6_document 7 = .ok (.iconst (-1), 1) := by decide +kernel
theorem dX6_document_8 : decode cX6_document 8 = .ok (.ireturn, 1) := by decide +kernel
theorem dX6_document_9 : decode cX6_document 9 = .ok (.iload_n 2, 1) := by decide +kernel
theorem dX6_document_10 : decode cX6_document 10 = .ok (.ifCond .lt 8, 3) := by decide +kernel
theorem dX6_document_13 : decode cX6_document 13 = .ok (.iload_n 2, 1) := by decide +kernel
theorem dX6_document_14 : decode cX6_document 14 = .ok (.iconst 3, 1) := by decide +kernel
theorem dX6_document_15 : decode cX6_document 15 = .ok (.if_icmp .le 6, 3) := by decide +kernel
theorem dX6_document_18 : decode cX6_document 18 = .ok (.bipush (-2), 2) := by decide +kernel
theorem dX6_document_20 : decode cX6_document 20 = .ok (.ireturn, 1) := by decide +kernel
theorem dX6_document_21 : decode cX6_document 21 = .ok (.iload_n 2, 1) := by decide +kernel
theorem dX6_document_22 : decode cX6_document 22 = .ok (.ifCond .ne 14, 3) := by decide +kernel
theorem dX6_document_25 : decode cX6_document 25 = .ok (.aload_n 0, 1) := by decide +kernel
theorem dX6_document_26 : decode cX6_document 26 = .ok (.getfield 7, 3) := by decide +kernel
theorem dX6_document_29 : decode cX6_document 29 = .ok (.sipush 498, 3) := by decide +kernel
theorem dX6_document_32 : decode cX6_document 32 = .ok (.iload_n 1, 1) := by decide +kernel
theorem dX6_document_33 : decode cX6_document 33 = .ok (.iadd, 1) := by decide +kernel
theorem dX6_document_34 : decode cX6_document 34 = .ok (.iaload, 1) := by decide +kernel
theorem dX6_document_35 : decode cX6_document 35 = .ok (.ireturn, 1) := by decide +kernel
theorem dX6_document_36 : decode cX6_document 36 = .ok (.iload_n 2, 1) := by decide +kernel
theorem dX6_document_37 : decode cX6_document 37 = .ok (.iconst 1, 1) := by decide +kernel
theorem dX6_document_38 : decode cX6_document 38 = .ok (.if_icmp .ne 9, 3) := by decide +kernel
theorem dX6_document_41 : decode cX6_document 41 = .ok (.aload_n 0, 1) := by decide +kernel
theorem dX6_document_42 : decode cX6_document 42 = .ok (.iload_n 1, 1) := by decide +kernel
theorem dX6_document_43 : decode cX6_document 43 = .ok (.invokevirtual 86, 3) := by decide +kernel
theorem dX6_document_46 : decode cX6_document 46 = .ok (.ireturn, 1) := by decide +kernel
theorem dX6_document_47 : decode cX6_document 47 = .ok (.iload_n 2, 1) := by decide +kernel
theorem dX6_document_48 : decode cX6_document 48 = .ok (.iconst 2, 1) := by decide +kernel
theorem dX6_document_49 : decode cX6_document 49 = .ok (.if_icmp .ne 9, 3) := by decide +kernel
theorem dX6_document_52 : decode cX6_document 52 = .ok (.aload_n 0, 1) := by decide +kernel
theorem dX6_document_53 : decode cX6_document 53 = .ok (.iload_n 1, 1) := by decide +kernel
theorem dX6_document_54 : decode cX6_document 54 = .ok (.invokevirtual 66, 3) := by decide +kernel
theorem dX6_document_57 : decode cX6_document 57 = .ok (.ireturn, 1) := by decide +kernel
theorem dX6_document_58 : decode cX6_document 58 = .ok (.aload_n 0, 1) := by decide +kernel
theorem dX6_document_59 : decode cX6_document 59 = .ok (.iload_n 1, 1) := by decide +kernel
theorem dX6_document_60 : decode cX6_document 60 = .ok (.invokevirtual 92, 3) := by decide +kernel
theorem dX6_document_63 : decode cX6_document 63 = .ok (.istore_n 3, 1) := by decide +kernel
theorem dX6_document_64 : decode cX6_document 64 = .ok (.iload_n 3, 1) := by decide +kernel
theorem dX6_document_65 : decode cX6_document 65 = .ok (.ifCond .ge 8, 3) := by decide +kernel
theorem dX6_document_68 : decode cX6_document 68 = .ok (.bipush (-5), 2) := by decide +kernel
theorem dX6_document_70 : decode cX6_document 70 = .ok (.goto 4, 3) := by decide +kernel
theorem dX6_document_73 : decode cX6_document 73 = .ok (.iload_n 3, 1) := by decide +kernel
theorem dX6_document_74 : decode cX6_document 74 = .ok (.ireturn, 1) := by decide +kernel
theorem dX6_list_0 : decode cX6_list 0 = .ok (.iload_n 1, 1) := by decide +kernel
theorem dX6_list_1 : decode cX6_list 1 = .ok (.invokestatic 51, 3) := by decide +kernel
theorem dX6_list_4 : decode cX6_list 4 = .ok (.ifCond .ne 5, 3) := by decide +kernel
theorem dX6_list_7 : decode cX6_list 7 = .ok (.iconst (-1), 1) := by decide +kernel
theorem dX6_list_8 : decode cX6_list 8 = .ok (.ireturn, 1) := by decide +kernel
theorem dX6_list_9 : decode cX6_list 9 = .ok (.iload_n 2, 1) := by decide +kernel
theorem dX6_list_10 : decode cX6_list 10 = .ok (.ifCond .lt 8, 3) := by decide +kernel
theorem dX6_list_13 : decode cX6_list 13 = .ok (.iload_n 2, 1) := by decide +kernel
theorem dX6_list_14 : decode cX6_list 14 = .ok (.iconst 4, 1) := by decide +kernel
theorem dX6_list_15 : decode cX6_list 15 = .ok (.if_icmp .le 6, 3) := by decide +kernel
theorem dX6_list_18 : decode cX6_list 18 = .ok (.bipush (-2), 2) := by decide +kernel
theorem dX6_list_20 : decode cX6_list 20 = .ok (.ireturn, 1) := by decide +kernel
theorem dX6_list_21 : decode cX6_list 21 = .ok (.iload_n 2, 1) := by decide +kernel
theorem dX6_list_22 : decode cX6_list 22 = .ok (.iconst 3, 1) := by decide +kernel
theorem dX6_list_23 : decode cX6_list 23 = .ok (.if_icmp .ge 35, 3) := by decide +kernel
theorem dX6_list_26 : decode cX6_list 26 = .ok (.aload_n 0, 1) := by decide +kernel
theorem dX6_list_27 : decode cX6_list 27 = .ok (.getfield 7, 3) := by decide +kernel
theorem dX6_list_30 : decode cX6_list 30 = .ok (.iload_n 2, 1) := by decide +kernel
theorem dX6_list_31 : decode cX6_list 31 = .ok (.ifCond .ne 9, 3) := by decide +kernel
theorem dX6_list_34 : decode cX6_list 34 = .ok (.sipush 480, 3) := by decide +kernel
theorem dX6_list_37 : decode cX6_list 37 = .ok (.goto 17, 3) := by decide +kernel
theorem dX6_list_40 : decode cX6_list 40 = .ok (.iload_n 2, 1) := by decide +kernel
theorem dX6_list_41 : decode cX6_list 41 = .ok (.iconst 1, 1) := by decide +kernel
theorem dX6_list_42 : decode cX6_list 42 = .ok (.if_icmp .ne 9, 3) := by decide +kernel
theorem dX6_list_45 : decode cX6_list 45 = .ok (.sipush 486, 3) := by decide +kernel
theorem dX6_list_48 : decode cX6_list 48 = .ok (.goto 6, 3) := by decide +kernel
theorem dX6_list_51 : decode cX6_list 51 = .ok (.sipush 492, 3) := by decide +kernel
theorem dX6_list_54 : decode cX6_list 54 = .ok (.iload_n 1, 1) := by decide +kernel
theorem dX6_list_55 : decode cX6_list 55 = .ok (.iadd, 1) := by decide +kernel
theorem dX6_list_56 : decode cX6_list 56 = .ok (.iaload, 1) := by decide +kernel
theorem dX6_list_57 : decode cX6_list 57 = .ok (.ireturn, 1) := by decide +kernel
theorem dX6_list_58 : decode cX6_list 58 = .ok (.iload_n 2, 1) := by decide +kernel
theorem dX6_list_59 : decode cX6_list 59 = .ok (.iconst 3, 1) := by decide +kernel
theorem dX6_list_60 : decode cX6_list 60 = .ok (.if_icmp .ne 34, 3) := by decide +kernel
theorem dX6_list_63 : decode cX6_list 63 = .ok (.aload_n 0, 1) := by decide +kernel
theorem dX6_list_64 : decode cX6_list 64 = .ok (.getfield 7, 3) := by decide +kernel
theorem dX6_list_67 : decode cX6_list 67 = .ok (.sipush 480, 3) := by decide +kernel
theorem dX6_list_70 : decode cX6_list 70 = .ok (.iload_n 1, 1) := by decide +kernel
theorem dX6_list_71 : decode cX6_list 71 = .ok (.iadd, 1) := by decide +kernel
theorem dX6_list_72 : decode cX6_list 72 = .ok (.iaload, 1) := by decide +kernel
theorem dX6_list_73 : decode cX6_list 73 = .ok (.ifCond .ne 7, 3) := by decide +kernel
theorem dX6_list_76 : decode cX6_list 76 = .ok (.iconst 0, 1) := by decide +kernel
theorem dX6_list_77 : decode cX6_list 77 = .ok (.goto 16, 3) := by decide +kernel
theorem dX6_list_80 : decode cX6_list 80 = .ok (.aload_n 0, 1) := by decide +kernel
theorem dX6_list_81 : decode cX6_list 81 = .ok (.getfield 7, 3) := by decide +kernel
theorem dX6_list_84 : decode cX6_list 84 = .ok (.sipush 240, 3) := by decide +kernel
theorem dX6_list_87 : decode cX6_list 87 = .ok (.bipush 40, 2) := by decide +kernel
theorem dX6_list_89 : decode cX6_list 89 = .ok (.iload_n 1, 1) := by decide +kernel
theorem dX6_list_90 : decode cX6_list 90 = .ok (.imul, 1) := by decide +kernel
theorem dX6_list_91 : decode cX6_list 91 = .ok (.iadd, 1) := by decide +kernel
theorem dX6_list_92 : decode cX6_list 92 = .ok (.iaload, 1) := by decide +kernel
theorem dX6_list_93 : decode cX6_list 93 = .ok (.ireturn, 1) := by decide +kernel
theorem dX6_list_94 : decode cX6_list 94 = .ok (.iconst 0, 1) := by decide +kernel
theorem dX6_list_95 : decode cX6_list 95 = .ok (.istore_n 3, 1) := by decide +kernel
theorem dX6_list_96 : decode cX6_list 96 = .ok (.iconst 0, 1) := by decide +kernel
theorem dX6_list_97 : decode cX6_list 97 = .ok (.istore 4, 2) := by decide +kernel
theorem dX6_list_99 : decode cX6_list 99 = .ok (.iload 4, 2) := by decide +kernel
theorem dX6_list_101 : decode cX6_list 101 = .ok (.aload_n 0, 1) := by decide +kernel
theorem dX6_list_102 : decode cX6_list 102 = .ok (.getfield 7, 3) := by decide +kernel
theorem dX6_list_105 : decode cX6_list 105 = .ok (.sipush 480, 3) := by decide +kernel
theorem dX6_list_108 : decode cX6_list 108 = .ok (.iload_n 1, 1) := by decide +kernel
theorem dX6_list_109 : decode cX6_list 109 = .ok (.iadd, 1) := by decide +kernel
theorem dX6_list_110 : decode cX6_list 110 = .ok (.iaload, 1) := by decide +kernel
theorem dX6_list_111 : decode cX6_list 111 = .ok (.if_icmp .ge 35, 3) := by decide +kernel
theorem dX6_list_114 : decode cX6_list 114 = .ok (.iload_n 3, 1) := by decide +kernel
theorem dX6_list_115 : decode cX6_list 115 = .ok (.aload_n 0, 1) := by decide +kernel
theorem dX6_list_116 : decode cX6_list 116 = .ok (.getfield 7, 3) := by decide +kernel
theorem dX6_list_119 : decode cX6_list 119 = .ok (.sipush 498, 3) := by decide +kernel
theorem dX6_list_122 : decode cX6_list 122 = .ok (.aload_n 0, 1) := by decide +kernel
theorem dX6_list_123 : decode cX6_list 123 = .ok (.getfield 7, 3) := by decide +kernel
theorem dX6_list_126 : decode cX6_list 126 = .ok (.iconst 0, 1) := by decide +kernel
theorem dX6_list_127 : decode cX6_list 127 = .ok (.bipush 40, 2) := by decide +kernel
theorem dX6_list_129 : decode cX6_list 129 = .ok (.iload_n 1, 1) := by decide +kernel
theorem dX6_list_130 : decode cX6_list 130 = .ok (.imul, 1) := by decide +kernel
theorem dX6_list_131 : decode cX6_list 131 = .ok (.iadd, 1) := by decide +kernel
theorem dX6_list_132 : decode cX6_list 132 = .ok (.iload 4, 2) := by decide +kernel
theorem dX6_list_134 : decode cX6_list 134 = .ok (.iadd, 1) := by decide +kernel
theorem dX6_list_135 : decode cX6_list 135 = .ok (.iaload, 1) := by decide +kernel
theorem dX6_list_136 : decode cX6_list 136 = .ok (.iadd, 1) := by decide +kernel
theorem dX6_list_137 : decode cX6_list 137 = .ok (.iaload, 1) := by decide +kernel
theorem dX6_list_138 : decode cX6_list 138 = .ok (.iadd, 1) := by decide +kernel
theorem dX6_list_139 : decode cX6_list 139 = .ok (.istore_n 3, 1) := by decide +kernel
theorem dX6_list_140 : decode cX6_list 140 = .ok (.iinc 4 1, 3) := by decide +kernel
theorem dX6_list_143 : decode cX6_list 143 = .ok (.goto (-44), 3) := by decide +kernel
theorem dX6_list_146 : decode cX6_list 146 = .ok (.iload_n 3, 1) := by decide +kernel
theorem dX6_list_147 : decode cX6_list 147 = .ok (.ireturn, 1) := by decide +kernel
theorem dX6_entry_0 : decode cX6_entry 0 = .ok (.iload_n 1, 1) := by decide +kernel
theorem dX6_entry_1 : decode cX6_entry 1 = .ok (.invokestatic 51, 3) := by decide +kernel
theorem dX6_entry_4 : decode cX6_entry 4 = .ok (.ifCond .ne 5, 3) := by decide +kernel
theorem dX6_entry_7 : decode cX6_entry 7 = .ok (.iconst (-1), 1) := by decide +kernel
theorem dX6_entry_8 : decode cX6_entry 8 = .ok (.ireturn, 1) := by decide +kernel
theorem dX6_entry_9 : decode cX6_entry 9 = .ok (.iload_n 2, 1) := by decide +kernel
theorem dX6_entry_10 : decode cX6_entry 10 = .ok (.ifCond .lt 12, 3) := by decide +kernel
theorem dX6_entry_13 : decode cX6_entry 13 = .ok (.iload_n 3, 1) := by decide +kernel
theorem dX6_entry_14 : decode cX6_entry 14 = .ok (.ifCond .lt 8, 3) := by decide +kernel
theorem dX6_entry_17 : decode cX6_entry 17 = .ok (.iload_n 3, 1) := by decide +kernel
theorem dX6_entry_18 : decode cX6_entry 18 = .ok (.iconst 1, 1) := by decide +kernel
theorem dX6_entry_19 : decode cX6_entry 19 = .ok (.if_icmp .le 6, 3) := by decide +kernel
theorem dX6_entry_22 : decode cX6_entry 22 = .ok (.bipush (-2), 2) := by decide +kernel
theorem dX6_entry_24 : decode cX6_entry 24 = .ok (.ireturn, 1) := by decide +kernel
theorem dX6_entry_25 : decode cX6_entry 25 = .ok (.iload_n 2, 1) := by decide +kernel
theorem dX6_entry_26 : decode cX6_entry 26 = .ok (.aload_n 0, 1) := by decide +kernel
theorem dX6_entry_27 : decode cX6_entry 27 = .ok (.getfield 7, 3) := by decide +kernel
theorem dX6_entry_30 : decode cX6_entry 30 = .ok (.sipush 480, 3) := by decide +kernel
theorem dX6_entry_33 : decode cX6_entry 33 = .ok (.iload_n 1, 1) := by decide +kernel
theorem dX6_entry_34 : decode cX6_entry 34 = .ok (.iadd, 1) := by decide +kernel
theorem dX6_entry_35 : decode cX6_entry 35 = .ok (.iaload, 1) := by decide +kernel
theorem dX6_entry_36 : decode cX6_entry 36 = .ok (.if_icmp .lt 6, 3) := by decide +kernel
theorem dX6_entry_39 : decode cX6_entry 39 = .ok (.bipush (-5), 2) := by decide +kernel
theorem dX6_entry_41 : decode cX6_entry 41 = .ok (.ireturn, 1) := by decide +kernel
theorem dX6_entry_42 : decode cX6_entry 42 = .ok (.aload_n 0, 1) := by decide +kernel
theorem dX6_entry_43 : decode cX6_entry 43 = .ok (.getfield 7, 3) := by decide +kernel
theorem dX6_entry_46 : decode cX6_entry 46 = .ok (.iload_n 3, 1) := by decide +kernel
theorem dX6_entry_47 : decode cX6_entry 47 = .ok (.ifCond .ne 7, 3) := by decide +kernel
theorem dX6_entry_50 : decode cX6_entry 50 = .ok (.iconst 0, 1) := by decide +kernel
theorem dX6_entry_51 : decode cX6_entry 51 = .ok (.goto 6, 3) := by decide +kernel
theorem dX6_entry_54 : decode cX6_entry 54 = .ok (.sipush 240, 3) := by decide +kernel
theorem dX6_entry_57 : decode cX6_entry 57 = .ok (.bipush 40, 2) := by decide +kernel
theorem dX6_entry_59 : decode cX6_entry 59 = .ok (.iload_n 1, 1) := by decide +kernel
theorem dX6_entry_60 : decode cX6_entry 60 = .ok (.imul, 1) := by decide +kernel
theorem dX6_entry_61 : decode cX6_entry 61 = .ok (.iadd, 1) := by decide +kernel
theorem dX6_entry_62 : decode cX6_entry 62 = .ok (.iload_n 2, 1) := by decide +kernel
theorem dX6_entry_63 : decode cX6_entry 63 = .ok (.iadd, 1) := by decide +kernel
theorem dX6_entry_64 : decode cX6_entry 64 = .ok (.iaload, 1) := by decide +kernel
theorem dX6_entry_65 : decode cX6_entry 65 = .ok (.ireturn, 1) := by decide +kernel
theorem dX6_left_0 : decode cX6_left 0 = .ok (.aload_n 0, 1) := by decide +kernel
theorem dX6_left_1 : decode cX6_left 1 = .ok (.getfield 7, 3) := by decide +kernel
theorem dX6_left_4 : decode cX6_left 4 = .ok (.sipush 480, 3) := by decide +kernel
theorem dX6_left_7 : decode cX6_left 7 = .ok (.iload_n 1, 1) := by decide +kernel
theorem dX6_left_8 : decode cX6_left 8 = .ok (.iadd, 1) := by decide +kernel
theorem dX6_left_9 : decode cX6_left 9 = .ok (.iaload, 1) := by decide +kernel
theorem dX6_left_10 : decode cX6_left 10 = .ok (.aload_n 0, 1) := by decide +kernel
theorem dX6_left_11 : decode cX6_left 11 = .ok (.getfield 7, 3) := by decide +kernel
theorem dX6_left_14 : decode cX6_left 14 = .ok (.sipush 568, 3) := by decide +kernel
theorem dX6_left_17 : decode cX6_left 17 = .ok (.iload_n 1, 1) := by decide +kernel
theorem dX6_left_18 : decode cX6_left 18 = .ok (.iadd, 1) := by decide +kernel
theorem dX6_left_19 : decode cX6_left 19 = .ok (.iaload, 1) := by decide +kernel
theorem dX6_left_20 : decode cX6_left 20 = .ok (.isub, 1) := by decide +kernel
theorem dX6_left_21 : decode cX6_left 21 = .ok (.ireturn, 1) := by decide +kernel
theorem dX6_canBeRead_0 : decode cX6_canBeRead 0 = .ok (.aload_n 0, 1) := by decide +kernel
theorem dX6_canBeRead_1 : decode cX6_canBeRead 1 = .ok (.iload_n 1, 1) := by decide +kernel
theorem dX6_canBeRead_2 : decode cX6_canBeRead 2 = .ok (.invokevirtual 80, 3) := by decide +kernel
theorem dX6_canBeRead_5 : decode cX6_canBeRead 5 = .ok (.ifCond .eq 15, 3) := by decide +kernel
theorem dX6_canBeRead_8 : decode cX6_canBeRead 8 = .ok (.aload_n 0, 1) := by decide +kernel
theorem dX6_canBeRead_9 : decode cX6_canBeRead 9 = .ok (.iload_n 1, 1) := by decide +kernel
theorem dX6_canBeRead_10 : decode cX6_canBeRead 10 = .ok (.invokevirtual 95, 3) := by decide +kernel
theorem dX6_canBeRead_13 : decode cX6_canBeRead 13 = .ok (.ifCond .le 7, 3) := by decide +kernel
theorem dX6_canBeRead_16 : decode cX6_canBeRead 16 = .ok (.iconst 1, 1) := by decide +kernel
theorem dX6_canBeRead_17 : decode cX6_canBeRead 17 = .ok (.goto 4, 3) := by decide +kernel
theorem dX6_canBeRead_20 : decode cX6_canBeRead 20 = .ok (.iconst 0, 1) := by decide +kernel
theorem dX6_canBeRead_21 : decode cX6_canBeRead 21 = .ok (.ireturn, 1) := by decide +kernel
theorem dX6_bound_0 : decode cX6_bound 0 = .ok (.aload_n 0, 1) := by decide +kernel
theorem dX6_bound_1 : decode cX6_bound 1 = .ok (.iload_n 1, 1) := by decide +kernel
theorem dX6_bound_2 : decode cX6_bound 2 = .ok (.invokevirtual 95, 3) := by decide +kernel
theorem dX6_bound_5 : decode cX6_bound 5 = .ok (.ifCond .ne 7, 3) := by decide +kernel
theorem dX6_bound_8 : decode cX6_bound 8 = .ok (.iconst 0, 1) := by decide +kernel
theorem dX6_bound_9 : decode cX6_bound 9 = .ok (.goto 27, 3) := by decide +kernel
theorem dX6_bound_12 : decode cX6_bound 12 = .ok (.aload_n 0, 1) := by decide +kernel
theorem dX6_bound_13 : decode cX6_bound 13 = .ok (.getfield 7, 3) := by decide +kernel
theorem dX6_bound_16 : decode cX6_bound 16 = .ok (.sipush 240, 3) := by decide +kernel
theorem dX6_bound_19 : decode cX6_bound 19 = .ok (.bipush 40, 2) := by decide +kernel
theorem dX6_bound_21 : decode cX6_bound 21 = .ok (.iload_n 1, 1) := by decide +kernel
theorem dX6_bound_22 : decode cX6_bound 22 = .ok (.imul, 1) := by decide +kernel
theorem dX6_bound_23 : decode cX6_bound 23 = .ok (.iadd, 1) := by decide +kernel
theorem dX6_bound_24 : decode cX6_bound 24 = .ok (.aload_n 0, 1) := by decide +kernel
theorem dX6_bound_25 : decode cX6_bound 25 = .ok (.getfield 7, 3) := by decide +kernel
theorem dX6_bound_28 : decode cX6_bound 28 = .ok (.sipush 568, 3) := by decide +kernel
theorem dX6_bound_31 : decode cX6_bound 31 = .ok (.iload_n 1, 1) := by decide +kernel
end
section
theorem dX6_bound_32 : decode cX6_bound 32 = .ok (.iadd, 1) := by decide +kernel
theorem dX6_bound_33 : decode cX6_bound 33 = .ok (.iaload, 1) := by decide +kernel
theorem dX6_bound_34 : decode cX6_bound 34 = .ok (.iadd, 1) := by decide +kernel
theorem dX6_bound_35 : decode cX6_bound 35 = .ok (.iaload, 1) := by decide +kernel
theorem dX6_bound_36 : decode cX6_bound 36 = .ok (.ireturn, 1) := by decide +kernel
theorem dX6_toldBound_0 : decode cX6_toldBound 0 = .ok (.aload_n 0, 1) := by decide +kernel
theorem dX6_toldBound_1 : decode cX6_toldBound 1 = .ok (.iload_n 1, 1) := by decide +kernel
theorem dX6_toldBound_2 : decode cX6_toldBound 2 = .ok (.invokevirtual 98, 3) := by decide +kernel
theorem dX6_toldBound_5 : decode cX6_toldBound 5 = .ok (.istore_n 2, 1) := by decide +kernel
theorem dX6_toldBound_6 : decode cX6_toldBound 6 = .ok (.iload_n 2, 1) := by decide +kernel
theorem dX6_toldBound_7 : decode cX6_toldBound 7 = .ok (.aload_n 0, 1) := by decide +kernel
theorem dX6_toldBound_8 : decode cX6_toldBound 8 = .ok (.getfield 7, 3) := by decide +kernel
theorem dX6_toldBound_11 : decode cX6_toldBound 11 = .ok (.sipush 492, 3) := by decide +kernel
theorem dX6_toldBound_14 : decode cX6_toldBound 14 = .ok (.iload_n 1, 1) := by decide +kernel
theorem dX6_toldBound_15 : decode cX6_toldBound 15 = .ok (.iadd, 1) := by decide +kernel
theorem dX6_toldBound_16 : decode cX6_toldBound 16 = .ok (.iaload, 1) := by decide +kernel
theorem dX6_toldBound_17 : decode cX6_toldBound 17 = .ok (.if_icmp .ge 7, 3) := by decide +kernel
theorem dX6_toldBound_20 : decode cX6_toldBound 20 = .ok (.iconst 0, 1) := by decide +kernel
theorem dX6_toldBound_21 : decode cX6_toldBound 21 = .ok (.goto 15, 3) := by decide +kernel
theorem dX6_toldBound_24 : decode cX6_toldBound 24 = .ok (.iload_n 2, 1) := by decide +kernel
theorem dX6_toldBound_25 : decode cX6_toldBound 25 = .ok (.aload_n 0, 1) := by decide +kernel
theorem dX6_toldBound_26 : decode cX6_toldBound 26 = .ok (.getfield 7, 3) := by decide +kernel
theorem dX6_toldBound_29 : decode cX6_toldBound 29 = .ok (.sipush 492, 3) := by decide +kernel
theorem dX6_toldBound_32 : decode cX6_toldBound 32 = .ok (.iload_n 1, 1) := by decide +kernel
theorem dX6_toldBound_33 : decode cX6_toldBound 33 = .ok (.iadd, 1) := by decide +kernel
theorem dX6_toldBound_34 : decode cX6_toldBound 34 = .ok (.iaload, 1) := by decide +kernel
theorem dX6_toldBound_35 : decode cX6_toldBound 35 = .ok (.isub, 1) := by decide +kernel
theorem dX6_toldBound_36 : decode cX6_toldBound 36 = .ok (.istore_n 3, 1) := by decide +kernel
theorem dX6_toldBound_37 : decode cX6_toldBound 37 = .ok (.aload_n 0, 1) := by decide +kernel
theorem dX6_toldBound_38 : decode cX6_toldBound 38 = .ok (.getfield 7, 3) := by decide +kernel
theorem dX6_toldBound_41 : decode cX6_toldBound 41 = .ok (.sipush 574, 3) := by decide +kernel
theorem dX6_toldBound_44 : decode cX6_toldBound 44 = .ok (.iload_n 1, 1) := by decide +kernel
theorem dX6_toldBound_45 : decode cX6_toldBound 45 = .ok (.iadd, 1) := by decide +kernel
theorem dX6_toldBound_46 : decode cX6_toldBound 46 = .ok (.iaload, 1) := by decide +kernel
theorem dX6_toldBound_47 : decode cX6_toldBound 47 = .ok (.iconst 1, 1) := by decide +kernel
theorem dX6_toldBound_48 : decode cX6_toldBound 48 = .ok (.if_icmp .ne 7, 3) := by decide +kernel
theorem dX6_toldBound_51 : decode cX6_toldBound 51 = .ok (.iload_n 2, 1) := by decide +kernel
theorem dX6_toldBound_52 : decode cX6_toldBound 52 = .ok (.goto 4, 3) := by decide +kernel
theorem dX6_toldBound_55 : decode cX6_toldBound 55 = .ok (.iload_n 3, 1) := by decide +kernel
theorem dX6_toldBound_56 : decode cX6_toldBound 56 = .ok (.ireturn, 1) := by decide +kernel
theorem dX6_boundsTogether_0 : decode cX6_boundsTogether 0 = .ok (.iconst 0, 1) := by decide +kernel
theorem dX6_boundsTogether_1 : decode cX6_boundsTogether 1 = .ok (.istore_n 1, 1) := by decide +kernel
theorem dX6_boundsTogether_2 : decode cX6_boundsTogether 2 = .ok (.iconst 0, 1) := by decide +kernel
theorem dX6_boundsTogether_3 : decode cX6_boundsTogether 3 = .ok (.istore_n 2, 1) := by decide +kernel
theorem dX6_boundsTogether_4 : decode cX6_boundsTogether 4 = .ok (.iload_n 2, 1) := by decide +kernel
theorem dX6_boundsTogether_5 : decode cX6_boundsTogether 5 = .ok (.bipush 6, 2) := by decide +kernel
theorem dX6_boundsTogether_7 : decode cX6_boundsTogether 7 = .ok (.if_icmp .ge 28, 3) := by decide +kernel
theorem dX6_boundsTogether_10 : decode cX6_boundsTogether 10 = .ok (.iload_n 1, 1) := by decide +kernel
theorem dX6_boundsTogether_11 : decode cX6_boundsTogether 11 = .ok (.aload_n 0, 1) := by decide +kernel
theorem dX6_boundsTogether_12 : decode cX6_boundsTogether 12 = .ok (.getfield 7, 3) := by decide +kernel
theorem dX6_boundsTogether_15 : decode cX6_boundsTogether 15 = .ok (.sipush 486, 3) := by decide +kernel
theorem dX6_boundsTogether_18 : decode cX6_boundsTogether 18 = .ok (.iload_n 2, 1) := by decide +kernel
theorem dX6_boundsTogether_19 : decode cX6_boundsTogether 19 = .ok (.iadd, 1) := by decide +kernel
theorem dX6_boundsTogether_20 : decode cX6_boundsTogether 20 = .ok (.iaload, 1) := by decide +kernel
theorem dX6_boundsTogether_21 : decode cX6_boundsTogether 21 = .ok (.aload_n 0, 1) := by decide +kernel
theorem dX6_boundsTogether_22 : decode cX6_boundsTogether 22 = .ok (.iload_n 2, 1) := by decide +kernel
theorem dX6_boundsTogether_23 : decode cX6_boundsTogether 23 = .ok (.invokevirtual 101, 3) := by decide +kernel
theorem dX6_boundsTogether_26 : decode cX6_boundsTogether 26 = .ok (.imul, 1) := by decide +kernel
theorem dX6_boundsTogether_27 : decode cX6_boundsTogether 27 = .ok (.iadd, 1) := by decide +kernel
theorem dX6_boundsTogether_28 : decode cX6_boundsTogether 28 = .ok (.istore_n 1, 1) := by decide +kernel
theorem dX6_boundsTogether_29 : decode cX6_boundsTogether 29 = .ok (.iinc 2 1, 3) := by decide +kernel
theorem dX6_boundsTogether_32 : decode cX6_boundsTogether 32 = .ok (.goto (-28), 3) := by decide +kernel
theorem dX6_boundsTogether_35 : decode cX6_boundsTogether 35 = .ok (.iload_n 1, 1) := by decide +kernel
theorem dX6_boundsTogether_36 : decode cX6_boundsTogether 36 = .ok (.ireturn, 1) := by decide +kernel
theorem dX6_isKnown_0 : decode cX6_isKnown 0 = .ok (.aload_n 0, 1) := by decide +kernel
theorem dX6_isKnown_1 : decode cX6_isKnown 1 = .ok (.iload_n 1, 1) := by decide +kernel
theorem dX6_isKnown_2 : decode cX6_isKnown 2 = .ok (.invokevirtual 95, 3) := by decide +kernel
theorem dX6_isKnown_5 : decode cX6_isKnown 5 = .ok (.ifCond .eq 21, 3) := by decide +kernel
theorem dX6_isKnown_8 : decode cX6_isKnown 8 = .ok (.aload_n 0, 1) := by decide +kernel
theorem dX6_isKnown_9 : decode cX6_isKnown 9 = .ok (.getfield 7, 3) := by decide +kernel
theorem dX6_isKnown_12 : decode cX6_isKnown 12 = .ok (.sipush 646, 3) := by decide +kernel
theorem dX6_isKnown_15 : decode cX6_isKnown 15 = .ok (.iload_n 2, 1) := by decide +kernel
theorem dX6_isKnown_16 : decode cX6_isKnown 16 = .ok (.iadd, 1) := by decide +kernel
theorem dX6_isKnown_17 : decode cX6_isKnown 17 = .ok (.iaload, 1) := by decide +kernel
theorem dX6_isKnown_18 : decode cX6_isKnown 18 = .ok (.iload_n 1, 1) := by decide +kernel
theorem dX6_isKnown_19 : decode cX6_isKnown 19 = .ok (.ishr, 1) := by decide +kernel
theorem dX6_isKnown_20 : decode cX6_isKnown 20 = .ok (.iconst 1, 1) := by decide +kernel
theorem dX6_isKnown_21 : decode cX6_isKnown 21 = .ok (.iand, 1) := by decide +kernel
theorem dX6_isKnown_22 : decode cX6_isKnown 22 = .ok (.iconst 1, 1) := by decide +kernel
theorem dX6_isKnown_23 : decode cX6_isKnown 23 = .ok (.if_icmp .ne 7, 3) := by decide +kernel
theorem dX6_isKnown_26 : decode cX6_isKnown 26 = .ok (.iconst 1, 1) := by decide +kernel
theorem dX6_isKnown_27 : decode cX6_isKnown 27 = .ok (.goto 4, 3) := by decide +kernel
theorem dX6_isKnown_30 : decode cX6_isKnown 30 = .ok (.iconst 0, 1) := by decide +kernel
theorem dX6_isKnown_31 : decode cX6_isKnown 31 = .ok (.ireturn, 1) := by decide +kernel
theorem dX6_low_0 : decode cX6_low 0 = .ok (.iconst 0, 1) := by decide +kernel
theorem dX6_low_1 : decode cX6_low 1 = .ok (.istore_n 2, 1) := by decide +kernel
theorem dX6_low_2 : decode cX6_low 2 = .ok (.iconst 0, 1) := by decide +kernel
theorem dX6_low_3 : decode cX6_low 3 = .ok (.istore_n 3, 1) := by decide +kernel
theorem dX6_low_4 : decode cX6_low 4 = .ok (.iload_n 3, 1) := by decide +kernel
theorem dX6_low_5 : decode cX6_low 5 = .ok (.bipush 6, 2) := by decide +kernel
theorem dX6_low_7 : decode cX6_low 7 = .ok (.if_icmp .ge 50, 3) := by decide +kernel
theorem dX6_low_10 : decode cX6_low 10 = .ok (.iload_n 2, 1) := by decide +kernel
theorem dX6_low_11 : decode cX6_low 11 = .ok (.aload_n 0, 1) := by decide +kernel
theorem dX6_low_12 : decode cX6_low 12 = .ok (.iload_n 3, 1) := by decide +kernel
theorem dX6_low_13 : decode cX6_low 13 = .ok (.invokevirtual 80, 3) := by decide +kernel
theorem dX6_low_16 : decode cX6_low 16 = .ok (.ifCond .eq 32, 3) := by decide +kernel
theorem dX6_low_19 : decode cX6_low 19 = .ok (.aload_n 0, 1) := by decide +kernel
theorem dX6_low_20 : decode cX6_low 20 = .ok (.iload_n 3, 1) := by decide +kernel
theorem dX6_low_21 : decode cX6_low 21 = .ok (.iload_n 1, 1) := by decide +kernel
theorem dX6_low_22 : decode cX6_low 22 = .ok (.invokevirtual 104, 3) := by decide +kernel
theorem dX6_low_25 : decode cX6_low 25 = .ok (.ifCond .eq 23, 3) := by decide +kernel
theorem dX6_low_28 : decode cX6_low 28 = .ok (.aload_n 0, 1) := by decide +kernel
theorem dX6_low_29 : decode cX6_low 29 = .ok (.getfield 7, 3) := by decide +kernel
theorem dX6_low_32 : decode cX6_low 32 = .ok (.sipush 486, 3) := by decide +kernel
theorem dX6_low_35 : decode cX6_low 35 = .ok (.iload_n 3, 1) := by decide +kernel
theorem dX6_low_36 : decode cX6_low 36 = .ok (.iadd, 1) := by decide +kernel
theorem dX6_low_37 : decode cX6_low 37 = .ok (.iaload, 1) := by decide +kernel
theorem dX6_low_38 : decode cX6_low 38 = .ok (.aload_n 0, 1) := by decide +kernel
theorem dX6_low_39 : decode cX6_low 39 = .ok (.iload_n 3, 1) := by decide +kernel
theorem dX6_low_40 : decode cX6_low 40 = .ok (.iload_n 1, 1) := by decide +kernel
theorem dX6_low_41 : decode cX6_low 41 = .ok (.invokevirtual 83, 3) := by decide +kernel
theorem dX6_low_44 : decode cX6_low 44 = .ok (.imul, 1) := by decide +kernel
theorem dX6_low_45 : decode cX6_low 45 = .ok (.goto 4, 3) := by decide +kernel
theorem dX6_low_48 : decode cX6_low 48 = .ok (.iconst 0, 1) := by decide +kernel
theorem dX6_low_49 : decode cX6_low 49 = .ok (.iadd, 1) := by decide +kernel
theorem dX6_low_50 : decode cX6_low 50 = .ok (.istore_n 2, 1) := by decide +kernel
theorem dX6_low_51 : decode cX6_low 51 = .ok (.iinc 3 1, 3) := by decide +kernel
theorem dX6_low_54 : decode cX6_low 54 = .ok (.goto (-50), 3) := by decide +kernel
theorem dX6_low_57 : decode cX6_low 57 = .ok (.iload_n 2, 1) := by decide +kernel
theorem dX6_low_58 : decode cX6_low 58 = .ok (.ireturn, 1) := by decide +kernel
theorem dX6_reckon_0 : decode cX6_reckon 0 = .ok (.iconst 0, 1) := by decide +kernel
theorem dX6_reckon_1 : decode cX6_reckon 1 = .ok (.istore_n 1, 1) := by decide +kernel
theorem dX6_reckon_2 : decode cX6_reckon 2 = .ok (.iload_n 1, 1) := by decide +kernel
theorem dX6_reckon_3 : decode cX6_reckon 3 = .ok (.bipush 60, 2) := by decide +kernel
theorem dX6_reckon_5 : decode cX6_reckon 5 = .ok (.if_icmp .ge 32, 3) := by decide +kernel
theorem dX6_reckon_8 : decode cX6_reckon 8 = .ok (.aload_n 0, 1) := by decide +kernel
theorem dX6_reckon_9 : decode cX6_reckon 9 = .ok (.getfield 22, 3) := by decide +kernel
theorem dX6_reckon_12 : decode cX6_reckon 12 = .ok (.iload_n 1, 1) := by decide +kernel
theorem dX6_reckon_13 : decode cX6_reckon 13 = .ok (.aload_n 0, 1) := by decide +kernel
theorem dX6_reckon_14 : decode cX6_reckon 14 = .ok (.iload_n 1, 1) := by decide +kernel
theorem dX6_reckon_15 : decode cX6_reckon 15 = .ok (.invokevirtual 108, 3) := by decide +kernel
theorem dX6_reckon_18 : decode cX6_reckon 18 = .ok (.ifCond .eq 11, 3) := by decide +kernel
theorem dX6_reckon_21 : decode cX6_reckon 21 = .ok (.aload_n 0, 1) := by decide +kernel
theorem dX6_reckon_22 : decode cX6_reckon 22 = .ok (.iload_n 1, 1) := by decide +kernel
theorem dX6_reckon_23 : decode cX6_reckon 23 = .ok (.invokevirtual 111, 3) := by decide +kernel
theorem dX6_reckon_26 : decode cX6_reckon 26 = .ok (.goto 4, 3) := by decide +kernel
theorem dX6_reckon_29 : decode cX6_reckon 29 = .ok (.iconst 0, 1) := by decide +kernel
theorem dX6_reckon_30 : decode cX6_reckon 30 = .ok (.iastore, 1) := by decide +kernel
theorem dX6_reckon_31 : decode cX6_reckon 31 = .ok (.iinc 1 1, 3) := by decide +kernel
theorem dX6_reckon_34 : decode cX6_reckon 34 = .ok (.goto (-32), 3) := by decide +kernel
theorem dX6_reckon_37 : decode cX6_reckon 37 = .ok (.return_, 1) := by decide +kernel
theorem dX6_high_0 : decode cX6_high 0 = .ok (.aload_n 0, 1) := by decide +kernel
theorem dX6_high_1 : decode cX6_high 1 = .ok (.getfield 22, 3) := by decide +kernel
theorem dX6_high_4 : decode cX6_high 4 = .ok (.iload_n 1, 1) := by decide +kernel
theorem dX6_high_5 : decode cX6_high 5 = .ok (.iaload, 1) := by decide +kernel
theorem dX6_high_6 : decode cX6_high 6 = .ok (.istore_n 2, 1) := by decide +kernel
theorem dX6_high_7 : decode cX6_high 7 = .ok (.iconst 0, 1) := by decide +kernel
theorem dX6_high_8 : decode cX6_high 8 = .ok (.istore_n 3, 1) := by decide +kernel
theorem dX6_high_9 : decode cX6_high 9 = .ok (.iload_n 3, 1) := by decide +kernel
theorem dX6_high_10 : decode cX6_high 10 = .ok (.bipush 6, 2) := by decide +kernel
theorem dX6_high_12 : decode cX6_high 12 = .ok (.if_icmp .ge 49, 3) := by decide +kernel
theorem dX6_high_15 : decode cX6_high 15 = .ok (.iload_n 2, 1) := by decide +kernel
theorem dX6_high_16 : decode cX6_high 16 = .ok (.aload_n 0, 1) := by decide +kernel
theorem dX6_high_17 : decode cX6_high 17 = .ok (.iload_n 3, 1) := by decide +kernel
theorem dX6_high_18 : decode cX6_high 18 = .ok (.invokevirtual 80, 3) := by decide +kernel
theorem dX6_high_21 : decode cX6_high 21 = .ok (.ifCond .eq 31, 3) := by decide +kernel
theorem dX6_high_24 : decode cX6_high 24 = .ok (.aload_n 0, 1) := by decide +kernel
theorem dX6_high_25 : decode cX6_high 25 = .ok (.iload_n 3, 1) := by decide +kernel
theorem dX6_high_26 : decode cX6_high 26 = .ok (.iload_n 1, 1) := by decide +kernel
theorem dX6_high_27 : decode cX6_high 27 = .ok (.invokevirtual 104, 3) := by decide +kernel
theorem dX6_high_30 : decode cX6_high 30 = .ok (.ifCond .ne 22, 3) := by decide +kernel
theorem dX6_high_33 : decode cX6_high 33 = .ok (.aload_n 0, 1) := by decide +kernel
theorem dX6_high_34 : decode cX6_high 34 = .ok (.getfield 7, 3) := by decide +kernel
theorem dX6_high_37 : decode cX6_high 37 = .ok (.sipush 486, 3) := by decide +kernel
theorem dX6_high_40 : decode cX6_high 40 = .ok (.iload_n 3, 1) := by decide +kernel
theorem dX6_high_41 : decode cX6_high 41 = .ok (.iadd, 1) := by decide +kernel
theorem dX6_high_42 : decode cX6_high 42 = .ok (.iaload, 1) := by decide +kernel
theorem dX6_high_43 : decode cX6_high 43 = .ok (.aload_n 0, 1) := by decide +kernel
theorem dX6_high_44 : decode cX6_high 44 = .ok (.iload_n 3, 1) := by decide +kernel
theorem dX6_high_45 : decode cX6_high 45 = .ok (.invokevirtual 101, 3) := by decide +kernel
theorem dX6_high_48 : decode cX6_high 48 = .ok (.imul, 1) := by decide +kernel
theorem dX6_high_49 : decode cX6_high 49 = .ok (.goto 4, 3) := by decide +kernel
theorem dX6_high_52 : decode cX6_high 52 = .ok (.iconst 0, 1) := by decide +kernel
theorem dX6_high_53 : decode cX6_high 53 = .ok (.iadd, 1) := by decide +kernel
theorem dX6_high_54 : decode cX6_high 54 = .ok (.istore_n 2, 1) := by decide +kernel
theorem dX6_high_55 : decode cX6_high 55 = .ok (.iinc 3 1, 3) := by decide +kernel
theorem dX6_high_58 : decode cX6_high 58 = .ok (.goto (-49), 3) := by decide +kernel
theorem dX6_high_61 : decode cX6_high 61 = .ok (.iload_n 2, 1) := by decide +kernel
theorem dX6_high_62 : decode cX6_high 62 = .ok (.ireturn, 1) := by decide +kernel
theorem dX6_isSeen_0 : decode cX6_isSeen 0 = .ok (.aload_n 0, 1) := by decide +kernel
theorem dX6_isSeen_1 : decode cX6_isSeen 1 = .ok (.getfield 7, 3) := by decide +kernel
theorem dX6_isSeen_4 : decode cX6_isSeen 4 = .ok (.sipush 586, 3) := by decide +kernel
theorem dX6_isSeen_7 : decode cX6_isSeen 7 = .ok (.iload_n 1, 1) := by decide +kernel
theorem dX6_isSeen_8 : decode cX6_isSeen 8 = .ok (.iadd, 1) := by decide +kernel
theorem dX6_isSeen_9 : decode cX6_isSeen 9 = .ok (.iaload, 1) := by decide +kernel
theorem dX6_isSeen_10 : decode cX6_isSeen 10 = .ok (.ifCond .le 7, 3) := by decide +kernel
theorem dX6_isSeen_13 : decode cX6_isSeen 13 = .ok (.iconst 1, 1) := by decide +kernel
theorem dX6_isSeen_14 : decode cX6_isSeen 14 = .ok (.goto 4, 3) := by decide +kernel
theorem dX6_isSeen_17 : decode cX6_isSeen 17 = .ok (.iconst 0, 1) := by decide +kernel
theorem dX6_isSeen_18 : decode cX6_isSeen 18 = .ok (.ireturn, 1) := by decide +kernel
theorem dX6_seenMany_0 : decode cX6_seenMany 0 = .ok (.iconst 0, 1) := by decide +kernel
theorem dX6_seenMany_1 : decode cX6_seenMany 1 = .ok (.istore_n 1, 1) := by decide +kernel
theorem dX6_seenMany_2 : decode cX6_seenMany 2 = .ok (.iconst 0, 1) := by decide +kernel
theorem dX6_seenMany_3 : decode cX6_seenMany 3 = .ok (.istore_n 2, 1) := by decide +kernel
theorem dX6_seenMany_4 : decode cX6_seenMany 4 = .ok (.iload_n 2, 1) := by decide +kernel
theorem dX6_seenMany_5 : decode cX6_seenMany 5 = .ok (.bipush 60, 2) := by decide +kernel
theorem dX6_seenMany_7 : decode cX6_seenMany 7 = .ok (.if_icmp .ge 25, 3) := by decide +kernel
theorem dX6_seenMany_10 : decode cX6_seenMany 10 = .ok (.iload_n 1, 1) := by decide +kernel
theorem dX6_seenMany_11 : decode cX6_seenMany 11 = .ok (.aload_n 0, 1) := by decide +kernel
theorem dX6_seenMany_12 : decode cX6_seenMany 12 = .ok (.iload_n 2, 1) := by decide +kernel
theorem dX6_seenMany_13 : decode cX6_seenMany 13 = .ok (.invokevirtual 108, 3) := by decide +kernel
theorem dX6_seenMany_16 : decode cX6_seenMany 16 = .ok (.ifCond .eq 7, 3) := by decide +kernel
theorem dX6_seenMany_19 : decode cX6_seenMany 19 = .ok (.iconst 1, 1) := by decide +kernel
theorem dX6_seenMany_20 : decode cX6_seenMany 20 = .ok (.goto 4, 3) := by decide +kernel
theorem dX6_seenMany_23 : decode cX6_seenMany 23 = .ok (.iconst 0, 1) := by decide +kernel
theorem dX6_seenMany_24 : decode cX6_seenMany 24 = .ok (.iadd, 1) := by decide +kernel
theorem dX6_seenMany_25 : decode cX6_seenMany 25 = .ok (.istore_n 1, 1) := by decide +kernel
theorem dX6_seenMany_26 : decode cX6_seenMany 26 = .ok (.iinc 2 1, 3) := by decide +kernel
theorem dX6_seenMany_29 : decode cX6_seenMany 29 = .ok (.goto (-25), 3) := by decide +kernel
theorem dX6_seenMany_32 : decode cX6_seenMany 32 = .ok (.iload_n 1, 1) := by decide +kernel
theorem dX6_seenMany_33 : decode cX6_seenMany 33 = .ok (.ireturn, 1) := by decide +kernel
theorem dX6_toldMany_0 : decode cX6_toldMany 0 = .ok (.aload_n 0, 1) := by decide +kernel
theorem dX6_toldMany_1 : decode cX6_toldMany 1 = .ok (.invokevirtual 114, 3) := by decide +kernel
theorem dX6_toldMany_4 : decode cX6_toldMany 4 = .ok (.istore_n 1, 1) := by decide +kernel
theorem dX6_toldMany_5 : decode cX6_toldMany 5 = .ok (.iload_n 1, 1) := by decide +kernel
theorem dX6_toldMany_6 : decode cX6_toldMany 6 = .ok (.aload_n 0, 1) := by decide +kernel
theorem dX6_toldMany_7 : decode cX6_toldMany 7 = .ok (.getfield 7, 3) := by decide +kernel
theorem dX6_toldMany_10 : decode cX6_toldMany 10 = .ok (.sipush 558, 3) := by decide +kernel
theorem dX6_toldMany_13 : decode cX6_toldMany 13 = .ok (.iaload, 1) := by decide +kernel
theorem dX6_toldMany_14 : decode cX6_toldMany 14 = .ok (.if_icmp .ge 7, 3) := by decide +kernel
theorem dX6_toldMany_17 : decode cX6_toldMany 17 = .ok (.iload_n 1, 1) := by decide +kernel
theorem dX6_toldMany_18 : decode cX6_toldMany 18 = .ok (.goto 11, 3) := by decide +kernel
theorem dX6_toldMany_21 : decode cX6_toldMany 21 = .ok (.aload_n 0, 1) := by decide +kernel
theorem dX6_toldMany_22 : decode cX6_toldMany 22 = .ok (.getfield 7, 3) := by decide +kernel
theorem dX6_toldMany_25 : decode cX6_toldMany 25 = .ok (.sipush 558, 3) := by decide +kernel
theorem dX6_toldMany_28 : decode cX6_toldMany 28 = .ok (.iaload, 1) := by decide +kernel
theorem dX6_toldMany_29 : decode cX6_toldMany 29 = .ok (.ireturn, 1) := by decide +kernel
theorem dX6_frontPlace_0 : decode cX6_frontPlace 0 = .ok (.aload_n 0, 1) := by decide +kernel
theorem dX6_frontPlace_1 : decode cX6_frontPlace 1 = .ok (.getfield 22, 3) := by decide +kernel
theorem dX6_frontPlace_4 : decode cX6_frontPlace 4 = .ok (.iload_n 1, 1) := by decide +kernel
theorem dX6_frontPlace_5 : decode cX6_frontPlace 5 = .ok (.iaload, 1) := by decide +kernel
theorem dX6_frontPlace_6 : decode cX6_frontPlace 6 = .ok (.istore_n 2, 1) := by decide +kernel
theorem dX6_frontPlace_7 : decode cX6_frontPlace 7 = .ok (.iconst 0, 1) := by decide +kernel
theorem dX6_frontPlace_8 : decode cX6_frontPlace 8 = .ok (.istore_n 3, 1) := by decide +kernel
theorem dX6_frontPlace_9 : decode cX6_frontPlace 9 = .ok (.iconst 0, 1) := by decide +kernel
theorem dX6_frontPlace_10 : decode cX6_frontPlace 10 = .ok (.istore 4, 2) := by decide +kernel
theorem dX6_frontPlace_12 : decode cX6_frontPlace 12 = .ok (.iload 4, 2) := by decide +kernel
theorem dX6_frontPlace_14 : decode cX6_frontPlace 14 = .ok (.bipush 60, 2) := by decide +kernel
theorem dX6_frontPlace_16 : decode cX6_frontPlace 16 = .ok (.if_icmp .ge 66, 3) := by decide +kernel
theorem dX6_frontPlace_19 : decode cX6_frontPlace 19 = .ok (.aload_n 0, 1) := by decide +kernel
theorem dX6_frontPlace_20 : decode cX6_frontPlace 20 = .ok (.getfield 22, 3) := by decide +kernel
theorem dX6_frontPlace_23 : decode cX6_frontPlace 23 = .ok (.iload 4, 2) := by decide +kernel
theorem dX6_frontPlace_25 : decode cX6_frontPlace 25 = .ok (.iaload, 1) := by decide +kernel
theorem dX6_frontPlace_26 : decode cX6_frontPlace 26 = .ok (.iload_n 2, 1) := by decide +kernel
theorem dX6_frontPlace_27 : decode cX6_frontPlace 27 = .ok (.if_icmp .gt 20, 3) := by decide +kernel
theorem dX6_frontPlace_30 : decode cX6_frontPlace 30 = .ok (.aload_n 0, 1) := by decide +kernel
theorem dX6_frontPlace_31 : decode cX6_frontPlace 31 = .ok (.getfield 22, 3) := by decide +kernel
theorem dX6_frontPlace_34 : decode cX6_frontPlace 34 = .ok (.iload 4, 2) := by decide +kernel
theorem dX6_frontPlace_36 : decode cX6_frontPlace 36 = .ok (.iaload, 1) := by decide +kernel
theorem dX6_frontPlace_37 : decode cX6_frontPlace 37 = .ok (.iload_n 2, 1) := by decide +kernel
theorem dX6_frontPlace_38 : decode cX6_frontPlace 38 = .ok (.if_icmp .ne 13, 3) := by decide +kernel
theorem dX6_frontPlace_41 : decode cX6_frontPlace 41 = .ok (.iload 4, 2) := by decide +kernel
theorem dX6_frontPlace_43 : decode cX6_frontPlace 43 = .ok (.iload_n 1, 1) := by decide +kernel
theorem dX6_frontPlace_44 : decode cX6_frontPlace 44 = .ok (.if_icmp .ge 7, 3) := by decide +kernel
theorem dX6_frontPlace_47 : decode cX6_frontPlace 47 = .ok (.iconst 1, 1) := by decide +kernel
theorem dX6_frontPlace_48 : decode cX6_frontPlace 48 = .ok (.goto 4, 3) := by decide +kernel
theorem dX6_frontPlace_51 : decode cX6_frontPlace 51 = .ok (.iconst 0, 1) := by decide +kernel
theorem dX6_frontPlace_52 : decode cX6_frontPlace 52 = .ok (.istore 5, 2) := by decide +kernel
theorem dX6_frontPlace_54 : decode cX6_frontPlace 54 = .ok (.iload_n 3, 1) := by decide +kernel
theorem dX6_frontPlace_55 : decode cX6_frontPlace 55 = .ok (.aload_n 0, 1) := by decide +kernel
theorem dX6_frontPlace_56 : decode cX6_frontPlace 56 = .ok (.iload 4, 2) := by decide +kernel
theorem dX6_frontPlace_58 : decode cX6_frontPlace 58 = .ok (.invokevirtual 108, 3) := by decide +kernel
theorem dX6_frontPlace_61 : decode cX6_frontPlace 61 = .ok (.ifCond .eq 12, 3) := by decide +kernel
theorem dX6_frontPlace_64 : decode cX6_frontPlace 64 = .ok (.iload 5, 2) := by decide +kernel
theorem dX6_frontPlace_66 : decode cX6_frontPlace 66 = .ok (.ifCond .eq 7, 3) := by decide +kernel
theorem dX6_frontPlace_69 : decode cX6_frontPlace 69 = .ok (.iconst 1, 1) := by decide +kernel
theorem dX6_frontPlace_70 : decode cX6_frontPlace 70 = .ok (.goto 4, 3) := by decide +kernel
theorem dX6_frontPlace_73 : decode cX6_frontPlace 73 = .ok (.iconst 0, 1) := by decide +kernel
theorem dX6_frontPlace_74 : decode cX6_frontPlace 74 = .ok (.iadd, 1) := by decide +kernel
theorem dX6_frontPlace_75 : decode cX6_frontPlace 75 = .ok (.istore_n 3, 1) := by decide +kernel
theorem dX6_frontPlace_76 : decode cX6_frontPlace 76 = .ok (.iinc 4 1, 3) := by decide +kernel
theorem dX6_frontPlace_79 : decode cX6_frontPlace 79 = .ok (.goto (-67), 3) := by decide +kernel
theorem dX6_frontPlace_82 : decode cX6_frontPlace 82 = .ok (.iload_n 3, 1) := by decide +kernel
theorem dX6_frontPlace_83 : decode cX6_frontPlace 83 = .ok (.ireturn, 1) := by decide +kernel
theorem dX6_frontAt_0 : decode cX6_frontAt 0 = .ok (.iconst (-1), 1) := by decide +kernel
theorem dX6_frontAt_1 : decode cX6_frontAt 1 = .ok (.istore_n 2, 1) := by decide +kernel
theorem dX6_frontAt_2 : decode cX6_frontAt 2 = .ok (.iconst 0, 1) := by decide +kernel
theorem dX6_frontAt_3 : decode cX6_frontAt 3 = .ok (.istore_n 3, 1) := by decide +kernel
theorem dX6_frontAt_4 : decode cX6_frontAt 4 = .ok (.iload_n 3, 1) := by decide +kernel
theorem dX6_frontAt_5 : decode cX6_frontAt 5 = .ok (.bipush 60, 2) := by decide +kernel
theorem dX6_frontAt_7 : decode cX6_frontAt 7 = .ok (.if_icmp .ge 32, 3) := by decide +kernel
theorem dX6_frontAt_10 : decode cX6_frontAt 10 = .ok (.aload_n 0, 1) := by decide +kernel
theorem dX6_frontAt_11 : decode cX6_frontAt 11 = .ok (.iload_n 3, 1) := by decide +kernel
theorem dX6_frontAt_12 : decode cX6_frontAt 12 = .ok (.invokevirtual 108, 3) := by decide +kernel
theorem dX6_frontAt_15 : decode cX6_frontAt 15 = .ok (.ifCond .eq 16, 3) := by decide +kernel
theorem dX6_frontAt_18 : decode cX6_frontAt 18 = .ok (.aload_n 0, 1) := by decide +kernel
theorem dX6_frontAt_19 : decode cX6_frontAt 19 = .ok (.iload_n 3, 1) := by decide +kernel
theorem dX6_frontAt_20 : decode cX6_frontAt 20 = .ok (.invokevirtual 117, 3) := by decide +kernel
theorem dX6_frontAt_23 : decode cX6_frontAt 23 = .ok (.iload_n 1, 1) := by decide +kernel
theorem dX6_frontAt_24 : decode cX6_frontAt 24 = .ok (.if_icmp .ne 7, 3) := by decide +kernel
theorem dX6_frontAt_27 : decode cX6_frontAt 27 = .ok (.iload_n 3, 1) := by decide +kernel
theorem dX6_frontAt_28 : decode cX6_frontAt 28 = .ok (.goto 4, 3) := by decide +kernel
theorem dX6_frontAt_31 : decode cX6_frontAt 31 = .ok (.iload_n 2, 1) := by decide +kernel
theorem dX6_frontAt_32 : decode cX6_frontAt 32 = .ok (.istore_n 2, 1) := by decide +kernel
theorem dX6_frontAt_33 : decode cX6_frontAt 33 = .ok (.iinc 3 1, 3) := by decide +kernel
theorem dX6_frontAt_36 : decode cX6_frontAt 36 = .ok (.goto (-32), 3) := by decide +kernel
theorem dX6_frontAt_39 : decode cX6_frontAt 39 = .ok (.iload_n 2, 1) := by decide +kernel
theorem dX6_frontAt_40 : decode cX6_frontAt 40 = .ok (.ireturn, 1) := by decide +kernel
theorem dX6_isOver_0 : decode cX6_isOver 0 = .ok (.iconst 0, 1) := by decide +kernel
theorem dX6_isOver_1 : decode cX6_isOver 1 = .ok (.istore_n 1, 1) := by decide +kernel
theorem dX6_isOver_2 : decode cX6_isOver 2 = .ok (.iconst 0, 1) := by decide +kernel
theorem dX6_isOver_3 : decode cX6_isOver 3 = .ok (.istore_n 2, 1) := by decide +kernel
theorem dX6_isOver_4 : decode cX6_isOver 4 = .ok (.iload_n 2, 1) := by decide +kernel
theorem dX6_isOver_5 : decode cX6_isOver 5 = .ok (.bipush 6, 2) := by decide +kernel
theorem dX6_isOver_7 : decode cX6_isOver 7 = .ok (.if_icmp .ge 25, 3) := by decide +kernel
theorem dX6_isOver_10 : decode cX6_isOver 10 = .ok (.iload_n 1, 1) := by decide +kernel
theorem dX6_isOver_11 : decode cX6_isOver 11 = .ok (.aload_n 0, 1) := by decide +kernel
theorem dX6_isOver_12 : decode cX6_isOver 12 = .ok (.iload_n 2, 1) := by decide +kernel
theorem dX6_isOver_13 : decode cX6_isOver 13 = .ok (.invokevirtual 120, 3) := by decide +kernel
theorem dX6_isOver_16 : decode cX6_isOver 16 = .ok (.ifCond .eq 7, 3) := by decide +kernel
theorem dX6_isOver_19 : decode cX6_isOver 19 = .ok (.iconst 1, 1) := by decide +kernel
theorem dX6_isOver_20 : decode cX6_isOver 20 = .ok (.goto 4, 3) := by decide +kernel
theorem dX6_isOver_23 : decode cX6_isOver 23 = .ok (.iconst 0, 1) := by decide +kernel
theorem dX6_isOver_24 : decode cX6_isOver 24 = .ok (.iadd, 1) := by decide +kernel
theorem dX6_isOver_25 : decode cX6_isOver 25 = .ok (.istore_n 1, 1) := by decide +kernel
theorem dX6_isOver_26 : decode cX6_isOver 26 = .ok (.iinc 2 1, 3) := by decide +kernel
theorem dX6_isOver_29 : decode cX6_isOver 29 = .ok (.goto (-25), 3) := by decide +kernel
theorem dX6_isOver_32 : decode cX6_isOver 32 = .ok (.iload_n 1, 1) := by decide +kernel
theorem dX6_isOver_33 : decode cX6_isOver 33 = .ok (.ifCond .ne 5, 3) := by decide +kernel
theorem dX6_isOver_36 : decode cX6_isOver 36 = .ok (.iconst 1, 1) := by decide +kernel
theorem dX6_isOver_37 : decode cX6_isOver 37 = .ok (.ireturn, 1) := by decide +kernel
theorem dX6_isOver_38 : decode cX6_isOver 38 = .ok (.aload_n 0, 1) := by decide +kernel
theorem dX6_isOver_39 : decode cX6_isOver 39 = .ok (.invokevirtual 114, 3) := by decide +kernel
theorem dX6_isOver_42 : decode cX6_isOver 42 = .ok (.aload_n 0, 1) := by decide +kernel
theorem dX6_isOver_43 : decode cX6_isOver 43 = .ok (.getfield 7, 3) := by decide +kernel
theorem dX6_isOver_46 : decode cX6_isOver 46 = .ok (.sipush 558, 3) := by decide +kernel
theorem dX6_isOver_49 : decode cX6_isOver 49 = .ok (.iaload, 1) := by decide +kernel
theorem dX6_isOver_50 : decode cX6_isOver 50 = .ok (.if_icmp .ge 5, 3) := by decide +kernel
theorem dX6_isOver_53 : decode cX6_isOver 53 = .ok (.iconst 0, 1) := by decide +kernel
theorem dX6_isOver_54 : decode cX6_isOver 54 = .ok (.ireturn, 1) := by decide +kernel
theorem dX6_isOver_55 : decode cX6_isOver 55 = .ok (.aload_n 0, 1) := by decide +kernel
theorem dX6_isOver_56 : decode cX6_isOver 56 = .ok (.invokevirtual 123, 3) := by decide +kernel
theorem dX6_isOver_59 : decode cX6_isOver 59 = .ok (.aload_n 0, 1) := by decide +kernel
theorem dX6_isOver_60 : decode cX6_isOver 60 = .ok (.aload_n 0, 1) := by decide +kernel
theorem dX6_isOver_61 : decode cX6_isOver 61 = .ok (.getfield 7, 3) := by decide +kernel
theorem dX6_isOver_64 : decode cX6_isOver 64 = .ok (.sipush 558, 3) := by decide +kernel
theorem dX6_isOver_67 : decode cX6_isOver 67 = .ok (.iaload, 1) := by decide +kernel
theorem dX6_isOver_68 : decode cX6_isOver 68 = .ok (.iconst 1, 1) := by decide +kernel
theorem dX6_isOver_69 : decode cX6_isOver 69 = .ok (.isub, 1) := by decide +kernel
theorem dX6_isOver_70 : decode cX6_isOver 70 = .ok (.invokevirtual 126, 3) := by decide +kernel
theorem dX6_isOver_73 : decode cX6_isOver 73 = .ok (.istore_n 2, 1) := by decide +kernel
theorem dX6_isOver_74 : decode cX6_isOver 74 = .ok (.aload_n 0, 1) := by decide +kernel
theorem dX6_isOver_75 : decode cX6_isOver 75 = .ok (.getfield 22, 3) := by decide +kernel
theorem dX6_isOver_78 : decode cX6_isOver 78 = .ok (.iload_n 2, 1) := by decide +kernel
theorem dX6_isOver_79 : decode cX6_isOver 79 = .ok (.iaload, 1) := by decide +kernel
theorem dX6_isOver_80 : decode cX6_isOver 80 = .ok (.istore_n 3, 1) := by decide +kernel
theorem dX6_isOver_81 : decode cX6_isOver 81 = .ok (.aload_n 0, 1) := by decide +kernel
theorem dX6_isOver_82 : decode cX6_isOver 82 = .ok (.invokevirtual 129, 3) := by decide +kernel
theorem dX6_isOver_85 : decode cX6_isOver 85 = .ok (.iload_n 3, 1) := by decide +kernel
theorem dX6_isOver_86 : decode cX6_isOver 86 = .ok (.if_icmp .ge 7, 3) := by decide +kernel
theorem dX6_isOver_89 : decode cX6_isOver 89 = .ok (.iconst 1, 1) := by decide +kernel
theorem dX6_isOver_90 : decode cX6_isOver 90 = .ok (.goto 4, 3) := by decide +kernel
theorem dX6_isOver_93 : decode cX6_isOver 93 = .ok (.iconst 0, 1) := by decide +kernel
theorem dX6_isOver_94 : decode cX6_isOver 94 = .ok (.istore 4, 2) := by decide +kernel
theorem dX6_isOver_96 : decode cX6_isOver 96 = .ok (.iconst 0, 1) := by decide +kernel
theorem dX6_isOver_97 : decode cX6_isOver 97 = .ok (.istore 5, 2) := by decide +kernel
theorem dX6_isOver_99 : decode cX6_isOver 99 = .ok (.iload 5, 2) := by decide +kernel
theorem dX6_isOver_101 : decode cX6_isOver 101 = .ok (.bipush 60, 2) := by decide +kernel
theorem dX6_isOver_103 : decode cX6_isOver 103 = .ok (.if_icmp .ge 73, 3) := by decide +kernel
theorem dX6_isOver_106 : decode cX6_isOver 106 = .ok (.iload 4, 2) := by decide +kernel
theorem dX6_isOver_108 : decode cX6_isOver 108 = .ok (.ifCond .eq 68, 3) := by decide +kernel
theorem dX6_isOver_111 : decode cX6_isOver 111 = .ok (.aload_n 0, 1) := by decide +kernel
theorem dX6_isOver_112 : decode cX6_isOver 112 = .ok (.iload 5, 2) := by decide +kernel
theorem dX6_isOver_114 : decode cX6_isOver 114 = .ok (.invokevirtual 108, 3) := by decide +kernel
theorem dX6_isOver_117 : decode cX6_isOver 117 = .ok (.ifCond .eq 53, 3) := by decide +kernel
theorem dX6_isOver_120 : decode cX6_isOver 120 = .ok (.aload_n 0, 1) := by decide +kernel
theorem dX6_isOver_121 : decode cX6_isOver 121 = .ok (.iload 5, 2) := by decide +kernel
theorem dX6_isOver_123 : decode cX6_isOver 123 = .ok (.invokevirtual 117, 3) := by decide +kernel
theorem dX6_isOver_126 : decode cX6_isOver 126 = .ok (.aload_n 0, 1) := by decide +kernel
theorem dX6_isOver_127 : decode cX6_isOver 127 = .ok (.getfield 7, 3) := by decide +kernel
theorem dX6_isOver_130 : decode cX6_isOver 130 = .ok (.sipush 558, 3) := by decide +kernel
theorem dX6_isOver_133 : decode cX6_isOver 133 = .ok (.iaload, 1) := by decide +kernel
theorem dX6_isOver_134 : decode cX6_isOver 134 = .ok (.if_icmp .lt 36, 3) := by decide +kernel
theorem dX6_isOver_137 : decode cX6_isOver 137 = .ok (.aload_n 0, 1) := by decide +kernel
theorem dX6_isOver_138 : decode cX6_isOver 138 = .ok (.iload 5, 2) := by decide +kernel
theorem dX6_isOver_140 : decode cX6_isOver 140 = .ok (.invokevirtual 132, 3) := by decide +kernel
theorem dX6_isOver_143 : decode cX6_isOver 143 = .ok (.istore 6, 2) := by decide +kernel
theorem dX6_isOver_145 : decode cX6_isOver 145 = .ok (.iload 6, 2) := by decide +kernel
theorem dX6_isOver_147 : decode cX6_isOver 147 = .ok (.iload_n 3, 1) := by decide +kernel
theorem dX6_isOver_148 : decode cX6_isOver 148 = .ok (.if_icmp .lt 15, 3) := by decide +kernel
theorem dX6_isOver_151 : decode cX6_isOver 151 = .ok (.iload 6, 2) := by decide +kernel
theorem dX6_isOver_153 : decode cX6_isOver 153 = .ok (.iload_n 3, 1) := by decide +kernel
theorem dX6_isOver_154 : decode cX6_isOver 154 = .ok (.if_icmp .ne 13, 3) := by decide +kernel
theorem dX6_isOver_157 : decode cX6_isOver 157 = .ok (.iload 5, 2) := by decide +kernel
theorem dX6_isOver_159 : decode cX6_isOver 159 = .ok (.iload_n 2, 1) := by decide +kernel
theorem dX6_isOver_160 : decode cX6_isOver 160 = .ok (.if_icmp .le 7, 3) := by decide +kernel
theorem dX6_isOver_163 : decode cX6_isOver 163 = .ok (.iconst 1, 1) := by decide +kernel
theorem dX6_isOver_164 : decode cX6_isOver 164 = .ok (.goto 4, 3) := by decide +kernel
theorem dX6_isOver_167 : decode cX6_isOver 167 = .ok (.iconst 0, 1) := by decide +kernel
theorem dX6_isOver_168 : decode cX6_isOver 168 = .ok (.istore 4, 2) := by decide +kernel
theorem dX6_isOver_170 : decode cX6_isOver 170 = .ok (.iinc 5 1, 3) := by decide +kernel
theorem dX6_isOver_173 : decode cX6_isOver 173 = .ok (.goto (-74), 3) := by decide +kernel
theorem dX6_isOver_176 : decode cX6_isOver 176 = .ok (.iload 4, 2) := by decide +kernel
theorem dX6_isOver_178 : decode cX6_isOver 178 = .ok (.ireturn, 1) := by decide +kernel
theorem dX6_nextList_0 : decode cX6_nextList 0 = .ok (.iconst (-1), 1) := by decide +kernel
theorem dX6_nextList_1 : decode cX6_nextList 1 = .ok (.istore_n 1, 1) := by decide +kernel
theorem dX6_nextList_2 : decode cX6_nextList 2 = .ok (.iconst 1, 1) := by decide +kernel
theorem dX6_nextList_3 : decode cX6_nextList 3 = .ok (.istore_n 2, 1) := by decide +kernel
theorem dX6_nextList_4 : decode cX6_nextList 4 = .ok (.iload_n 2, 1) := by decide +kernel
theorem dX6_nextList_5 : decode cX6_nextList 5 = .ok (.bipush 6, 2) := by decide +kernel
theorem dX6_nextList_7 : decode cX6_nextList 7 = .ok (.if_icmp .gt 63, 3) := by decide +kernel
theorem dX6_nextList_10 : decode cX6_nextList 10 = .ok (.aload_n 0, 1) := by decide +kernel
theorem dX6_nextList_11 : decode cX6_nextList 11 = .ok (.getfield 7, 3) := by decide +kernel
theorem dX6_nextList_14 : decode cX6_nextList 14 = .ok (.sipush 560, 3) := by decide +kernel
theorem dX6_nextList_17 : decode cX6_nextList 17 = .ok (.iaload, 1) := by decide +kernel
theorem dX6_nextList_18 : decode cX6_nextList 18 = .ok (.ifCond .ne 19, 3) := by decide +kernel
theorem dX6_nextList_21 : decode cX6_nextList 21 = .ok (.aload_n 0, 1) := by decide +kernel
theorem dX6_nextList_22 : decode cX6_nextList 22 = .ok (.getfield 7, 3) := by decide +kernel
theorem dX6_nextList_25 : decode cX6_nextList 25 = .ok (.sipush 563, 3) := by decide +kernel
theorem dX6_nextList_28 : decode cX6_nextList 28 = .ok (.iaload, 1) := by decide +kernel
theorem dX6_nextList_29 : decode cX6_nextList 29 = .ok (.iload_n 2, 1) := by decide +kernel
theorem dX6_nextList_30 : decode cX6_nextList 30 = .ok (.iadd, 1) := by decide +kernel
theorem dX6_nextList_31 : decode cX6_nextList 31 = .ok (.bipush 6, 2) := by decide +kernel
theorem dX6_nextList_33 : decode cX6_nextList 33 = .ok (.irem, 1) := by decide +kernel
theorem dX6_nextList_34 : decode cX6_nextList 34 = .ok (.goto 6, 3) := by decide +kernel
theorem dX6_nextList_37 : decode cX6_nextList 37 = .ok (.iload_n 2, 1) := by decide +kernel
theorem dX6_nextList_38 : decode cX6_nextList 38 = .ok (.iconst 1, 1) := by decide +kernel
theorem dX6_nextList_39 : decode cX6_nextList 39 = .ok (.isub, 1) := by decide +kernel
theorem dX6_nextList_40 : decode cX6_nextList 40 = .ok (.istore_n 3, 1) := by decide +kernel
theorem dX6_nextList_41 : decode cX6_nextList 41 = .ok (.aload_n 0, 1) := by decide +kernel
theorem dX6_nextList_42 : decode cX6_nextList 42 = .ok (.iload_n 3, 1) := by decide +kernel
theorem dX6_nextList_43 : decode cX6_nextList 43 = .ok (.invokevirtual 120, 3) := by decide +kernel
theorem dX6_nextList_46 : decode cX6_nextList 46 = .ok (.ifCond .eq 18, 3) := by decide +kernel
theorem dX6_nextList_49 : decode cX6_nextList 49 = .ok (.iload_n 1, 1) := by decide +kernel
theorem dX6_nextList_50 : decode cX6_nextList 50 = .ok (.ifCond .lt 12, 3) := by decide +kernel
theorem dX6_nextList_53 : decode cX6_nextList 53 = .ok (.aload_n 0, 1) := by decide +kernel
theorem dX6_nextList_54 : decode cX6_nextList 54 = .ok (.iload_n 3, 1) := by decide +kernel
theorem dX6_nextList_55 : decode cX6_nextList 55 = .ok (.iload_n 1, 1) := by decide +kernel
theorem dX6_nextList_56 : decode cX6_nextList 56 = .ok (.invokevirtual 135, 3) := by decide +kernel
theorem dX6_nextList_59 : decode cX6_nextList 59 = .ok (.ifCond .eq 5, 3) := by decide +kernel
theorem dX6_nextList_62 : decode cX6_nextList 62 = .ok (.iload_n 3, 1) := by decide +kernel
theorem dX6_nextList_63 : decode cX6_nextList 63 = .ok (.istore_n 1, 1) := by decide +kernel
theorem dX6_nextList_64 : decode cX6_nextList 64 = .ok (.iinc 2 1, 3) := by decide +kernel
theorem dX6_nextList_67 : decode cX6_nextList 67 = .ok (.goto (-63), 3) := by decide +kernel
theorem dX6_nextList_70 : decode cX6_nextList 70 = .ok (.iload_n 1, 1) := by decide +kernel
theorem dX6_nextList_71 : decode cX6_nextList 71 = .ok (.ireturn, 1) := by decide +kernel
theorem dX6_isChosenBefore_0 : decode cX6_isChosenBefore 0 = .ok (.aload_n 0, 1) := by decide +kernel
theorem dX6_isChosenBefore_1 : decode cX6_isChosenBefore 1 = .ok (.getfield 7, 3) := by decide +kernel
theorem dX6_isChosenBefore_4 : decode cX6_isChosenBefore 4 = .ok (.sipush 560, 3) := by decide +kernel
theorem dX6_isChosenBefore_7 : decode cX6_isChosenBefore 7 = .ok (.iaload, 1) := by decide +kernel
theorem dX6_isChosenBefore_8 : decode cX6_isChosenBefore 8 = .ok (.ifCond .ne 5, 3) := by decide +kernel
theorem dX6_isChosenBefore_11 : decode cX6_isChosenBefore 11 = .ok (.iconst 0, 1) := by decide +kernel
theorem dX6_isChosenBefore_12 : decode cX6_isChosenBefore 12 = .ok (.ireturn, 1) := by decide +kernel
theorem dX6_isChosenBefore_13 : decode cX6_isChosenBefore 13 = .ok (.aload_n 0, 1) := by decide +kernel
theorem dX6_isChosenBefore_14 : decode cX6_isChosenBefore 14 = .ok (.getfield 7, 3) := by decide +kernel
theorem dX6_isChosenBefore_17 : decode cX6_isChosenBefore 17 = .ok (.sipush 560, 3) := by decide +kernel
theorem dX6_isChosenBefore_20 : decode cX6_isChosenBefore 20 = .ok (.iaload, 1) := by decide +kernel
theorem dX6_isChosenBefore_21 : decode cX6_isChosenBefore 21 = .ok (.iconst 1, 1) := by decide +kernel
theorem dX6_isChosenBefore_22 : decode cX6_isChosenBefore 22 = .ok (.if_icmp .ne 46, 3) := by decide +kernel
theorem dX6_isChosenBefore_25 : decode cX6_isChosenBefore 25 = .ok (.aload_n 0, 1) := by decide +kernel
theorem dX6_isChosenBefore_26 : decode cX6_isChosenBefore 26 = .ok (.getfield 7, 3) := by decide +kernel
theorem dX6_isChosenBefore_29 : decode cX6_isChosenBefore 29 = .ok (.sipush 486, 3) := by decide +kernel
theorem dX6_isChosenBefore_32 : decode cX6_isChosenBefore 32 = .ok (.iload_n 1, 1) := by decide +kernel
theorem dX6_isChosenBefore_33 : decode cX6_isChosenBefore 33 = .ok (.iadd, 1) := by decide +kernel
theorem dX6_isChosenBefore_34 : decode cX6_isChosenBefore 34 = .ok (.iaload, 1) := by decide +kernel
theorem dX6_isChosenBefore_35 : decode cX6_isChosenBefore 35 = .ok (.aload_n 0, 1) := by decide +kernel
theorem dX6_isChosenBefore_36 : decode cX6_isChosenBefore 36 = .ok (.iload_n 1, 1) := by decide +kernel
theorem dX6_isChosenBefore_37 : decode cX6_isChosenBefore 37 = .ok (.invokevirtual 101, 3) := by decide +kernel
theorem dX6_isChosenBefore_40 : decode cX6_isChosenBefore 40 = .ok (.imul, 1) := by decide +kernel
theorem dX6_isChosenBefore_41 : decode cX6_isChosenBefore 41 = .ok (.aload_n 0, 1) := by decide +kernel
theorem dX6_isChosenBefore_42 : decode cX6_isChosenBefore 42 = .ok (.getfield 7, 3) := by decide +kernel
theorem dX6_isChosenBefore_45 : decode cX6_isChosenBefore 45 = .ok (.sipush 486, 3) := by decide +kernel
theorem dX6_isChosenBefore_48 : decode cX6_isChosenBefore 48 = .ok (.iload_n 2, 1) := by decide +kernel
theorem dX6_isChosenBefore_49 : decode cX6_isChosenBefore 49 = .ok (.iadd, 1) := by decide +kernel
theorem dX6_isChosenBefore_50 : decode cX6_isChosenBefore 50 = .ok (.iaload, 1) := by decide +kernel
theorem dX6_isChosenBefore_51 : decode cX6_isChosenBefore 51 = .ok (.aload_n 0, 1) := by decide +kernel
theorem dX6_isChosenBefore_52 : decode cX6_isChosenBefore 52 = .ok (.iload_n 2, 1) := by decide +kernel
theorem dX6_isChosenBefore_53 : decode cX6_isChosenBefore 53 = .ok (.invokevirtual 101, 3) := by decide +kernel
theorem dX6_isChosenBefore_56 : decode cX6_isChosenBefore 56 = .ok (.imul, 1) := by decide +kernel
theorem dX6_isChosenBefore_57 : decode cX6_isChosenBefore 57 = .ok (.if_icmp .le 7, 3) := by decide +kernel
theorem dX6_isChosenBefore_60 : decode cX6_isChosenBefore 60 = .ok (.iconst 1, 1) := by decide +kernel
theorem dX6_isChosenBefore_61 : decode cX6_isChosenBefore 61 = .ok (.goto 25, 3) := by decide +kernel
theorem dX6_isChosenBefore_64 : decode cX6_isChosenBefore 64 = .ok (.iconst 0, 1) := by decide +kernel
theorem dX6_isChosenBefore_65 : decode cX6_isChosenBefore 65 = .ok (.goto 21, 3) := by decide +kernel
theorem dX6_isChosenBefore_68 : decode cX6_isChosenBefore 68 = .ok (.aload_n 0, 1) := by decide +kernel
theorem dX6_isChosenBefore_69 : decode cX6_isChosenBefore 69 = .ok (.iload_n 1, 1) := by decide +kernel
theorem dX6_isChosenBefore_70 : decode cX6_isChosenBefore 70 = .ok (.invokevirtual 95, 3) := by decide +kernel
theorem dX6_isChosenBefore_73 : decode cX6_isChosenBefore 73 = .ok (.aload_n 0, 1) := by decide +kernel
theorem dX6_isChosenBefore_74 : decode cX6_isChosenBefore 74 = .ok (.iload_n 2, 1) := by decide +kernel
theorem dX6_isChosenBefore_75 : decode cX6_isChosenBefore 75 = .ok (.invokevirtual 95, 3) := by decide +kernel
theorem dX6_isChosenBefore_78 : decode cX6_isChosenBefore 78 = .ok (.if_icmp .ge 7, 3) := by decide +kernel
theorem dX6_isChosenBefore_81 : decode cX6_isChosenBefore 81 = .ok (.iconst 1, 1) := by decide +kernel
theorem dX6_isChosenBefore_82 : decode cX6_isChosenBefore 82 = .ok (.goto 4, 3) := by decide +kernel
theorem dX6_isChosenBefore_85 : decode cX6_isChosenBefore 85 = .ok (.iconst 0, 1) := by decide +kernel
theorem dX6_isChosenBefore_86 : decode cX6_isChosenBefore 86 = .ok (.ireturn, 1) := by decide +kernel
theorem dX6_startReading_0 : decode cX6_startReading 0 = .ok (.aload_n 0, 1) := by decide +kernel
theorem dX6_startReading_1 : decode cX6_startReading 1 = .ok (.getfield 7, 3) := by decide +kernel
theorem dX6_startReading_4 : decode cX6_startReading 4 = .ok (.sipush 559, 3) := by decide +kernel
theorem dX6_startReading_7 : decode cX6_startReading 7 = .ok (.iconst 1, 1) := by decide +kernel
theorem dX6_startReading_8 : decode cX6_startReading 8 = .ok (.iastore, 1) := by decide +kernel
theorem dX6_startReading_9 : decode cX6_startReading 9 = .ok (.aload_n 0, 1) := by decide +kernel
theorem dX6_startReading_10 : decode cX6_startReading 10 = .ok (.getfield 7, 3) := by decide +kernel
theorem dX6_startReading_13 : decode cX6_startReading 13 = .ok (.sipush 560, 3) := by decide +kernel
theorem dX6_startReading_16 : decode cX6_startReading 16 = .ok (.iload_n 1, 1) := by decide +kernel
theorem dX6_startReading_17 : decode cX6_startReading 17 = .ok (.iastore, 1) := by decide +kernel
theorem dX6_startReading_18 : decode cX6_startReading 18 = .ok (.aload_n 0, 1) := by decide +kernel
theorem dX6_startReading_19 : decode cX6_startReading 19 = .ok (.getfield 7, 3) := by decide +kernel
theorem dX6_startReading_22 : decode cX6_startReading 22 = .ok (.sipush 561, 3) := by decide +kernel
theorem dX6_startReading_25 : decode cX6_startReading 25 = .ok (.iload_n 2, 1) := by decide +kernel
theorem dX6_startReading_26 : decode cX6_startReading 26 = .ok (.ifCond .eq 7, 3) := by decide +kernel
theorem dX6_startReading_29 : decode cX6_startReading 29 = .ok (.iconst 1, 1) := by decide +kernel
theorem dX6_startReading_30 : decode cX6_startReading 30 = .ok (.goto 4, 3) := by decide +kernel
theorem dX6_startReading_33 : decode cX6_startReading 33 = .ok (.iconst 0, 1) := by decide +kernel
theorem dX6_startReading_34 : decode cX6_startReading 34 = .ok (.iastore, 1) := by decide +kernel
theorem dX6_startReading_35 : decode cX6_startReading 35 = .ok (.aload_n 0, 1) := by decide +kernel
theorem dX6_startReading_36 : decode cX6_startReading 36 = .ok (.getfield 7, 3) := by decide +kernel
theorem dX6_startReading_39 : decode cX6_startReading 39 = .ok (.sipush 563, 3) := by decide +kernel
theorem dX6_startReading_42 : decode cX6_startReading 42 = .ok (.iconst (-1), 1) := by decide +kernel
theorem dX6_startReading_43 : decode cX6_startReading 43 = .ok (.iastore, 1) := by decide +kernel
theorem dX6_startReading_44 : decode cX6_startReading 44 = .ok (.aload_n 0, 1) := by decide +kernel
theorem dX6_startReading_45 : decode cX6_startReading 45 = .ok (.getfield 7, 3) := by decide +kernel
theorem dX6_startReading_48 : decode cX6_startReading 48 = .ok (.sipush 564, 3) := by decide +kernel
theorem dX6_startReading_51 : decode cX6_startReading 51 = .ok (.iconst 0, 1) := by decide +kernel
theorem dX6_startReading_52 : decode cX6_startReading 52 = .ok (.iastore, 1) := by decide +kernel
theorem dX6_startReading_53 : decode cX6_startReading 53 = .ok (.aload_n 0, 1) := by decide +kernel
theorem dX6_startReading_54 : decode cX6_startReading 54 = .ok (.getfield 7, 3) := by decide +kernel
theorem dX6_startReading_57 : decode cX6_startReading 57 = .ok (.sipush 565, 3) := by decide +kernel
theorem dX6_startReading_60 : decode cX6_startReading 60 = .ok (.iconst 0, 1) := by decide +kernel
theorem dX6_startReading_61 : decode cX6_startReading 61 = .ok (.iastore, 1) := by decide +kernel
theorem dX6_startReading_62 : decode cX6_startReading 62 = .ok (.iconst 0, 1) := by decide +kernel
theorem dX6_startReading_63 : decode cX6_startReading 63 = .ok (.istore_n 3, 1) := by decide +kernel
theorem dX6_startReading_64 : decode cX6_startReading 64 = .ok (.iload_n 3, 1) := by decide +kernel
theorem dX6_startReading_65 : decode cX6_startReading 65 = .ok (.bipush 6, 2) := by decide +kernel
theorem dX6_startReading_67 : decode cX6_startReading 67 = .ok (.if_icmp .ge 42, 3) := by decide +kernel
theorem dX6_startReading_70 : decode cX6_startReading 70 = .ok (.aload_n 0, 1) := by decide +kernel
theorem dX6_startReading_71 : decode cX6_startReading 71 = .ok (.getfield 7, 3) := by decide +kernel
theorem dX6_startReading_74 : decode cX6_startReading 74 = .ok (.sipush 568, 3) := by decide +kernel
theorem dX6_startReading_77 : decode cX6_startReading 77 = .ok (.iload_n 3, 1) := by decide +kernel
theorem dX6_startReading_78 : decode cX6_startReading 78 = .ok (.iadd, 1) := by decide +kernel
theorem dX6_startReading_79 : decode cX6_startReading 79 = .ok (.iconst 0, 1) := by decide +kernel
theorem dX6_startReading_80 : decode cX6_startReading 80 = .ok (.iastore, 1) := by decide +kernel
theorem dX6_startReading_81 : decode cX6_startReading 81 = .ok (.aload_n 0, 1) := by decide +kernel
theorem dX6_startReading_82 : decode cX6_startReading 82 = .ok (.getfield 7, 3) := by decide +kernel
theorem dX6_startReading_85 : decode cX6_startReading 85 = .ok (.sipush 574, 3) := by decide +kernel
theorem dX6_startReading_88 : decode cX6_startReading 88 = .ok (.iload_n 3, 1) := by decide +kernel
theorem dX6_startReading_89 : decode cX6_startReading 89 = .ok (.iadd, 1) := by decide +kernel
theorem dX6_startReading_90 : decode cX6_startReading 90 = .ok (.iconst 0, 1) := by decide +kernel
theorem dX6_startReading_91 : decode cX6_startReading 91 = .ok (.iastore, 1) := by decide +kernel
theorem dX6_startReading_92 : decode cX6_startReading 92 = .ok (.aload_n 0, 1) := by decide +kernel
theorem dX6_startReading_93 : decode cX6_startReading 93 = .ok (.getfield 7, 3) := by decide +kernel
theorem dX6_startReading_96 : decode cX6_startReading 96 = .ok (.sipush 580, 3) := by decide +kernel
theorem dX6_startReading_99 : decode cX6_startReading 99 = .ok (.iload_n 3, 1) := by decide +kernel
theorem dX6_startReading_100 : decode cX6_startReading 100 = .ok (.iadd, 1) := by decide +kernel
theorem dX6_startReading_101 : decode cX6_startReading 101 = .ok (.iconst 0, 1) := by decide +kernel
theorem dX6_startReading_102 : decode cX6_startReading 102 = .ok (.iastore, 1) := by decide +kernel
theorem dX6_startReading_103 : decode cX6_startReading 103 = .ok (.iinc 3 1, 3) := by decide +kernel
theorem dX6_startReading_106 : decode cX6_startReading 106 = .ok (.goto (-42), 3) := by decide +kernel
theorem dX6_startReading_109 : decode cX6_startReading 109 = .ok (.iconst 0, 1) := by decide +kernel
theorem dX6_startReading_110 : decode cX6_startReading 110 = .ok (.istore_n 3, 1) := by decide +kernel
theorem dX6_startReading_111 : decode cX6_startReading 111 = .ok (.iload_n 3, 1) := by decide +kernel
theorem dX6_startReading_112 : decode cX6_startReading 112 = .ok (.bipush 60, 2) := by decide +kernel
theorem dX6_startReading_114 : decode cX6_startReading 114 = .ok (.if_icmp .ge 31, 3) := by decide +kernel
theorem dX6_startReading_117 : decode cX6_startReading 117 = .ok (.aload_n 0, 1) := by decide +kernel
theorem dX6_startReading_118 : decode cX6_startReading 118 = .ok (.getfield 7, 3) := by decide +kernel
theorem dX6_startReading_121 : decode cX6_startReading 121 = .ok (.sipush 586, 3) := by decide +kernel
theorem dX6_startReading_124 : decode cX6_startReading 124 = .ok (.iload_n 3, 1) := by decide +kernel
theorem dX6_startReading_125 : decode cX6_startReading 125 = .ok (.iadd, 1) := by decide +kernel
theorem dX6_startReading_126 : decode cX6_startReading 126 = .ok (.iconst 0, 1) := by decide +kernel
theorem dX6_startReading_127 : decode cX6_startReading 127 = .ok (.iastore, 1) := by decide +kernel
theorem dX6_startReading_128 : decode cX6_startReading 128 = .ok (.aload_n 0, 1) := by decide +kernel
theorem dX6_startReading_129 : decode cX6_startReading 129 = .ok (.getfield 7, 3) := by decide +kernel
theorem dX6_startReading_132 : decode cX6_startReading 132 = .ok (.sipush 646, 3) := by decide +kernel
theorem dX6_startReading_135 : decode cX6_startReading 135 = .ok (.iload_n 3, 1) := by decide +kernel
theorem dX6_startReading_136 : decode cX6_startReading 136 = .ok (.iadd, 1) := by decide +kernel
theorem dX6_startReading_137 : decode cX6_startReading 137 = .ok (.iconst 0, 1) := by decide +kernel
theorem dX6_startReading_138 : decode cX6_startReading 138 = .ok (.iastore, 1) := by decide +kernel
theorem dX6_startReading_139 : decode cX6_startReading 139 = .ok (.iinc 3 1, 3) := by decide +kernel
theorem dX6_startReading_142 : decode cX6_startReading 142 = .ok (.goto (-31), 3) := by decide +kernel
theorem dX6_startReading_145 : decode cX6_startReading 145 = .ok (.aload_n 0, 1) := by decide +kernel
theorem dX6_startReading_146 : decode cX6_startReading 146 = .ok (.getfield 7, 3) := by decide +kernel
theorem dX6_startReading_149 : decode cX6_startReading 149 = .ok (.sipush 562, 3) := by decide +kernel
theorem dX6_startReading_152 : decode cX6_startReading 152 = .ok (.aload_n 0, 1) := by decide +kernel
theorem dX6_startReading_153 : decode cX6_startReading 153 = .ok (.invokevirtual 138, 3) := by decide +kernel
theorem dX6_startReading_156 : decode cX6_startReading 156 = .ok (.ifCond .eq 7, 3) := by decide +kernel
theorem dX6_startReading_159 : decode cX6_startReading 159 = .ok (.iconst 1, 1) := by decide +kernel
theorem dX6_startReading_160 : decode cX6_startReading 160 = .ok (.goto 4, 3) := by decide +kernel
theorem dX6_startReading_163 : decode cX6_startReading 163 = .ok (.iconst 0, 1) := by decide +kernel
theorem dX6_startReading_164 : decode cX6_startReading 164 = .ok (.iastore, 1) := by decide +kernel
theorem dX6_startReading_165 : decode cX6_startReading 165 = .ok (.return_, 1) := by decide +kernel
theorem dX6_oneStep_0 : decode cX6_oneStep 0 = .ok (.aload_n 0, 1) := by decide +kernel
theorem dX6_oneStep_1 : decode cX6_oneStep 1 = .ok (.invokevirtual 142, 3) := by decide +kernel
theorem dX6_oneStep_4 : decode cX6_oneStep 4 = .ok (.istore_n 1, 1) := by decide +kernel
theorem dX6_oneStep_5 : decode cX6_oneStep 5 = .ok (.aload_n 0, 1) := by decide +kernel
theorem dX6_oneStep_6 : decode cX6_oneStep 6 = .ok (.getfield 7, 3) := by decide +kernel
theorem dX6_oneStep_9 : decode cX6_oneStep 9 = .ok (.iconst 0, 1) := by decide +kernel
theorem dX6_oneStep_10 : decode cX6_oneStep 10 = .ok (.bipush 40, 2) := by decide +kernel
theorem dX6_oneStep_12 : decode cX6_oneStep 12 = .ok (.iload_n 1, 1) := by decide +kernel
theorem dX6_oneStep_13 : decode cX6_oneStep 13 = .ok (.imul, 1) := by decide +kernel
theorem dX6_oneStep_14 : decode cX6_oneStep 14 = .ok (.iadd, 1) := by decide +kernel
theorem dX6_oneStep_15 : decode cX6_oneStep 15 = .ok (.aload_n 0, 1) := by decide +kernel
theorem dX6_oneStep_16 : decode cX6_oneStep 16 = .ok (.getfield 7, 3) := by decide +kernel
theorem dX6_oneStep_19 : decode cX6_oneStep 19 = .ok (.sipush 568, 3) := by decide +kernel
theorem dX6_oneStep_22 : decode cX6_oneStep 22 = .ok (.iload_n 1, 1) := by decide +kernel
theorem dX6_oneStep_23 : decode cX6_oneStep 23 = .ok (.iadd, 1) := by decide +kernel
theorem dX6_oneStep_24 : decode cX6_oneStep 24 = .ok (.iaload, 1) := by decide +kernel
theorem dX6_oneStep_25 : decode cX6_oneStep 25 = .ok (.iadd, 1) := by decide +kernel
theorem dX6_oneStep_26 : decode cX6_oneStep 26 = .ok (.iaload, 1) := by decide +kernel
theorem dX6_oneStep_27 : decode cX6_oneStep 27 = .ok (.istore_n 2, 1) := by decide +kernel
theorem dX6_oneStep_28 : decode cX6_oneStep 28 = .ok (.aload_n 0, 1) := by decide +kernel
theorem dX6_oneStep_29 : decode cX6_oneStep 29 = .ok (.iload_n 1, 1) := by decide +kernel
theorem dX6_oneStep_30 : decode cX6_oneStep 30 = .ok (.invokevirtual 98, 3) := by decide +kernel
theorem dX6_oneStep_33 : decode cX6_oneStep 33 = .ok (.aload_n 0, 1) := by decide +kernel
theorem dX6_oneStep_34 : decode cX6_oneStep 34 = .ok (.iload_n 1, 1) := by decide +kernel
theorem dX6_oneStep_35 : decode cX6_oneStep 35 = .ok (.invokevirtual 101, 3) := by decide +kernel
theorem dX6_oneStep_38 : decode cX6_oneStep 38 = .ok (.if_icmp .le 26, 3) := by decide +kernel
theorem dX6_oneStep_41 : decode cX6_oneStep 41 = .ok (.aload_n 0, 1) := by decide +kernel
theorem dX6_oneStep_42 : decode cX6_oneStep 42 = .ok (.getfield 7, 3) := by decide +kernel
theorem dX6_oneStep_45 : decode cX6_oneStep 45 = .ok (.sipush 574, 3) := by decide +kernel
theorem dX6_oneStep_48 : decode cX6_oneStep 48 = .ok (.iload_n 1, 1) := by decide +kernel
theorem dX6_oneStep_49 : decode cX6_oneStep 49 = .ok (.iadd, 1) := by decide +kernel
theorem dX6_oneStep_50 : decode cX6_oneStep 50 = .ok (.iconst 1, 1) := by decide +kernel
theorem dX6_oneStep_51 : decode cX6_oneStep 51 = .ok (.iastore, 1) := by decide +kernel
theorem dX6_oneStep_52 : decode cX6_oneStep 52 = .ok (.aload_n 0, 1) := by decide +kernel
theorem dX6_oneStep_53 : decode cX6_oneStep 53 = .ok (.getfield 7, 3) := by decide +kernel
theorem dX6_oneStep_56 : decode cX6_oneStep 56 = .ok (.sipush 567, 3) := by decide +kernel
theorem dX6_oneStep_59 : decode cX6_oneStep 59 = .ok (.dup2, 1) := by decide +kernel
theorem dX6_oneStep_60 : decode cX6_oneStep 60 = .ok (.iaload, 1) := by decide +kernel
theorem dX6_oneStep_61 : decode cX6_oneStep 61 = .ok (.iconst 1, 1) := by decide +kernel
theorem dX6_oneStep_62 : decode cX6_oneStep 62 = .ok (.iadd, 1) := by decide +kernel
theorem dX6_oneStep_63 : decode cX6_oneStep 63 = .ok (.iastore, 1) := by decide +kernel
theorem dX6_oneStep_64 : decode cX6_oneStep 64 = .ok (.aload_n 0, 1) := by decide +kernel
theorem dX6_oneStep_65 : decode cX6_oneStep 65 = .ok (.getfield 7, 3) := by decide +kernel
theorem dX6_oneStep_68 : decode cX6_oneStep 68 = .ok (.sipush 568, 3) := by decide +kernel
theorem dX6_oneStep_71 : decode cX6_oneStep 71 = .ok (.iload_n 1, 1) := by decide +kernel
theorem dX6_oneStep_72 : decode cX6_oneStep 72 = .ok (.iadd, 1) := by decide +kernel
theorem dX6_oneStep_73 : decode cX6_oneStep 73 = .ok (.dup2, 1) := by decide +kernel
theorem dX6_oneStep_74 : decode cX6_oneStep 74 = .ok (.iaload, 1) := by decide +kernel
theorem dX6_oneStep_75 : decode cX6_oneStep 75 = .ok (.iconst 1, 1) := by decide +kernel
theorem dX6_oneStep_76 : decode cX6_oneStep 76 = .ok (.iadd, 1) := by decide +kernel
theorem dX6_oneStep_77 : decode cX6_oneStep 77 = .ok (.iastore, 1) := by decide +kernel
theorem dX6_oneStep_78 : decode cX6_oneStep 78 = .ok (.aload_n 0, 1) := by decide +kernel
theorem dX6_oneStep_79 : decode cX6_oneStep 79 = .ok (.getfield 7, 3) := by decide +kernel
theorem dX6_oneStep_82 : decode cX6_oneStep 82 = .ok (.sipush 563, 3) := by decide +kernel
theorem dX6_oneStep_85 : decode cX6_oneStep 85 = .ok (.iload_n 1, 1) := by decide +kernel
theorem dX6_oneStep_86 : decode cX6_oneStep 86 = .ok (.iastore, 1) := by decide +kernel
theorem dX6_oneStep_87 : decode cX6_oneStep 87 = .ok (.aload_n 0, 1) := by decide +kernel
theorem dX6_oneStep_88 : decode cX6_oneStep 88 = .ok (.getfield 7, 3) := by decide +kernel
theorem dX6_oneStep_91 : decode cX6_oneStep 91 = .ok (.sipush 498, 3) := by decide +kernel
theorem dX6_oneStep_94 : decode cX6_oneStep 94 = .ok (.iload_n 2, 1) := by decide +kernel
theorem dX6_oneStep_95 : decode cX6_oneStep 95 = .ok (.iadd, 1) := by decide +kernel
theorem dX6_oneStep_96 : decode cX6_oneStep 96 = .ok (.iaload, 1) := by decide +kernel
theorem dX6_oneStep_97 : decode cX6_oneStep 97 = .ok (.iconst 1, 1) := by decide +kernel
theorem dX6_oneStep_98 : decode cX6_oneStep 98 = .ok (.if_icmp .ne 18, 3) := by decide +kernel
theorem dX6_oneStep_101 : decode cX6_oneStep 101 = .ok (.aload_n 0, 1) := by decide +kernel
theorem dX6_oneStep_102 : decode cX6_oneStep 102 = .ok (.getfield 7, 3) := by decide +kernel
theorem dX6_oneStep_105 : decode cX6_oneStep 105 = .ok (.sipush 565, 3) := by decide +kernel
theorem dX6_oneStep_108 : decode cX6_oneStep 108 = .ok (.dup2, 1) := by decide +kernel
theorem dX6_oneStep_109 : decode cX6_oneStep 109 = .ok (.iaload, 1) := by decide +kernel
theorem dX6_oneStep_110 : decode cX6_oneStep 110 = .ok (.iconst 1, 1) := by decide +kernel
theorem dX6_oneStep_111 : decode cX6_oneStep 111 = .ok (.iadd, 1) := by decide +kernel
theorem dX6_oneStep_112 : decode cX6_oneStep 112 = .ok (.iastore, 1) := by decide +kernel
theorem dX6_oneStep_113 : decode cX6_oneStep 113 = .ok (.goto 9, 3) := by decide +kernel
theorem dX6_oneStep_116 : decode cX6_oneStep 116 = .ok (.aload_n 0, 1) := by decide +kernel
theorem dX6_oneStep_117 : decode cX6_oneStep 117 = .ok (.iload_n 1, 1) := by decide +kernel
theorem dX6_oneStep_118 : decode cX6_oneStep 118 = .ok (.iload_n 2, 1) := by decide +kernel
theorem dX6_oneStep_119 : decode cX6_oneStep 119 = .ok (.invokevirtual 145, 3) := by decide +kernel
theorem dX6_oneStep_122 : decode cX6_oneStep 122 = .ok (.aload_n 0, 1) := by decide +kernel
theorem dX6_oneStep_123 : decode cX6_oneStep 123 = .ok (.getfield 7, 3) := by decide +kernel
theorem dX6_oneStep_126 : decode cX6_oneStep 126 = .ok (.sipush 564, 3) := by decide +kernel
theorem dX6_oneStep_129 : decode cX6_oneStep 129 = .ok (.dup2, 1) := by decide +kernel
theorem dX6_oneStep_130 : decode cX6_oneStep 130 = .ok (.iaload, 1) := by decide +kernel
theorem dX6_oneStep_131 : decode cX6_oneStep 131 = .ok (.iconst 1, 1) := by decide +kernel
theorem dX6_oneStep_132 : decode cX6_oneStep 132 = .ok (.iadd, 1) := by decide +kernel
theorem dX6_oneStep_133 : decode cX6_oneStep 133 = .ok (.iastore, 1) := by decide +kernel
theorem dX6_oneStep_134 : decode cX6_oneStep 134 = .ok (.aload_n 0, 1) := by decide +kernel
theorem dX6_oneStep_135 : decode cX6_oneStep 135 = .ok (.getfield 7, 3) := by decide +kernel
theorem dX6_oneStep_138 : decode cX6_oneStep 138 = .ok (.sipush 562, 3) := by decide +kernel
theorem dX6_oneStep_141 : decode cX6_oneStep 141 = .ok (.aload_n 0, 1) := by decide +kernel
theorem dX6_oneStep_142 : decode cX6_oneStep 142 = .ok (.invokevirtual 138, 3) := by decide +kernel
theorem dX6_oneStep_145 : decode cX6_oneStep 145 = .ok (.ifCond .eq 7, 3) := by decide +kernel
theorem dX6_oneStep_148 : decode cX6_oneStep 148 = .ok (.iconst 1, 1) := by decide +kernel
theorem dX6_oneStep_149 : decode cX6_oneStep 149 = .ok (.goto 4, 3) := by decide +kernel
theorem dX6_oneStep_152 : decode cX6_oneStep 152 = .ok (.iconst 0, 1) := by decide +kernel
theorem dX6_oneStep_153 : decode cX6_oneStep 153 = .ok (.iastore, 1) := by decide +kernel
theorem dX6_oneStep_154 : decode cX6_oneStep 154 = .ok (.return_, 1) := by decide +kernel
theorem dX6_sees_0 : decode cX6_sees 0 = .ok (.aload_n 0, 1) := by decide +kernel
theorem dX6_sees_1 : decode cX6_sees 1 = .ok (.iload_n 2, 1) := by decide +kernel
theorem dX6_sees_2 : decode cX6_sees 2 = .ok (.invokevirtual 108, 3) := by decide +kernel
theorem dX6_sees_5 : decode cX6_sees 5 = .ok (.ifCond .ne 7, 3) := by decide +kernel
theorem dX6_sees_8 : decode cX6_sees 8 = .ok (.iconst 1, 1) := by decide +kernel
theorem dX6_sees_9 : decode cX6_sees 9 = .ok (.goto 4, 3) := by decide +kernel
theorem dX6_sees_12 : decode cX6_sees 12 = .ok (.iconst 0, 1) := by decide +kernel
theorem dX6_sees_13 : decode cX6_sees 13 = .ok (.istore_n 3, 1) := by decide +kernel
theorem dX6_sees_14 : decode cX6_sees 14 = .ok (.aload_n 0, 1) := by decide +kernel
theorem dX6_sees_15 : decode cX6_sees 15 = .ok (.getfield 7, 3) := by decide +kernel
theorem dX6_sees_18 : decode cX6_sees 18 = .ok (.sipush 646, 3) := by decide +kernel
theorem dX6_sees_21 : decode cX6_sees 21 = .ok (.iload_n 2, 1) := by decide +kernel
theorem dX6_sees_22 : decode cX6_sees 22 = .ok (.iadd, 1) := by decide +kernel
theorem dX6_sees_23 : decode cX6_sees 23 = .ok (.dup2, 1) := by decide +kernel
theorem dX6_sees_24 : decode cX6_sees 24 = .ok (.iaload, 1) := by decide +kernel
theorem dX6_sees_25 : decode cX6_sees 25 = .ok (.iconst 1, 1) := by decide +kernel
theorem dX6_sees_26 : decode cX6_sees 26 = .ok (.iload_n 1, 1) := by decide +kernel
theorem dX6_sees_27 : decode cX6_sees 27 = .ok (.ishl, 1) := by decide +kernel
theorem dX6_sees_28 : decode cX6_sees 28 = .ok (.ior, 1) := by decide +kernel
theorem dX6_sees_29 : decode cX6_sees 29 = .ok (.iastore, 1) := by decide +kernel
theorem dX6_sees_30 : decode cX6_sees 30 = .ok (.iload_n 3, 1) := by decide +kernel
theorem dX6_sees_31 : decode cX6_sees 31 = .ok (.ifCond .eq 23, 3) := by decide +kernel
theorem dX6_sees_34 : decode cX6_sees 34 = .ok (.aload_n 0, 1) := by decide +kernel
theorem dX6_sees_35 : decode cX6_sees 35 = .ok (.getfield 7, 3) := by decide +kernel
theorem dX6_sees_38 : decode cX6_sees 38 = .ok (.sipush 586, 3) := by decide +kernel
theorem dX6_sees_41 : decode cX6_sees 41 = .ok (.iload_n 2, 1) := by decide +kernel
theorem dX6_sees_42 : decode cX6_sees 42 = .ok (.iadd, 1) := by decide +kernel
theorem dX6_sees_43 : decode cX6_sees 43 = .ok (.aload_n 0, 1) := by decide +kernel
theorem dX6_sees_44 : decode cX6_sees 44 = .ok (.getfield 7, 3) := by decide +kernel
theorem dX6_sees_47 : decode cX6_sees 47 = .ok (.sipush 564, 3) := by decide +kernel
theorem dX6_sees_50 : decode cX6_sees 50 = .ok (.iaload, 1) := by decide +kernel
theorem dX6_sees_51 : decode cX6_sees 51 = .ok (.iconst 1, 1) := by decide +kernel
theorem dX6_sees_52 : decode cX6_sees 52 = .ok (.iadd, 1) := by decide +kernel
theorem dX6_sees_53 : decode cX6_sees 53 = .ok (.iastore, 1) := by decide +kernel
theorem dX6_sees_54 : decode cX6_sees 54 = .ok (.iconst 0, 1) := by decide +kernel
theorem dX6_sees_55 : decode cX6_sees 55 = .ok (.istore 4, 2) := by decide +kernel
theorem dX6_sees_57 : decode cX6_sees 57 = .ok (.iload 4, 2) := by decide +kernel
theorem dX6_sees_59 : decode cX6_sees 59 = .ok (.bipush 6, 2) := by decide +kernel
theorem dX6_sees_61 : decode cX6_sees 61 = .ok (.if_icmp .ge 72, 3) := by decide +kernel
theorem dX6_sees_64 : decode cX6_sees 64 = .ok (.iload_n 3, 1) := by decide +kernel
theorem dX6_sees_65 : decode cX6_sees 65 = .ok (.ifCond .eq 62, 3) := by decide +kernel
theorem dX6_sees_68 : decode cX6_sees 68 = .ok (.aload_n 0, 1) := by decide +kernel
theorem dX6_sees_69 : decode cX6_sees 69 = .ok (.getfield 7, 3) := by decide +kernel
theorem dX6_sees_72 : decode cX6_sees 72 = .ok (.sipush 561, 3) := by decide +kernel
theorem dX6_sees_75 : decode cX6_sees 75 = .ok (.iaload, 1) := by decide +kernel
theorem dX6_sees_76 : decode cX6_sees 76 = .ok (.iconst 1, 1) := by decide +kernel
theorem dX6_sees_77 : decode cX6_sees 77 = .ok (.if_icmp .ne 50, 3) := by decide +kernel
theorem dX6_sees_80 : decode cX6_sees 80 = .ok (.iload 4, 2) := by decide +kernel
theorem dX6_sees_82 : decode cX6_sees 82 = .ok (.iload_n 1, 1) := by decide +kernel
theorem dX6_sees_83 : decode cX6_sees 83 = .ok (.if_icmp .eq 44, 3) := by decide +kernel
theorem dX6_sees_86 : decode cX6_sees 86 = .ok (.aload_n 0, 1) := by decide +kernel
theorem dX6_sees_87 : decode cX6_sees 87 = .ok (.iload 4, 2) := by decide +kernel
theorem dX6_sees_89 : decode cX6_sees 89 = .ok (.invokevirtual 80, 3) := by decide +kernel
theorem dX6_sees_92 : decode cX6_sees 92 = .ok (.ifCond .eq 35, 3) := by decide +kernel
theorem dX6_sees_95 : decode cX6_sees 95 = .ok (.aload_n 0, 1) := by decide +kernel
theorem dX6_sees_96 : decode cX6_sees 96 = .ok (.getfield 7, 3) := by decide +kernel
theorem dX6_sees_99 : decode cX6_sees 99 = .ok (.sipush 580, 3) := by decide +kernel
theorem dX6_sees_102 : decode cX6_sees 102 = .ok (.iload 4, 2) := by decide +kernel
theorem dX6_sees_104 : decode cX6_sees 104 = .ok (.iadd, 1) := by decide +kernel
theorem dX6_sees_105 : decode cX6_sees 105 = .ok (.dup2, 1) := by decide +kernel
theorem dX6_sees_106 : decode cX6_sees 106 = .ok (.iaload, 1) := by decide +kernel
theorem dX6_sees_107 : decode cX6_sees 107 = .ok (.iconst 1, 1) := by decide +kernel
theorem dX6_sees_108 : decode cX6_sees 108 = .ok (.iadd, 1) := by decide +kernel
theorem dX6_sees_109 : decode cX6_sees 109 = .ok (.iastore, 1) := by decide +kernel
theorem dX6_sees_110 : decode cX6_sees 110 = .ok (.aload_n 0, 1) := by decide +kernel
theorem dX6_sees_111 : decode cX6_sees 111 = .ok (.getfield 7, 3) := by decide +kernel
theorem dX6_sees_114 : decode cX6_sees 114 = .ok (.sipush 646, 3) := by decide +kernel
theorem dX6_sees_117 : decode cX6_sees 117 = .ok (.iload_n 2, 1) := by decide +kernel
theorem dX6_sees_118 : decode cX6_sees 118 = .ok (.iadd, 1) := by decide +kernel
theorem dX6_sees_119 : decode cX6_sees 119 = .ok (.dup2, 1) := by decide +kernel
theorem dX6_sees_120 : decode cX6_sees 120 = .ok (.iaload, 1) := by decide +kernel
theorem dX6_sees_121 : decode cX6_sees 121 = .ok (.iconst 1, 1) := by decide +kernel
theorem dX6_sees_122 : decode cX6_sees 122 = .ok (.iload 4, 2) := by decide +kernel
theorem dX6_sees_124 : decode cX6_sees 124 = .ok (.ishl, 1) := by decide +kernel
theorem dX6_sees_125 : decode cX6_sees 125 = .ok (.ior, 1) := by decide +kernel
theorem dX6_sees_126 : decode cX6_sees 126 = .ok (.iastore, 1) := by decide +kernel
theorem dX6_sees_127 : decode cX6_sees 127 = .ok (.iinc 4 1, 3) := by decide +kernel
theorem dX6_sees_130 : decode cX6_sees 130 = .ok (.goto (-73), 3) := by decide +kernel
theorem dX6_sees_133 : decode cX6_sees 133 = .ok (.return_, 1) := by decide +kernel
theorem dX6_begin_0 : decode cX6_begin 0 = .ok (.iload_n 1, 1) := by decide +kernel
theorem dX6_begin_1 : decode cX6_begin 1 = .ok (.ifCond .lt 8, 3) := by decide +kernel
theorem dX6_begin_4 : decode cX6_begin 4 = .ok (.iload_n 1, 1) := by decide +kernel
theorem dX6_begin_5 : decode cX6_begin 5 = .ok (.iconst 2, 1) := by decide +kernel
theorem dX6_begin_6 : decode cX6_begin 6 = .ok (.if_icmp .le 6, 3) := by decide +kernel
theorem dX6_begin_9 : decode cX6_begin 9 = .ok (.bipush (-2), 2) := by decide +kernel
theorem dX6_begin_11 : decode cX6_begin 11 = .ok (.ireturn, 1) := by decide +kernel
theorem dX6_begin_12 : decode cX6_begin 12 = .ok (.aload_n 0, 1) := by decide +kernel
theorem dX6_begin_13 : decode cX6_begin 13 = .ok (.getfield 7, 3) := by decide +kernel
theorem dX6_begin_16 : decode cX6_begin 16 = .ok (.sipush 559, 3) := by decide +kernel
theorem dX6_begin_19 : decode cX6_begin 19 = .ok (.iaload, 1) := by decide +kernel
theorem dX6_begin_20 : decode cX6_begin 20 = .ok (.iconst 1, 1) := by decide +kernel
theorem dX6_begin_21 : decode cX6_begin 21 = .ok (.if_icmp .eq 10, 3) := by decide +kernel
theorem dX6_begin_24 : decode cX6_begin 24 = .ok (.aload_n 0, 1) := by decide +kernel
theorem dX6_begin_25 : decode cX6_begin 25 = .ok (.invokevirtual 148, 3) := by decide +kernel
theorem dX6_begin_28 : decode cX6_begin 28 = .ok (.ifCond .ne 6, 3) := by decide +kernel
theorem dX6_begin_31 : decode cX6_begin 31 = .ok (.bipush (-4), 2) := by decide +kernel
theorem dX6_begin_33 : decode cX6_begin 33 = .ok (.ireturn, 1) := by decide +kernel
theorem dX6_begin_34 : decode cX6_begin 34 = .ok (.aload_n 0, 1) := by decide +kernel
theorem dX6_begin_35 : decode cX6_begin 35 = .ok (.invokevirtual 44, 3) := by decide +kernel
theorem dX6_begin_38 : decode cX6_begin 38 = .ok (.aload_n 0, 1) := by decide +kernel
theorem dX6_begin_39 : decode cX6_begin 39 = .ok (.getfield 7, 3) := by decide +kernel
theorem dX6_begin_42 : decode cX6_begin 42 = .ok (.sipush 566, 3) := by decide +kernel
theorem dX6_begin_45 : decode cX6_begin 45 = .ok (.dup2, 1) := by decide +kernel
theorem dX6_begin_46 : decode cX6_begin 46 = .ok (.iaload, 1) := by decide +kernel
theorem dX6_begin_47 : decode cX6_begin 47 = .ok (.iconst 1, 1) := by decide +kernel
theorem dX6_begin_48 : decode cX6_begin 48 = .ok (.iadd, 1) := by decide +kernel
theorem dX6_begin_49 : decode cX6_begin 49 = .ok (.iastore, 1) := by decide +kernel
theorem dX6_begin_50 : decode cX6_begin 50 = .ok (.aload_n 0, 1) := by decide +kernel
theorem dX6_begin_51 : decode cX6_begin 51 = .ok (.iload_n 1, 1) := by decide +kernel
theorem dX6_begin_52 : decode cX6_begin 52 = .ok (.iload_n 2, 1) := by decide +kernel
theorem dX6_begin_53 : decode cX6_begin 53 = .ok (.invokevirtual 151, 3) := by decide +kernel
theorem dX6_begin_56 : decode cX6_begin 56 = .ok (.aload_n 0, 1) := by decide +kernel
theorem dX6_begin_57 : decode cX6_begin 57 = .ok (.getfield 7, 3) := by decide +kernel
theorem dX6_begin_60 : decode cX6_begin 60 = .ok (.sipush 562, 3) := by decide +kernel
theorem dX6_begin_63 : decode cX6_begin 63 = .ok (.iaload, 1) := by decide +kernel
theorem dX6_begin_64 : decode cX6_begin 64 = .ok (.ireturn, 1) := by decide +kernel
theorem dX6_step_0 : decode cX6_step 0 = .ok (.iload_n 1, 1) := by decide +kernel
theorem dX6_step_1 : decode cX6_step 1 = .ok (.iconst 1, 1) := by decide +kernel
theorem dX6_step_2 : decode cX6_step 2 = .ok (.if_icmp .lt 10, 3) := by decide +kernel
theorem dX6_step_5 : decode cX6_step 5 = .ok (.iload_n 1, 1) := by decide +kernel
theorem dX6_step_6 : decode cX6_step 6 = .ok (.sipush 240, 3) := by decide +kernel
theorem dX6_step_9 : decode cX6_step 9 = .ok (.if_icmp .le 6, 3) := by decide +kernel
theorem dX6_step_12 : decode cX6_step 12 = .ok (.bipush (-2), 2) := by decide +kernel
theorem dX6_step_14 : decode cX6_step 14 = .ok (.ireturn, 1) := by decide +kernel
theorem dX6_step_15 : decode cX6_step 15 = .ok (.aload_n 0, 1) := by decide +kernel
theorem dX6_step_16 : decode cX6_step 16 = .ok (.getfield 7, 3) := by decide +kernel
theorem dX6_step_19 : decode cX6_step 19 = .ok (.sipush 559, 3) := by decide +kernel
theorem dX6_step_22 : decode cX6_step 22 = .ok (.iaload, 1) := by decide +kernel
theorem dX6_step_23 : decode cX6_step 23 = .ok (.ifCond .ne 6, 3) := by decide +kernel
theorem dX6_step_26 : decode cX6_step 26 = .ok (.bipush (-4), 2) := by decide +kernel
theorem dX6_step_28 : decode cX6_step 28 = .ok (.ireturn, 1) := by decide +kernel
theorem dX6_step_29 : decode cX6_step 29 = .ok (.aload_n 0, 1) := by decide +kernel
theorem dX6_step_30 : decode cX6_step 30 = .ok (.getfield 7, 3) := by decide +kernel
theorem dX6_step_33 : decode cX6_step 33 = .ok (.sipush 562, 3) := by decide +kernel
theorem dX6_step_36 : decode cX6_step 36 = .ok (.iaload, 1) := by decide +kernel
theorem dX6_step_37 : decode cX6_step 37 = .ok (.iconst 1, 1) := by decide +kernel
theorem dX6_step_38 : decode cX6_step 38 = .ok (.if_icmp .ne 6, 3) := by decide +kernel
theorem dX6_step_41 : decode cX6_step 41 = .ok (.bipush (-5), 2) := by decide +kernel
theorem dX6_step_43 : decode cX6_step 43 = .ok (.ireturn, 1) := by decide +kernel
theorem dX6_step_44 : decode cX6_step 44 = .ok (.aload_n 0, 1) := by decide +kernel
theorem dX6_step_45 : decode cX6_step 45 = .ok (.invokevirtual 44, 3) := by decide +kernel
theorem dX6_step_48 : decode cX6_step 48 = .ok (.iconst 0, 1) := by decide +kernel
theorem dX6_step_49 : decode cX6_step 49 = .ok (.istore_n 2, 1) := by decide +kernel
theorem dX6_step_50 : decode cX6_step 50 = .ok (.iload_n 2, 1) := by decide +kernel
theorem dX6_step_51 : decode cX6_step 51 = .ok (.iload_n 1, 1) := by decide +kernel
theorem dX6_step_52 : decode cX6_step 52 = .ok (.if_icmp .ge 24, 3) := by decide +kernel
theorem dX6_step_55 : decode cX6_step 55 = .ok (.aload_n 0, 1) := by decide +kernel
theorem dX6_step_56 : decode cX6_step 56 = .ok (.getfield 7, 3) := by decide +kernel
theorem dX6_step_59 : decode cX6_step 59 = .ok (.sipush 562, 3) := by decide +kernel
theorem dX6_step_62 : decode cX6_step 62 = .ok (.iaload, 1) := by decide +kernel
theorem dX6_step_63 : decode cX6_step 63 = .ok (.ifCond .ne 13, 3) := by decide +kernel
theorem dX6_step_66 : decode cX6_step 66 = .ok (.aload_n 0, 1) := by decide +kernel
theorem dX6_step_67 : decode cX6_step 67 = .ok (.invokevirtual 155, 3) := by decide +kernel
theorem dX6_step_70 : decode cX6_step 70 = .ok (.iinc 2 1, 3) := by decide +kernel
theorem dX6_step_73 : decode cX6_step 73 = .ok (.goto (-23), 3) := by decide +kernel
theorem dX6_step_76 : decode cX6_step 76 = .ok (.iload_n 2, 1) := by decide +kernel
theorem dX6_step_77 : decode cX6_step 77 = .ok (.ireturn, 1) := by decide +kernel
theorem dX6_end_0 : decode cX6_end 0 = .ok (.aload_n 0, 1) := by decide +kernel
theorem dX6_end_1 : decode cX6_end 1 = .ok (.getfield 7, 3) := by decide +kernel
theorem dX6_end_4 : decode cX6_end 4 = .ok (.sipush 559, 3) := by decide +kernel
theorem dX6_end_7 : decode cX6_end 7 = .ok (.iaload, 1) := by decide +kernel
theorem dX6_end_8 : decode cX6_end 8 = .ok (.ifCond .ne 6, 3) := by decide +kernel
theorem dX6_end_11 : decode cX6_end 11 = .ok (.bipush (-4), 2) := by decide +kernel
theorem dX6_end_13 : decode cX6_end 13 = .ok (.ireturn, 1) := by decide +kernel
theorem dX6_end_14 : decode cX6_end 14 = .ok (.aload_n 0, 1) := by decide +kernel
theorem dX6_end_15 : decode cX6_end 15 = .ok (.invokevirtual 44, 3) := by decide +kernel
theorem dX6_end_18 : decode cX6_end 18 = .ok (.aload_n 0, 1) := by decide +kernel
theorem dX6_end_19 : decode cX6_end 19 = .ok (.invokevirtual 158, 3) := by decide +kernel
theorem dX6_end_22 : decode cX6_end 22 = .ok (.istore_n 1, 1) := by decide +kernel
theorem dX6_end_23 : decode cX6_end 23 = .ok (.aload_n 0, 1) := by decide +kernel
theorem dX6_end_24 : decode cX6_end 24 = .ok (.getfield 7, 3) := by decide +kernel
theorem dX6_end_27 : decode cX6_end 27 = .ok (.sipush 559, 3) := by decide +kernel
theorem dX6_end_30 : decode cX6_end 30 = .ok (.iconst 0, 1) := by decide +kernel
theorem dX6_end_31 : decode cX6_end 31 = .ok (.iastore, 1) := by decide +kernel
theorem dX6_end_32 : decode cX6_end 32 = .ok (.iload_n 1, 1) := by decide +kernel
theorem dX6_end_33 : decode cX6_end 33 = .ok (.ireturn, 1) := by decide +kernel
theorem dX6_clerk_0 : decode cX6_clerk 0 = .ok (.iload_n 1, 1) := by decide +kernel
theorem dX6_clerk_1 : decode cX6_clerk 1 = .ok (.invokestatic 51, 3) := by decide +kernel
theorem dX6_clerk_4 : decode cX6_clerk 4 = .ok (.ifCond .ne 5, 3) := by decide +kernel
theorem dX6_clerk_7 : decode cX6_clerk 7 = .ok (.iconst (-1), 1) := by decide +kernel
theorem dX6_clerk_8 : decode cX6_clerk 8 = .ok (.ireturn, 1) := by decide +kernel
theorem dX6_clerk_9 : decode cX6_clerk 9 = .ok (.iload_n 2, 1) := by decide +kernel
theorem dX6_clerk_10 : decode cX6_clerk 10 = .ok (.ifCond .lt 8, 3) := by decide +kernel
theorem dX6_clerk_13 : decode cX6_clerk 13 = .ok (.iload_n 2, 1) := by decide +kernel
theorem dX6_clerk_14 : decode cX6_clerk 14 = .ok (.iconst 4, 1) := by decide +kernel
theorem dX6_clerk_15 : decode cX6_clerk 15 = .ok (.if_icmp .le 6, 3) := by decide +kernel
theorem dX6_clerk_18 : decode cX6_clerk 18 = .ok (.bipush (-2), 2) := by decide +kernel
theorem dX6_clerk_20 : decode cX6_clerk 20 = .ok (.ireturn, 1) := by decide +kernel
theorem dX6_clerk_21 : decode cX6_clerk 21 = .ok (.aload_n 0, 1) := by decide +kernel
theorem dX6_clerk_22 : decode cX6_clerk 22 = .ok (.getfield 7, 3) := by decide +kernel
theorem dX6_clerk_25 : decode cX6_clerk 25 = .ok (.sipush 559, 3) := by decide +kernel
theorem dX6_clerk_28 : decode cX6_clerk 28 = .ok (.iaload, 1) := by decide +kernel
theorem dX6_clerk_29 : decode cX6_clerk 29 = .ok (.ifCond .ne 6, 3) := by decide +kernel
theorem dX6_clerk_32 : decode cX6_clerk 32 = .ok (.bipush (-4), 2) := by decide +kernel
theorem dX6_clerk_34 : decode cX6_clerk 34 = .ok (.ireturn, 1) := by decide +kernel
theorem dX6_clerk_35 : decode cX6_clerk 35 = .ok (.aload_n 0, 1) := by decide +kernel
theorem dX6_clerk_36 : decode cX6_clerk 36 = .ok (.iload_n 1, 1) := by decide +kernel
theorem dX6_clerk_37 : decode cX6_clerk 37 = .ok (.invokevirtual 80, 3) := by decide +kernel
theorem dX6_clerk_40 : decode cX6_clerk 40 = .ok (.ifCond .ne 6, 3) := by decide +kernel
theorem dX6_clerk_43 : decode cX6_clerk 43 = .ok (.bipush (-5), 2) := by decide +kernel
theorem dX6_clerk_45 : decode cX6_clerk 45 = .ok (.ireturn, 1) := by decide +kernel
theorem dX6_clerk_46 : decode cX6_clerk 46 = .ok (.iload_n 2, 1) := by decide +kernel
theorem dX6_clerk_47 : decode cX6_clerk 47 = .ok (.iconst 1, 1) := by decide +kernel
theorem dX6_clerk_48 : decode cX6_clerk 48 = .ok (.if_icmp .ne 9, 3) := by decide +kernel
theorem dX6_clerk_51 : decode cX6_clerk 51 = .ok (.aload_n 0, 1) := by decide +kernel
theorem dX6_clerk_52 : decode cX6_clerk 52 = .ok (.iload_n 1, 1) := by decide +kernel
theorem dX6_clerk_53 : decode cX6_clerk 53 = .ok (.invokevirtual 101, 3) := by decide +kernel
theorem dX6_clerk_56 : decode cX6_clerk 56 = .ok (.ireturn, 1) := by decide +kernel
theorem dX6_clerk_57 : decode cX6_clerk 57 = .ok (.iload_n 2, 1) := by decide +kernel
theorem dX6_clerk_58 : decode cX6_clerk 58 = .ok (.iconst 2, 1) := by decide +kernel
theorem dX6_clerk_59 : decode cX6_clerk 59 = .ok (.if_icmp .ne 9, 3) := by decide +kernel
theorem dX6_clerk_62 : decode cX6_clerk 62 = .ok (.aload_n 0, 1) := by decide +kernel
theorem dX6_clerk_63 : decode cX6_clerk 63 = .ok (.iload_n 1, 1) := by decide +kernel
theorem dX6_clerk_64 : decode cX6_clerk 64 = .ok (.invokevirtual 98, 3) := by decide +kernel
theorem dX6_clerk_67 : decode cX6_clerk 67 = .ok (.ireturn, 1) := by decide +kernel
theorem dX6_clerk_68 : decode cX6_clerk 68 = .ok (.aload_n 0, 1) := by decide +kernel
theorem dX6_clerk_69 : decode cX6_clerk 69 = .ok (.getfield 7, 3) := by decide +kernel
theorem dX6_clerk_72 : decode cX6_clerk 72 = .ok (.iload_n 2, 1) := by decide +kernel
theorem dX6_clerk_73 : decode cX6_clerk 73 = .ok (.ifCond .ne 9, 3) := by decide +kernel
theorem dX6_clerk_76 : decode cX6_clerk 76 = .ok (.sipush 568, 3) := by decide +kernel
theorem dX6_clerk_79 : decode cX6_clerk 79 = .ok (.goto 17, 3) := by decide +kernel
theorem dX6_clerk_82 : decode cX6_clerk 82 = .ok (.iload_n 2, 1) := by decide +kernel
theorem dX6_clerk_83 : decode cX6_clerk 83 = .ok (.iconst 3, 1) := by decide +kernel
theorem dX6_clerk_84 : decode cX6_clerk 84 = .ok (.if_icmp .ne 9, 3) := by decide +kernel
theorem dX6_clerk_87 : decode cX6_clerk 87 = .ok (.sipush 574, 3) := by decide +kernel
theorem dX6_clerk_90 : decode cX6_clerk 90 = .ok (.goto 6, 3) := by decide +kernel
theorem dX6_clerk_93 : decode cX6_clerk 93 = .ok (.sipush 580, 3) := by decide +kernel
theorem dX6_clerk_96 : decode cX6_clerk 96 = .ok (.iload_n 1, 1) := by decide +kernel
theorem dX6_clerk_97 : decode cX6_clerk 97 = .ok (.iadd, 1) := by decide +kernel
theorem dX6_clerk_98 : decode cX6_clerk 98 = .ok (.iaload, 1) := by decide +kernel
theorem dX6_clerk_99 : decode cX6_clerk 99 = .ok (.ireturn, 1) := by decide +kernel
theorem dX6_knownOf_0 : decode cX6_knownOf 0 = .ok (.iconst 0, 1) := by decide +kernel
theorem dX6_knownOf_1 : decode cX6_knownOf 1 = .ok (.istore_n 2, 1) := by decide +kernel
theorem dX6_knownOf_2 : decode cX6_knownOf 2 = .ok (.iconst 0, 1) := by decide +kernel
theorem dX6_knownOf_3 : decode cX6_knownOf 3 = .ok (.istore_n 3, 1) := by decide +kernel
theorem dX6_knownOf_4 : decode cX6_knownOf 4 = .ok (.iload_n 3, 1) := by decide +kernel
theorem dX6_knownOf_5 : decode cX6_knownOf 5 = .ok (.bipush 6, 2) := by decide +kernel
theorem dX6_knownOf_7 : decode cX6_knownOf 7 = .ok (.if_icmp .ge 36, 3) := by decide +kernel
theorem dX6_knownOf_10 : decode cX6_knownOf 10 = .ok (.iload_n 2, 1) := by decide +kernel
theorem dX6_knownOf_11 : decode cX6_knownOf 11 = .ok (.aload_n 0, 1) := by decide +kernel
theorem dX6_knownOf_12 : decode cX6_knownOf 12 = .ok (.iload_n 3, 1) := by decide +kernel
theorem dX6_knownOf_13 : decode cX6_knownOf 13 = .ok (.invokevirtual 80, 3) := by decide +kernel
theorem dX6_knownOf_16 : decode cX6_knownOf 16 = .ok (.ifCond .eq 18, 3) := by decide +kernel
theorem dX6_knownOf_19 : decode cX6_knownOf 19 = .ok (.aload_n 0, 1) := by decide +kernel
theorem dX6_knownOf_20 : decode cX6_knownOf 20 = .ok (.iload_n 3, 1) := by decide +kernel
theorem dX6_knownOf_21 : decode cX6_knownOf 21 = .ok (.iload_n 1, 1) := by decide +kernel
theorem dX6_knownOf_22 : decode cX6_knownOf 22 = .ok (.invokevirtual 104, 3) := by decide +kernel
theorem dX6_knownOf_25 : decode cX6_knownOf 25 = .ok (.ifCond .eq 9, 3) := by decide +kernel
theorem dX6_knownOf_28 : decode cX6_knownOf 28 = .ok (.iconst 1, 1) := by decide +kernel
theorem dX6_knownOf_29 : decode cX6_knownOf 29 = .ok (.iload_n 3, 1) := by decide +kernel
theorem dX6_knownOf_30 : decode cX6_knownOf 30 = .ok (.ishl, 1) := by decide +kernel
theorem dX6_knownOf_31 : decode cX6_knownOf 31 = .ok (.goto 4, 3) := by decide +kernel
theorem dX6_knownOf_34 : decode cX6_knownOf 34 = .ok (.iconst 0, 1) := by decide +kernel
theorem dX6_knownOf_35 : decode cX6_knownOf 35 = .ok (.ior, 1) := by decide +kernel
theorem dX6_knownOf_36 : decode cX6_knownOf 36 = .ok (.istore_n 2, 1) := by decide +kernel
theorem dX6_knownOf_37 : decode cX6_knownOf 37 = .ok (.iinc 3 1, 3) := by decide +kernel
theorem dX6_knownOf_40 : decode cX6_knownOf 40 = .ok (.goto (-36), 3) := by decide +kernel
theorem dX6_knownOf_43 : decode cX6_knownOf 43 = .ok (.iload_n 2, 1) := by decide +kernel
theorem dX6_knownOf_44 : decode cX6_knownOf 44 = .ok (.ireturn, 1) := by decide +kernel
theorem dX6_seen_0 : decode cX6_seen 0 = .ok (.iload_n 1, 1) := by decide +kernel
theorem dX6_seen_1 : decode cX6_seen 1 = .ok (.invokestatic 55, 3) := by decide +kernel
theorem dX6_seen_4 : decode cX6_seen 4 = .ok (.ifCond .ne 5, 3) := by decide +kernel
theorem dX6_seen_7 : decode cX6_seen 7 = .ok (.iconst (-1), 1) := by decide +kernel
theorem dX6_seen_8 : decode cX6_seen 8 = .ok (.ireturn, 1) := by decide +kernel
theorem dX6_seen_9 : decode cX6_seen 9 = .ok (.iload_n 2, 1) := by decide +kernel
theorem dX6_seen_10 : decode cX6_seen 10 = .ok (.ifCond .lt 8, 3) := by decide +kernel
theorem dX6_seen_13 : decode cX6_seen 13 = .ok (.iload_n 2, 1) := by decide +kernel
theorem dX6_seen_14 : decode cX6_seen 14 = .ok (.iconst 4, 1) := by decide +kernel
theorem dX6_seen_15 : decode cX6_seen 15 = .ok (.if_icmp .le 6, 3) := by decide +kernel
theorem dX6_seen_18 : decode cX6_seen 18 = .ok (.bipush (-2), 2) := by decide +kernel
theorem dX6_seen_20 : decode cX6_seen 20 = .ok (.ireturn, 1) := by decide +kernel
theorem dX6_seen_21 : decode cX6_seen 21 = .ok (.aload_n 0, 1) := by decide +kernel
theorem dX6_seen_22 : decode cX6_seen 22 = .ok (.getfield 7, 3) := by decide +kernel
theorem dX6_seen_25 : decode cX6_seen 25 = .ok (.sipush 559, 3) := by decide +kernel
theorem dX6_seen_28 : decode cX6_seen 28 = .ok (.iaload, 1) := by decide +kernel
theorem dX6_seen_29 : decode cX6_seen 29 = .ok (.ifCond .ne 6, 3) := by decide +kernel
theorem dX6_seen_32 : decode cX6_seen 32 = .ok (.bipush (-4), 2) := by decide +kernel
theorem dX6_seen_34 : decode cX6_seen 34 = .ok (.ireturn, 1) := by decide +kernel
theorem dX6_seen_35 : decode cX6_seen 35 = .ok (.aload_n 0, 1) := by decide +kernel
theorem dX6_seen_36 : decode cX6_seen 36 = .ok (.iload_n 1, 1) := by decide +kernel
theorem dX6_seen_37 : decode cX6_seen 37 = .ok (.invokevirtual 108, 3) := by decide +kernel
theorem dX6_seen_40 : decode cX6_seen 40 = .ok (.ifCond .ne 6, 3) := by decide +kernel
theorem dX6_seen_43 : decode cX6_seen 43 = .ok (.bipush (-5), 2) := by decide +kernel
theorem dX6_seen_45 : decode cX6_seen 45 = .ok (.ireturn, 1) := by decide +kernel
theorem dX6_seen_46 : decode cX6_seen 46 = .ok (.aload_n 0, 1) := by decide +kernel
theorem dX6_seen_47 : decode cX6_seen 47 = .ok (.invokevirtual 123, 3) := by decide +kernel
theorem dX6_seen_50 : decode cX6_seen 50 = .ok (.iload_n 2, 1) := by decide +kernel
theorem dX6_seen_51 : decode cX6_seen 51 = .ok (.iconst 2, 1) := by decide +kernel
theorem dX6_seen_52 : decode cX6_seen 52 = .ok (.if_icmp .ge 22, 3) := by decide +kernel
theorem dX6_seen_55 : decode cX6_seen 55 = .ok (.iload_n 2, 1) := by decide +kernel
theorem dX6_seen_56 : decode cX6_seen 56 = .ok (.ifCond .ne 12, 3) := by decide +kernel
theorem dX6_seen_59 : decode cX6_seen 59 = .ok (.aload_n 0, 1) := by decide +kernel
theorem dX6_seen_60 : decode cX6_seen 60 = .ok (.getfield 22, 3) := by decide +kernel
theorem dX6_seen_63 : decode cX6_seen 63 = .ok (.iload_n 1, 1) := by decide +kernel
theorem dX6_seen_64 : decode cX6_seen 64 = .ok (.iaload, 1) := by decide +kernel
theorem dX6_seen_65 : decode cX6_seen 65 = .ok (.goto 8, 3) := by decide +kernel
theorem dX6_seen_68 : decode cX6_seen 68 = .ok (.aload_n 0, 1) := by decide +kernel
theorem dX6_seen_69 : decode cX6_seen 69 = .ok (.iload_n 1, 1) := by decide +kernel
theorem dX6_seen_70 : decode cX6_seen 70 = .ok (.invokevirtual 132, 3) := by decide +kernel
theorem dX6_seen_73 : decode cX6_seen 73 = .ok (.ireturn, 1) := by decide +kernel
theorem dX6_seen_74 : decode cX6_seen 74 = .ok (.iload_n 2, 1) := by decide +kernel
theorem dX6_seen_75 : decode cX6_seen 75 = .ok (.iconst 2, 1) := by decide +kernel
theorem dX6_seen_76 : decode cX6_seen 76 = .ok (.if_icmp .ne 9, 3) := by decide +kernel
theorem dX6_seen_79 : decode cX6_seen 79 = .ok (.aload_n 0, 1) := by decide +kernel
theorem dX6_seen_80 : decode cX6_seen 80 = .ok (.iload_n 1, 1) := by decide +kernel
theorem dX6_seen_81 : decode cX6_seen 81 = .ok (.invokevirtual 161, 3) := by decide +kernel
theorem dX6_seen_84 : decode cX6_seen 84 = .ok (.ireturn, 1) := by decide +kernel
theorem dX6_seen_85 : decode cX6_seen 85 = .ok (.iload_n 2, 1) := by decide +kernel
theorem dX6_seen_86 : decode cX6_seen 86 = .ok (.iconst 3, 1) := by decide +kernel
theorem dX6_seen_87 : decode cX6_seen 87 = .ok (.if_icmp .ne 11, 3) := by decide +kernel
theorem dX6_seen_90 : decode cX6_seen 90 = .ok (.aload_n 0, 1) := by decide +kernel
theorem dX6_seen_91 : decode cX6_seen 91 = .ok (.iload_n 1, 1) := by decide +kernel
theorem dX6_seen_92 : decode cX6_seen 92 = .ok (.invokevirtual 117, 3) := by decide +kernel
theorem dX6_seen_95 : decode cX6_seen 95 = .ok (.goto 15, 3) := by decide +kernel
theorem dX6_seen_98 : decode cX6_seen 98 = .ok (.aload_n 0, 1) := by decide +kernel
theorem dX6_seen_99 : decode cX6_seen 99 = .ok (.getfield 7, 3) := by decide +kernel
theorem dX6_seen_102 : decode cX6_seen 102 = .ok (.sipush 586, 3) := by decide +kernel
theorem dX6_seen_105 : decode cX6_seen 105 = .ok (.iload_n 1, 1) := by decide +kernel
theorem dX6_seen_106 : decode cX6_seen 106 = .ok (.iadd, 1) := by decide +kernel
theorem dX6_seen_107 : decode cX6_seen 107 = .ok (.iaload, 1) := by decide +kernel
theorem dX6_seen_108 : decode cX6_seen 108 = .ok (.iconst 1, 1) := by decide +kernel
theorem dX6_seen_109 : decode cX6_seen 109 = .ok (.isub, 1) := by decide +kernel
theorem dX6_seen_110 : decode cX6_seen 110 = .ok (.ireturn, 1) := by decide +kernel
theorem dX6_told_0 : decode cX6_told 0 = .ok (.iload_n 1, 1) := by decide +kernel
theorem dX6_told_1 : decode cX6_told 1 = .ok (.ifCond .ge 6, 3) := by decide +kernel
theorem dX6_told_4 : decode cX6_told 4 = .ok (.bipush (-2), 2) := by decide +kernel
theorem dX6_told_6 : decode cX6_told 6 = .ok (.ireturn, 1) := by decide +kernel
theorem dX6_told_7 : decode cX6_told 7 = .ok (.aload_n 0, 1) := by decide +kernel
theorem dX6_told_8 : decode cX6_told 8 = .ok (.getfield 7, 3) := by decide +kernel
theorem dX6_told_11 : decode cX6_told 11 = .ok (.sipush 559, 3) := by decide +kernel
theorem dX6_told_14 : decode cX6_told 14 = .ok (.iaload, 1) := by decide +kernel
theorem dX6_told_15 : decode cX6_told 15 = .ok (.ifCond .ne 6, 3) := by decide +kernel
theorem dX6_told_18 : decode cX6_told 18 = .ok (.bipush (-4), 2) := by decide +kernel
theorem dX6_told_20 : decode cX6_told 20 = .ok (.ireturn, 1) := by decide +kernel
theorem dX6_told_21 : decode cX6_told 21 = .ok (.aload_n 0, 1) := by decide +kernel
theorem dX6_told_22 : decode cX6_told 22 = .ok (.invokevirtual 123, 3) := by decide +kernel
theorem dX6_told_25 : decode cX6_told 25 = .ok (.iload_n 1, 1) := by decide +kernel
theorem dX6_told_26 : decode cX6_told 26 = .ok (.aload_n 0, 1) := by decide +kernel
theorem dX6_told_27 : decode cX6_told 27 = .ok (.invokevirtual 158, 3) := by decide +kernel
theorem dX6_told_30 : decode cX6_told 30 = .ok (.if_icmp .ge 11, 3) := by decide +kernel
theorem dX6_told_33 : decode cX6_told 33 = .ok (.aload_n 0, 1) := by decide +kernel
theorem dX6_told_34 : decode cX6_told 34 = .ok (.iload_n 1, 1) := by decide +kernel
theorem dX6_told_35 : decode cX6_told 35 = .ok (.invokevirtual 126, 3) := by decide +kernel
theorem dX6_told_38 : decode cX6_told 38 = .ok (.goto 5, 3) := by decide +kernel
theorem dX6_told_41 : decode cX6_told 41 = .ok (.bipush (-5), 2) := by decide +kernel
theorem dX6_told_43 : decode cX6_told 43 = .ok (.ireturn, 1) := by decide +kernel
theorem dX6_sumOf_0 : decode cX6_sumOf 0 = .ok (.iconst 0, 1) := by decide +kernel
theorem dX6_sumOf_1 : decode cX6_sumOf 1 = .ok (.istore_n 2, 1) := by decide +kernel
theorem dX6_sumOf_2 : decode cX6_sumOf 2 = .ok (.iconst 0, 1) := by decide +kernel
theorem dX6_sumOf_3 : decode cX6_sumOf 3 = .ok (.istore_n 3, 1) := by decide +kernel
theorem dX6_sumOf_4 : decode cX6_sumOf 4 = .ok (.iload_n 3, 1) := by decide +kernel
theorem dX6_sumOf_5 : decode cX6_sumOf 5 = .ok (.bipush 6, 2) := by decide +kernel
theorem dX6_sumOf_7 : decode cX6_sumOf 7 = .ok (.if_icmp .ge 20, 3) := by decide +kernel
theorem dX6_sumOf_10 : decode cX6_sumOf 10 = .ok (.iload_n 2, 1) := by decide +kernel
theorem dX6_sumOf_11 : decode cX6_sumOf 11 = .ok (.aload_n 0, 1) := by decide +kernel
theorem dX6_sumOf_12 : decode cX6_sumOf 12 = .ok (.getfield 7, 3) := by decide +kernel
theorem dX6_sumOf_15 : decode cX6_sumOf 15 = .ok (.iload_n 1, 1) := by decide +kernel
theorem dX6_sumOf_16 : decode cX6_sumOf 16 = .ok (.iload_n 3, 1) := by decide +kernel
theorem dX6_sumOf_17 : decode cX6_sumOf 17 = .ok (.iadd, 1) := by decide +kernel
theorem dX6_sumOf_18 : decode cX6_sumOf 18 = .ok (.iaload, 1) := by decide +kernel
theorem dX6_sumOf_19 : decode cX6_sumOf 19 = .ok (.iadd, 1) := by decide +kernel
theorem dX6_sumOf_20 : decode cX6_sumOf 20 = .ok (.istore_n 2, 1) := by decide +kernel
theorem dX6_sumOf_21 : decode cX6_sumOf 21 = .ok (.iinc 3 1, 3) := by decide +kernel
theorem dX6_sumOf_24 : decode cX6_sumOf 24 = .ok (.goto (-20), 3) := by decide +kernel
theorem dX6_sumOf_27 : decode cX6_sumOf 27 = .ok (.iload_n 2, 1) := by decide +kernel
theorem dX6_sumOf_28 : decode cX6_sumOf 28 = .ok (.ireturn, 1) := by decide +kernel
theorem dX6_cost_0 : decode cX6_cost 0 = .ok (.aload_n 0, 1) := by decide +kernel
theorem dX6_cost_1 : decode cX6_cost 1 = .ok (.getfield 7, 3) := by decide +kernel
theorem dX6_cost_4 : decode cX6_cost 4 = .ok (.sipush 564, 3) := by decide +kernel
theorem dX6_cost_7 : decode cX6_cost 7 = .ok (.iaload, 1) := by decide +kernel
theorem dX6_cost_8 : decode cX6_cost 8 = .ok (.iconst 3, 1) := by decide +kernel
theorem dX6_cost_9 : decode cX6_cost 9 = .ok (.aload_n 0, 1) := by decide +kernel
theorem dX6_cost_10 : decode cX6_cost 10 = .ok (.sipush 580, 3) := by decide +kernel
theorem dX6_cost_13 : decode cX6_cost 13 = .ok (.invokevirtual 164, 3) := by decide +kernel
theorem dX6_cost_16 : decode cX6_cost 16 = .ok (.imul, 1) := by decide +kernel
theorem dX6_cost_17 : decode cX6_cost 17 = .ok (.iadd, 1) := by decide +kernel
theorem dX6_cost_18 : decode cX6_cost 18 = .ok (.ireturn, 1) := by decide +kernel
theorem dX6_toldNotWanted_0 : decode cX6_toldNotWanted 0 = .ok (.aload_n 0, 1) := by decide +kernel
theorem dX6_toldNotWanted_1 : decode cX6_toldNotWanted 1 = .ok (.invokevirtual 123, 3) := by decide +kernel
theorem dX6_toldNotWanted_4 : decode cX6_toldNotWanted 4 = .ok (.iconst 0, 1) := by decide +kernel
theorem dX6_toldNotWanted_5 : decode cX6_toldNotWanted 5 = .ok (.istore_n 1, 1) := by decide +kernel
theorem dX6_toldNotWanted_6 : decode cX6_toldNotWanted 6 = .ok (.iconst 0, 1) := by decide +kernel
theorem dX6_toldNotWanted_7 : decode cX6_toldNotWanted 7 = .ok (.istore_n 2, 1) := by decide +kernel
theorem dX6_toldNotWanted_8 : decode cX6_toldNotWanted 8 = .ok (.iload_n 2, 1) := by decide +kernel
theorem dX6_toldNotWanted_9 : decode cX6_toldNotWanted 9 = .ok (.bipush 60, 2) := by decide +kernel
theorem dX6_toldNotWanted_11 : decode cX6_toldNotWanted 11 = .ok (.if_icmp .ge 59, 3) := by decide +kernel
theorem dX6_toldNotWanted_14 : decode cX6_toldNotWanted 14 = .ok (.aload_n 0, 1) := by decide +kernel
theorem dX6_toldNotWanted_15 : decode cX6_toldNotWanted 15 = .ok (.iload_n 2, 1) := by decide +kernel
theorem dX6_toldNotWanted_16 : decode cX6_toldNotWanted 16 = .ok (.invokevirtual 108, 3) := by decide +kernel
theorem dX6_toldNotWanted_19 : decode cX6_toldNotWanted 19 = .ok (.ifCond .eq 23, 3) := by decide +kernel
theorem dX6_toldNotWanted_22 : decode cX6_toldNotWanted 22 = .ok (.aload_n 0, 1) := by decide +kernel
theorem dX6_toldNotWanted_23 : decode cX6_toldNotWanted 23 = .ok (.iload_n 2, 1) := by decide +kernel
theorem dX6_toldNotWanted_24 : decode cX6_toldNotWanted 24 = .ok (.invokevirtual 117, 3) := by decide +kernel
theorem dX6_toldNotWanted_27 : decode cX6_toldNotWanted 27 = .ok (.aload_n 0, 1) := by decide +kernel
theorem dX6_toldNotWanted_28 : decode cX6_toldNotWanted 28 = .ok (.getfield 7, 3) := by decide +kernel
theorem dX6_toldNotWanted_31 : decode cX6_toldNotWanted 31 = .ok (.sipush 558, 3) := by decide +kernel
theorem dX6_toldNotWanted_34 : decode cX6_toldNotWanted 34 = .ok (.iaload, 1) := by decide +kernel
theorem dX6_toldNotWanted_35 : decode cX6_toldNotWanted 35 = .ok (.if_icmp .ge 7, 3) := by decide +kernel
theorem dX6_toldNotWanted_38 : decode cX6_toldNotWanted 38 = .ok (.iconst 1, 1) := by decide +kernel
theorem dX6_toldNotWanted_39 : decode cX6_toldNotWanted 39 = .ok (.goto 4, 3) := by decide +kernel
theorem dX6_toldNotWanted_42 : decode cX6_toldNotWanted 42 = .ok (.iconst 0, 1) := by decide +kernel
theorem dX6_toldNotWanted_43 : decode cX6_toldNotWanted 43 = .ok (.istore_n 3, 1) := by decide +kernel
theorem dX6_toldNotWanted_44 : decode cX6_toldNotWanted 44 = .ok (.iload_n 1, 1) := by decide +kernel
theorem dX6_toldNotWanted_45 : decode cX6_toldNotWanted 45 = .ok (.iload_n 3, 1) := by decide +kernel
theorem dX6_toldNotWanted_46 : decode cX6_toldNotWanted 46 = .ok (.ifCond .eq 15, 3) := by decide +kernel
theorem dX6_toldNotWanted_49 : decode cX6_toldNotWanted 49 = .ok (.aload_n 0, 1) := by decide +kernel
theorem dX6_toldNotWanted_50 : decode cX6_toldNotWanted 50 = .ok (.iload_n 2, 1) := by decide +kernel
theorem dX6_toldNotWanted_51 : decode cX6_toldNotWanted 51 = .ok (.invokevirtual 92, 3) := by decide +kernel
theorem dX6_toldNotWanted_54 : decode cX6_toldNotWanted 54 = .ok (.ifCond .ge 7, 3) := by decide +kernel
theorem dX6_toldNotWanted_57 : decode cX6_toldNotWanted 57 = .ok (.iconst 1, 1) := by decide +kernel
theorem dX6_toldNotWanted_58 : decode cX6_toldNotWanted 58 = .ok (.goto 4, 3) := by decide +kernel
theorem dX6_toldNotWanted_61 : decode cX6_toldNotWanted 61 = .ok (.iconst 0, 1) := by decide +kernel
theorem dX6_toldNotWanted_62 : decode cX6_toldNotWanted 62 = .ok (.iadd, 1) := by decide +kernel
theorem dX6_toldNotWanted_63 : decode cX6_toldNotWanted 63 = .ok (.istore_n 1, 1) := by decide +kernel
theorem dX6_toldNotWanted_64 : decode cX6_toldNotWanted 64 = .ok (.iinc 2 1, 3) := by decide +kernel
theorem dX6_toldNotWanted_67 : decode cX6_toldNotWanted 67 = .ok (.goto (-59), 3) := by decide +kernel
theorem dX6_toldNotWanted_70 : decode cX6_toldNotWanted 70 = .ok (.iload_n 1, 1) := by decide +kernel
theorem dX6_toldNotWanted_71 : decode cX6_toldNotWanted 71 = .ok (.ireturn, 1) := by decide +kernel
theorem dX6_tellLess_0 : decode cX6_tellLess 0 = .ok (.iconst 0, 1) := by decide +kernel
theorem dX6_tellLess_1 : decode cX6_tellLess 1 = .ok (.istore_n 1, 1) := by decide +kernel
theorem dX6_tellLess_2 : decode cX6_tellLess 2 = .ok (.iconst 0, 1) := by decide +kernel
theorem dX6_tellLess_3 : decode cX6_tellLess 3 = .ok (.istore_n 2, 1) := by decide +kernel
theorem dX6_tellLess_4 : decode cX6_tellLess 4 = .ok (.iload_n 2, 1) := by decide +kernel
theorem dX6_tellLess_5 : decode cX6_tellLess 5 = .ok (.bipush 6, 2) := by decide +kernel
theorem dX6_tellLess_7 : decode cX6_tellLess 7 = .ok (.if_icmp .ge 38, 3) := by decide +kernel
theorem dX6_tellLess_10 : decode cX6_tellLess 10 = .ok (.iload_n 1, 1) := by decide +kernel
theorem dX6_tellLess_11 : decode cX6_tellLess 11 = .ok (.aload_n 0, 1) := by decide +kernel
theorem dX6_tellLess_12 : decode cX6_tellLess 12 = .ok (.iload_n 2, 1) := by decide +kernel
theorem dX6_tellLess_13 : decode cX6_tellLess 13 = .ok (.invokevirtual 80, 3) := by decide +kernel
theorem dX6_tellLess_16 : decode cX6_tellLess 16 = .ok (.ifCond .eq 20, 3) := by decide +kernel
theorem dX6_tellLess_19 : decode cX6_tellLess 19 = .ok (.aload_n 0, 1) := by decide +kernel
theorem dX6_tellLess_20 : decode cX6_tellLess 20 = .ok (.iload_n 2, 1) := by decide +kernel
theorem dX6_tellLess_21 : decode cX6_tellLess 21 = .ok (.invokevirtual 101, 3) := by decide +kernel
theorem dX6_tellLess_24 : decode cX6_tellLess 24 = .ok (.aload_n 0, 1) := by decide +kernel
theorem dX6_tellLess_25 : decode cX6_tellLess 25 = .ok (.iload_n 2, 1) := by decide +kernel
theorem dX6_tellLess_26 : decode cX6_tellLess 26 = .ok (.invokevirtual 98, 3) := by decide +kernel
theorem dX6_tellLess_29 : decode cX6_tellLess 29 = .ok (.if_icmp .ge 7, 3) := by decide +kernel
theorem dX6_tellLess_32 : decode cX6_tellLess 32 = .ok (.iconst 1, 1) := by decide +kernel
theorem dX6_tellLess_33 : decode cX6_tellLess 33 = .ok (.goto 4, 3) := by decide +kernel
theorem dX6_tellLess_36 : decode cX6_tellLess 36 = .ok (.iconst 0, 1) := by decide +kernel
theorem dX6_tellLess_37 : decode cX6_tellLess 37 = .ok (.iadd, 1) := by decide +kernel
theorem dX6_tellLess_38 : decode cX6_tellLess 38 = .ok (.istore_n 1, 1) := by decide +kernel
theorem dX6_tellLess_39 : decode cX6_tellLess 39 = .ok (.iinc 2 1, 3) := by decide +kernel
theorem dX6_tellLess_42 : decode cX6_tellLess 42 = .ok (.goto (-38), 3) := by decide +kernel
theorem dX6_tellLess_45 : decode cX6_tellLess 45 = .ok (.iload_n 1, 1) := by decide +kernel
theorem dX6_tellLess_46 : decode cX6_tellLess 46 = .ok (.ireturn, 1) := by decide +kernel
theorem dX6_reading_0 : decode cX6_reading 0 = .ok (.iload_n 1, 1) := by decide +kernel
theorem dX6_reading_1 : decode cX6_reading 1 = .ok (.ifCond .lt 9, 3) := by decide +kernel
theorem dX6_reading_4 : decode cX6_reading 4 = .ok (.iload_n 1, 1) := by decide +kernel
theorem dX6_reading_5 : decode cX6_reading 5 = .ok (.bipush 12, 2) := by decide +kernel
theorem dX6_reading_7 : decode cX6_reading 7 = .ok (.if_icmp .le 6, 3) := by decide +kernel
theorem dX6_reading_10 : decode cX6_reading 10 = .ok (.bipush (-2), 2) := by decide +kernel
theorem dX6_reading_12 : decode cX6_reading 12 = .ok (.ireturn, 1) := by decide +kernel
theorem dX6_reading_13 : decode cX6_reading 13 = .ok (.aload_n 0, 1) := by decide +kernel
theorem dX6_reading_14 : decode cX6_reading 14 = .ok (.getfield 7, 3) := by decide +kernel
theorem dX6_reading_17 : decode cX6_reading 17 = .ok (.sipush 559, 3) := by decide +kernel
theorem dX6_reading_20 : decode cX6_reading 20 = .ok (.iaload, 1) := by decide +kernel
theorem dX6_reading_21 : decode cX6_reading 21 = .ok (.ifCond .ne 6, 3) := by decide +kernel
theorem dX6_reading_24 : decode cX6_reading 24 = .ok (.bipush (-4), 2) := by decide +kernel
theorem dX6_reading_26 : decode cX6_reading 26 = .ok (.ireturn, 1) := by decide +kernel
theorem dX6_reading_27 : decode cX6_reading 27 = .ok (.iload_n 1, 1) := by decide +kernel
theorem dX6_reading_28 : decode cX6_reading 28 = .ok (.tableswitch 185 0 11 #[64, 73, 82, 90, 95, 100, 105, 114, 136, 141, 172, 180], 64) := by decide +kernel
theorem dX6_reading_92 : decode cX6_reading 92 = .ok (.aload_n 0, 1) := by decide +kernel
theorem dX6_reading_93 : decode cX6_reading 93 = .ok (.getfield 7, 3) := by decide +kernel
theorem dX6_reading_96 : decode cX6_reading 96 = .ok (.sipush 564, 3) := by decide +kernel
theorem dX6_reading_99 : decode cX6_reading 99 = .ok (.iaload, 1) := by decide +kernel
theorem dX6_reading_100 : decode cX6_reading 100 = .ok (.ireturn, 1) := by decide +kernel
theorem dX6_reading_101 : decode cX6_reading 101 = .ok (.aload_n 0, 1) := by decide +kernel
theorem dX6_reading_102 : decode cX6_reading 102 = .ok (.getfield 7, 3) := by decide +kernel
theorem dX6_reading_105 : decode cX6_reading 105 = .ok (.sipush 565, 3) := by decide +kernel
theorem dX6_reading_108 : decode cX6_reading 108 = .ok (.iaload, 1) := by decide +kernel
theorem dX6_reading_109 : decode cX6_reading 109 = .ok (.ireturn, 1) := by decide +kernel
theorem dX6_reading_110 : decode cX6_reading 110 = .ok (.aload_n 0, 1) := by decide +kernel
theorem dX6_reading_111 : decode cX6_reading 111 = .ok (.sipush 580, 3) := by decide +kernel
theorem dX6_reading_114 : decode cX6_reading 114 = .ok (.invokevirtual 164, 3) := by decide +kernel
theorem dX6_reading_117 : decode cX6_reading 117 = .ok (.ireturn, 1) := by decide +kernel
theorem dX6_reading_118 : decode cX6_reading 118 = .ok (.aload_n 0, 1) := by decide +kernel
theorem dX6_reading_119 : decode cX6_reading 119 = .ok (.invokevirtual 167, 3) := by decide +kernel
theorem dX6_reading_122 : decode cX6_reading 122 = .ok (.ireturn, 1) := by decide +kernel
theorem dX6_reading_123 : decode cX6_reading 123 = .ok (.aload_n 0, 1) := by decide +kernel
theorem dX6_reading_124 : decode cX6_reading 124 = .ok (.invokevirtual 114, 3) := by decide +kernel
theorem dX6_reading_127 : decode cX6_reading 127 = .ok (.ireturn, 1) := by decide +kernel
theorem dX6_reading_128 : decode cX6_reading 128 = .ok (.aload_n 0, 1) := by decide +kernel
theorem dX6_reading_129 : decode cX6_reading 129 = .ok (.invokevirtual 158, 3) := by decide +kernel
theorem dX6_reading_132 : decode cX6_reading 132 = .ok (.ireturn, 1) := by decide +kernel
theorem dX6_reading_133 : decode cX6_reading 133 = .ok (.aload_n 0, 1) := by decide +kernel
theorem dX6_reading_134 : decode cX6_reading 134 = .ok (.getfield 7, 3) := by decide +kernel
theorem dX6_reading_137 : decode cX6_reading 137 = .ok (.sipush 562, 3) := by decide +kernel
theorem dX6_reading_140 : decode cX6_reading 140 = .ok (.iaload, 1) := by decide +kernel
theorem dX6_reading_141 : decode cX6_reading 141 = .ok (.ireturn, 1) := by decide +kernel
theorem dX6_reading_142 : decode cX6_reading 142 = .ok (.aload_n 0, 1) := by decide +kernel
theorem dX6_reading_143 : decode cX6_reading 143 = .ok (.getfield 7, 3) := by decide +kernel
theorem dX6_reading_146 : decode cX6_reading 146 = .ok (.sipush 562, 3) := by decide +kernel
theorem dX6_reading_149 : decode cX6_reading 149 = .ok (.iaload, 1) := by decide +kernel
theorem dX6_reading_150 : decode cX6_reading 150 = .ok (.iconst 1, 1) := by decide +kernel
theorem dX6_reading_151 : decode cX6_reading 151 = .ok (.if_icmp .ne 8, 3) := by decide +kernel
theorem dX6_reading_154 : decode cX6_reading 154 = .ok (.bipush (-5), 2) := by decide +kernel
theorem dX6_reading_156 : decode cX6_reading 156 = .ok (.goto 7, 3) := by decide +kernel
theorem dX6_reading_159 : decode cX6_reading 159 = .ok (.aload_n 0, 1) := by decide +kernel
theorem dX6_reading_160 : decode cX6_reading 160 = .ok (.invokevirtual 142, 3) := by decide +kernel
theorem dX6_reading_163 : decode cX6_reading 163 = .ok (.ireturn, 1) := by decide +kernel
theorem dX6_reading_164 : decode cX6_reading 164 = .ok (.aload_n 0, 1) := by decide +kernel
theorem dX6_reading_165 : decode cX6_reading 165 = .ok (.invokevirtual 129, 3) := by decide +kernel
theorem dX6_reading_168 : decode cX6_reading 168 = .ok (.ireturn, 1) := by decide +kernel
theorem dX6_reading_169 : decode cX6_reading 169 = .ok (.aload_n 0, 1) := by decide +kernel
theorem dX6_reading_170 : decode cX6_reading 170 = .ok (.invokevirtual 123, 3) := by decide +kernel
theorem dX6_reading_173 : decode cX6_reading 173 = .ok (.aload_n 0, 1) := by decide +kernel
theorem dX6_reading_174 : decode cX6_reading 174 = .ok (.invokevirtual 158, 3) := by decide +kernel
theorem dX6_reading_177 : decode cX6_reading 177 = .ok (.ifCond .ne 7, 3) := by decide +kernel
theorem dX6_reading_180 : decode cX6_reading 180 = .ok (.iconst 0, 1) := by decide +kernel
theorem dX6_reading_181 : decode cX6_reading 181 = .ok (.goto 18, 3) := by decide +kernel
theorem dX6_reading_184 : decode cX6_reading 184 = .ok (.aload_n 0, 1) := by decide +kernel
theorem dX6_reading_185 : decode cX6_reading 185 = .ok (.getfield 22, 3) := by decide +kernel
theorem dX6_reading_188 : decode cX6_reading 188 = .ok (.aload_n 0, 1) := by decide +kernel
theorem dX6_reading_189 : decode cX6_reading 189 = .ok (.aload_n 0, 1) := by decide +kernel
theorem dX6_reading_190 : decode cX6_reading 190 = .ok (.invokevirtual 158, 3) := by decide +kernel
theorem dX6_reading_193 : decode cX6_reading 193 = .ok (.iconst 1, 1) := by decide +kernel
theorem dX6_reading_194 : decode cX6_reading 194 = .ok (.isub, 1) := by decide +kernel
theorem dX6_reading_195 : decode cX6_reading 195 = .ok (.invokevirtual 126, 3) := by decide +kernel
theorem dX6_reading_198 : decode cX6_reading 198 = .ok (.iaload, 1) := by decide +kernel
theorem dX6_reading_199 : decode cX6_reading 199 = .ok (.ireturn, 1) := by decide +kernel
theorem dX6_reading_200 : decode cX6_reading 200 = .ok (.aload_n 0, 1) := by decide +kernel
theorem dX6_reading_201 : decode cX6_reading 201 = .ok (.sipush 574, 3) := by decide +kernel
theorem dX6_reading_204 : decode cX6_reading 204 = .ok (.invokevirtual 164, 3) := by decide +kernel
theorem dX6_reading_207 : decode cX6_reading 207 = .ok (.ireturn, 1) := by decide +kernel
theorem dX6_reading_208 : decode cX6_reading 208 = .ok (.aload_n 0, 1) := by decide +kernel
theorem dX6_reading_209 : decode cX6_reading 209 = .ok (.invokevirtual 170, 3) := by decide +kernel
theorem dX6_reading_212 : decode cX6_reading 212 = .ok (.ireturn, 1) := by decide +kernel
theorem dX6_reading_213 : decode cX6_reading 213 = .ok (.aload_n 0, 1) := by decide +kernel
theorem dX6_reading_214 : decode cX6_reading 214 = .ok (.invokevirtual 173, 3) := by decide +kernel
theorem dX6_reading_217 : decode cX6_reading 217 = .ok (.ireturn, 1) := by decide +kernel
theorem dX6_tried_0 : decode cX6_tried 0 = .ok (.iconst 0, 1) := by decide +kernel
theorem dX6_tried_1 : decode cX6_tried 1 = .ok (.istore 4, 2) := by decide +kernel
theorem dX6_tried_3 : decode cX6_tried 3 = .ok (.iload 4, 2) := by decide +kernel
theorem dX6_tried_5 : decode cX6_tried 5 = .ok (.sipush 706, 3) := by decide +kernel
theorem dX6_tried_8 : decode cX6_tried 8 = .ok (.if_icmp .ge 23, 3) := by decide +kernel
theorem dX6_tried_11 : decode cX6_tried 11 = .ok (.aload_n 0, 1) := by decide +kernel
theorem dX6_tried_12 : decode cX6_tried 12 = .ok (.getfield 19, 3) := by decide +kernel
theorem dX6_tried_15 : decode cX6_tried 15 = .ok (.iload 4, 2) := by decide +kernel
theorem dX6_tried_17 : decode cX6_tried 17 = .ok (.aload_n 0, 1) := by decide +kernel
theorem dX6_tried_18 : decode cX6_tried 18 = .ok (.getfield 7, 3) := by decide +kernel
theorem dX6_tried_21 : decode cX6_tried 21 = .ok (.iload 4, 2) := by decide +kernel
theorem dX6_tried_23 : decode cX6_tried 23 = .ok (.iaload, 1) := by decide +kernel
theorem dX6_tried_24 : decode cX6_tried 24 = .ok (.iastore, 1) := by decide +kernel
theorem dX6_tried_25 : decode cX6_tried 25 = .ok (.iinc 4 1, 3) := by decide +kernel
theorem dX6_tried_28 : decode cX6_tried 28 = .ok (.goto (-25), 3) := by decide +kernel
theorem dX6_tried_31 : decode cX6_tried 31 = .ok (.aload_n 0, 1) := by decide +kernel
theorem dX6_tried_32 : decode cX6_tried 32 = .ok (.iload_n 1, 1) := by decide +kernel
theorem dX6_tried_33 : decode cX6_tried 33 = .ok (.iload_n 2, 1) := by decide +kernel
theorem dX6_tried_34 : decode cX6_tried 34 = .ok (.invokevirtual 151, 3) := by decide +kernel
theorem dX6_tried_37 : decode cX6_tried 37 = .ok (.iconst 0, 1) := by decide +kernel
theorem dX6_tried_38 : decode cX6_tried 38 = .ok (.istore 4, 2) := by decide +kernel
theorem dX6_tried_40 : decode cX6_tried 40 = .ok (.iload 4, 2) := by decide +kernel
theorem dX6_tried_42 : decode cX6_tried 42 = .ok (.sipush 240, 3) := by decide +kernel
theorem dX6_tried_45 : decode cX6_tried 45 = .ok (.if_icmp .ge 24, 3) := by decide +kernel
theorem dX6_tried_48 : decode cX6_tried 48 = .ok (.aload_n 0, 1) := by decide +kernel
theorem dX6_tried_49 : decode cX6_tried 49 = .ok (.getfield 7, 3) := by decide +kernel
theorem dX6_tried_52 : decode cX6_tried 52 = .ok (.sipush 562, 3) := by decide +kernel
theorem dX6_tried_55 : decode cX6_tried 55 = .ok (.iaload, 1) := by decide +kernel
theorem dX6_tried_56 : decode cX6_tried 56 = .ok (.ifCond .ne 13, 3) := by decide +kernel
theorem dX6_tried_59 : decode cX6_tried 59 = .ok (.aload_n 0, 1) := by decide +kernel
theorem dX6_tried_60 : decode cX6_tried 60 = .ok (.invokevirtual 155, 3) := by decide +kernel
theorem dX6_tried_63 : decode cX6_tried 63 = .ok (.iinc 4 1, 3) := by decide +kernel
theorem dX6_tried_66 : decode cX6_tried 66 = .ok (.goto (-26), 3) := by decide +kernel
theorem dX6_tried_69 : decode cX6_tried 69 = .ok (.iload_n 3, 1) := by decide +kernel
theorem dX6_tried_70 : decode cX6_tried 70 = .ok (.ifCond .ne 14, 3) := by decide +kernel
theorem dX6_tried_73 : decode cX6_tried 73 = .ok (.aload_n 0, 1) := by decide +kernel
theorem dX6_tried_74 : decode cX6_tried 74 = .ok (.getfield 7, 3) := by decide +kernel
theorem dX6_tried_77 : decode cX6_tried 77 = .ok (.sipush 564, 3) := by decide +kernel
theorem dX6_tried_80 : decode cX6_tried 80 = .ok (.iaload, 1) := by decide +kernel
theorem dX6_tried_81 : decode cX6_tried 81 = .ok (.goto 34, 3) := by decide +kernel
theorem dX6_tried_84 : decode cX6_tried 84 = .ok (.iload_n 3, 1) := by decide +kernel
theorem dX6_tried_85 : decode cX6_tried 85 = .ok (.iconst 1, 1) := by decide +kernel
theorem dX6_tried_86 : decode cX6_tried 86 = .ok (.if_icmp .ne 10, 3) := by decide +kernel
theorem dX6_tried_89 : decode cX6_tried 89 = .ok (.aload_n 0, 1) := by decide +kernel
theorem dX6_tried_90 : decode cX6_tried 90 = .ok (.invokevirtual 167, 3) := by decide +kernel
theorem dX6_tried_93 : decode cX6_tried 93 = .ok (.goto 22, 3) := by decide +kernel
theorem dX6_tried_96 : decode cX6_tried 96 = .ok (.iload_n 3, 1) := by decide +kernel
theorem dX6_tried_97 : decode cX6_tried 97 = .ok (.iconst 2, 1) := by decide +kernel
theorem dX6_tried_98 : decode cX6_tried 98 = .ok (.if_icmp .ne 10, 3) := by decide +kernel
theorem dX6_tried_101 : decode cX6_tried 101 = .ok (.aload_n 0, 1) := by decide +kernel
theorem dX6_tried_102 : decode cX6_tried 102 = .ok (.invokevirtual 170, 3) := by decide +kernel
theorem dX6_tried_105 : decode cX6_tried 105 = .ok (.goto 10, 3) := by decide +kernel
theorem dX6_tried_108 : decode cX6_tried 108 = .ok (.aload_n 0, 1) := by decide +kernel
theorem dX6_tried_109 : decode cX6_tried 109 = .ok (.sipush 574, 3) := by decide +kernel
theorem dX6_tried_112 : decode cX6_tried 112 = .ok (.invokevirtual 164, 3) := by decide +kernel
theorem dX6_tried_115 : decode cX6_tried 115 = .ok (.istore 4, 2) := by decide +kernel
theorem dX6_tried_117 : decode cX6_tried 117 = .ok (.iconst 0, 1) := by decide +kernel
theorem dX6_tried_118 : decode cX6_tried 118 = .ok (.istore 5, 2) := by decide +kernel
theorem dX6_tried_120 : decode cX6_tried 120 = .ok (.iload 5, 2) := by decide +kernel
theorem dX6_tried_122 : decode cX6_tried 122 = .ok (.sipush 706, 3) := by decide +kernel
theorem dX6_tried_125 : decode cX6_tried 125 = .ok (.if_icmp .ge 23, 3) := by decide +kernel
theorem dX6_tried_128 : decode cX6_tried 128 = .ok (.aload_n 0, 1) := by decide +kernel
theorem dX6_tried_129 : decode cX6_tried 129 = .ok (.getfield 7, 3) := by decide +kernel
theorem dX6_tried_132 : decode cX6_tried 132 = .ok (.iload 5, 2) := by decide +kernel
theorem dX6_tried_134 : decode cX6_tried 134 = .ok (.aload_n 0, 1) := by decide +kernel
theorem dX6_tried_135 : decode cX6_tried 135 = .ok (.getfield 19, 3) := by decide +kernel
theorem dX6_tried_138 : decode cX6_tried 138 = .ok (.iload 5, 2) := by decide +kernel
theorem dX6_tried_140 : decode cX6_tried 140 = .ok (.iaload, 1) := by decide +kernel
theorem dX6_tried_141 : decode cX6_tried 141 = .ok (.iastore, 1) := by decide +kernel
theorem dX6_tried_142 : decode cX6_tried 142 = .ok (.iinc 5 1, 3) := by decide +kernel
theorem dX6_tried_145 : decode cX6_tried 145 = .ok (.goto (-25), 3) := by decide +kernel
theorem dX6_tried_148 : decode cX6_tried 148 = .ok (.iload 4, 2) := by decide +kernel
theorem dX6_tried_150 : decode cX6_tried 150 = .ok (.ireturn, 1) := by decide +kernel
theorem dX6_trial_0 : decode cX6_trial 0 = .ok (.iload_n 1, 1) := by decide +kernel
theorem dX6_trial_1 : decode cX6_trial 1 = .ok (.ifCond .lt 17, 3) := by decide +kernel
theorem dX6_trial_4 : decode cX6_trial 4 = .ok (.iload_n 1, 1) := by decide +kernel
theorem dX6_trial_5 : decode cX6_trial 5 = .ok (.iconst 2, 1) := by decide +kernel
theorem dX6_trial_6 : decode cX6_trial 6 = .ok (.if_icmp .gt 12, 3) := by decide +kernel
theorem dX6_trial_9 : decode cX6_trial 9 = .ok (.iload_n 3, 1) := by decide +kernel
theorem dX6_trial_10 : decode cX6_trial 10 = .ok (.ifCond .lt 8, 3) := by decide +kernel
theorem dX6_trial_13 : decode cX6_trial 13 = .ok (.iload_n 3, 1) := by decide +kernel
theorem dX6_trial_14 : decode cX6_trial 14 = .ok (.iconst 3, 1) := by decide +kernel
theorem dX6_trial_15 : decode cX6_trial 15 = .ok (.if_icmp .le 6, 3) := by decide +kernel
theorem dX6_trial_18 : decode cX6_trial 18 = .ok (.bipush (-2), 2) := by decide +kernel
theorem dX6_trial_20 : decode cX6_trial 20 = .ok (.ireturn, 1) := by decide +kernel
theorem dX6_trial_21 : decode cX6_trial 21 = .ok (.aload_n 0, 1) := by decide +kernel
theorem dX6_trial_22 : decode cX6_trial 22 = .ok (.invokevirtual 148, 3) := by decide +kernel
theorem dX6_trial_25 : decode cX6_trial 25 = .ok (.ifCond .ne 8, 3) := by decide +kernel
theorem dX6_trial_28 : decode cX6_trial 28 = .ok (.bipush (-4), 2) := by decide +kernel
theorem dX6_trial_30 : decode cX6_trial 30 = .ok (.goto 10, 3) := by decide +kernel
theorem dX6_trial_33 : decode cX6_trial 33 = .ok (.aload_n 0, 1) := by decide +kernel
theorem dX6_trial_34 : decode cX6_trial 34 = .ok (.iload_n 1, 1) := by decide +kernel
theorem dX6_trial_35 : decode cX6_trial 35 = .ok (.iload_n 2, 1) := by decide +kernel
theorem dX6_trial_36 : decode cX6_trial 36 = .ok (.iload_n 3, 1) := by decide +kernel
theorem dX6_trial_37 : decode cX6_trial 37 = .ok (.invokevirtual 176, 3) := by decide +kernel
theorem dX6_trial_40 : decode cX6_trial 40 = .ok (.ireturn, 1) := by decide +kernel
theorem dX6_cheapest_0 : decode cX6_cheapest 0 = .ok (.aload_n 0, 1) := by decide +kernel
theorem dX6_cheapest_1 : decode cX6_cheapest 1 = .ok (.invokevirtual 148, 3) := by decide +kernel
theorem dX6_cheapest_4 : decode cX6_cheapest 4 = .ok (.ifCond .ne 6, 3) := by decide +kernel
theorem dX6_cheapest_7 : decode cX6_cheapest 7 = .ok (.bipush (-4), 2) := by decide +kernel
theorem dX6_cheapest_9 : decode cX6_cheapest 9 = .ok (.ireturn, 1) := by decide +kernel
theorem dX6_cheapest_10 : decode cX6_cheapest 10 = .ok (.iconst (-1), 1) := by decide +kernel
theorem dX6_cheapest_11 : decode cX6_cheapest 11 = .ok (.istore_n 1, 1) := by decide +kernel
theorem dX6_cheapest_12 : decode cX6_cheapest 12 = .ok (.iconst 0, 1) := by decide +kernel
theorem dX6_cheapest_13 : decode cX6_cheapest 13 = .ok (.istore_n 2, 1) := by decide +kernel
theorem dX6_cheapest_14 : decode cX6_cheapest 14 = .ok (.iconst 0, 1) := by decide +kernel
theorem dX6_cheapest_15 : decode cX6_cheapest 15 = .ok (.istore_n 3, 1) := by decide +kernel
theorem dX6_cheapest_16 : decode cX6_cheapest 16 = .ok (.iload_n 3, 1) := by decide +kernel
theorem dX6_cheapest_17 : decode cX6_cheapest 17 = .ok (.bipush 6, 2) := by decide +kernel
theorem dX6_cheapest_19 : decode cX6_cheapest 19 = .ok (.if_icmp .ge 46, 3) := by decide +kernel
theorem dX6_cheapest_22 : decode cX6_cheapest 22 = .ok (.aload_n 0, 1) := by decide +kernel
theorem dX6_cheapest_23 : decode cX6_cheapest 23 = .ok (.iload_n 3, 1) := by decide +kernel
theorem dX6_cheapest_24 : decode cX6_cheapest 24 = .ok (.iconst 2, 1) := by decide +kernel
theorem dX6_cheapest_25 : decode cX6_cheapest 25 = .ok (.idiv, 1) := by decide +kernel
theorem dX6_cheapest_26 : decode cX6_cheapest 26 = .ok (.iload_n 3, 1) := by decide +kernel
theorem dX6_cheapest_27 : decode cX6_cheapest 27 = .ok (.iconst 2, 1) := by decide +kernel
theorem dX6_cheapest_28 : decode cX6_cheapest 28 = .ok (.irem, 1) := by decide +kernel
theorem dX6_cheapest_29 : decode cX6_cheapest 29 = .ok (.iconst 1, 1) := by decide +kernel
theorem dX6_cheapest_30 : decode cX6_cheapest 30 = .ok (.if_icmp .ne 7, 3) := by decide +kernel
theorem dX6_cheapest_33 : decode cX6_cheapest 33 = .ok (.iconst 1, 1) := by decide +kernel
theorem dX6_cheapest_34 : decode cX6_cheapest 34 = .ok (.goto 4, 3) := by decide +kernel
theorem dX6_cheapest_37 : decode cX6_cheapest 37 = .ok (.iconst 0, 1) := by decide +kernel
theorem dX6_cheapest_38 : decode cX6_cheapest 38 = .ok (.iconst 1, 1) := by decide +kernel
theorem dX6_cheapest_39 : decode cX6_cheapest 39 = .ok (.invokevirtual 176, 3) := by decide +kernel
theorem dX6_cheapest_42 : decode cX6_cheapest 42 = .ok (.istore 4, 2) := by decide +kernel
theorem dX6_cheapest_44 : decode cX6_cheapest 44 = .ok (.iload_n 1, 1) := by decide +kernel
theorem dX6_cheapest_45 : decode cX6_cheapest 45 = .ok (.ifCond .lt 9, 3) := by decide +kernel
theorem dX6_cheapest_48 : decode cX6_cheapest 48 = .ok (.iload 4, 2) := by decide +kernel
theorem dX6_cheapest_50 : decode cX6_cheapest 50 = .ok (.iload_n 2, 1) := by decide +kernel
theorem dX6_cheapest_51 : decode cX6_cheapest 51 = .ok (.if_icmp .ge 8, 3) := by decide +kernel
theorem dX6_cheapest_54 : decode cX6_cheapest 54 = .ok (.iload_n 3, 1) := by decide +kernel
theorem dX6_cheapest_55 : decode cX6_cheapest 55 = .ok (.istore_n 1, 1) := by decide +kernel
theorem dX6_cheapest_56 : decode cX6_cheapest 56 = .ok (.iload 4, 2) := by decide +kernel
theorem dX6_cheapest_58 : decode cX6_cheapest 58 = .ok (.istore_n 2, 1) := by decide +kernel
theorem dX6_cheapest_59 : decode cX6_cheapest 59 = .ok (.iinc 3 1, 3) := by decide +kernel
theorem dX6_cheapest_62 : decode cX6_cheapest 62 = .ok (.goto (-46), 3) := by decide +kernel
theorem dX6_cheapest_65 : decode cX6_cheapest 65 = .ok (.iload_n 1, 1) := by decide +kernel
theorem dX6_cheapest_66 : decode cX6_cheapest 66 = .ok (.ireturn, 1) := by decide +kernel
theorem dX6_count_0 : decode cX6_count 0 = .ok (.iload_n 1, 1) := by decide +kernel
theorem dX6_count_1 : decode cX6_count 1 = .ok (.ifCond .lt 9, 3) := by decide +kernel
theorem dX6_count_4 : decode cX6_count 4 = .ok (.iload_n 1, 1) := by decide +kernel
theorem dX6_count_5 : decode cX6_count 5 = .ok (.bipush 9, 2) := by decide +kernel
theorem dX6_count_7 : decode cX6_count 7 = .ok (.if_icmp .le 6, 3) := by decide +kernel
theorem dX6_count_10 : decode cX6_count 10 = .ok (.bipush (-2), 2) := by decide +kernel
theorem dX6_count_12 : decode cX6_count 12 = .ok (.ireturn, 1) := by decide +kernel
theorem dX6_count_13 : decode cX6_count 13 = .ok (.iload_n 1, 1) := by decide +kernel
theorem dX6_count_14 : decode cX6_count 14 = .ok (.tableswitch 137 0 8 #[50, 55, 60, 69, 100, 105, 114, 123, 132], 50) := by decide +kernel
theorem dX6_count_64 : decode cX6_count 64 = .ok (.aload_n 0, 1) := by decide +kernel
theorem dX6_count_65 : decode cX6_count 65 = .ok (.invokevirtual 40, 3) := by decide +kernel
theorem dX6_count_68 : decode cX6_count 68 = .ok (.ireturn, 1) := by decide +kernel
theorem dX6_count_69 : decode cX6_count 69 = .ok (.aload_n 0, 1) := by decide +kernel
theorem dX6_count_70 : decode cX6_count 70 = .ok (.invokevirtual 148, 3) := by decide +kernel
theorem dX6_count_73 : decode cX6_count 73 = .ok (.ireturn, 1) := by decide +kernel
theorem dX6_count_74 : decode cX6_count 74 = .ok (.aload_n 0, 1) := by decide +kernel
theorem dX6_count_75 : decode cX6_count 75 = .ok (.getfield 7, 3) := by decide +kernel
theorem dX6_count_78 : decode cX6_count 78 = .ok (.sipush 558, 3) := by decide +kernel
theorem dX6_count_81 : decode cX6_count 81 = .ok (.iaload, 1) := by decide +kernel
theorem dX6_count_82 : decode cX6_count 82 = .ok (.ireturn, 1) := by decide +kernel
theorem dX6_count_83 : decode cX6_count 83 = .ok (.iconst 0, 1) := by decide +kernel
theorem dX6_count_84 : decode cX6_count 84 = .ok (.istore_n 2, 1) := by decide +kernel
theorem dX6_count_85 : decode cX6_count 85 = .ok (.iconst 0, 1) := by decide +kernel
theorem dX6_count_86 : decode cX6_count 86 = .ok (.istore_n 3, 1) := by decide +kernel
theorem dX6_count_87 : decode cX6_count 87 = .ok (.iload_n 3, 1) := by decide +kernel
theorem dX6_count_88 : decode cX6_count 88 = .ok (.bipush 60, 2) := by decide +kernel
theorem dX6_count_90 : decode cX6_count 90 = .ok (.if_icmp .ge 22, 3) := by decide +kernel
theorem dX6_count_93 : decode cX6_count 93 = .ok (.iload_n 2, 1) := by decide +kernel
theorem dX6_count_94 : decode cX6_count 94 = .ok (.aload_n 0, 1) := by decide +kernel
theorem dX6_count_95 : decode cX6_count 95 = .ok (.getfield 7, 3) := by decide +kernel
theorem dX6_count_98 : decode cX6_count 98 = .ok (.sipush 498, 3) := by decide +kernel
theorem dX6_count_101 : decode cX6_count 101 = .ok (.iload_n 3, 1) := by decide +kernel
theorem dX6_count_102 : decode cX6_count 102 = .ok (.iadd, 1) := by decide +kernel
theorem dX6_count_103 : decode cX6_count 103 = .ok (.iaload, 1) := by decide +kernel
theorem dX6_count_104 : decode cX6_count 104 = .ok (.iadd, 1) := by decide +kernel
theorem dX6_count_105 : decode cX6_count 105 = .ok (.istore_n 2, 1) := by decide +kernel
theorem dX6_count_106 : decode cX6_count 106 = .ok (.iinc 3 1, 3) := by decide +kernel
theorem dX6_count_109 : decode cX6_count 109 = .ok (.goto (-22), 3) := by decide +kernel
theorem dX6_count_112 : decode cX6_count 112 = .ok (.iload_n 2, 1) := by decide +kernel
theorem dX6_count_113 : decode cX6_count 113 = .ok (.ireturn, 1) := by decide +kernel
theorem dX6_count_114 : decode cX6_count 114 = .ok (.aload_n 0, 1) := by decide +kernel
theorem dX6_count_115 : decode cX6_count 115 = .ok (.invokevirtual 180, 3) := by decide +kernel
theorem dX6_count_118 : decode cX6_count 118 = .ok (.ireturn, 1) := by decide +kernel
theorem dX6_count_119 : decode cX6_count 119 = .ok (.aload_n 0, 1) := by decide +kernel
theorem dX6_count_120 : decode cX6_count 120 = .ok (.getfield 7, 3) := by decide +kernel
theorem dX6_count_123 : decode cX6_count 123 = .ok (.sipush 559, 3) := by decide +kernel
theorem dX6_count_126 : decode cX6_count 126 = .ok (.iaload, 1) := by decide +kernel
theorem dX6_count_127 : decode cX6_count 127 = .ok (.ireturn, 1) := by decide +kernel
theorem dX6_count_128 : decode cX6_count 128 = .ok (.aload_n 0, 1) := by decide +kernel
theorem dX6_count_129 : decode cX6_count 129 = .ok (.getfield 7, 3) := by decide +kernel
theorem dX6_count_132 : decode cX6_count 132 = .ok (.sipush 566, 3) := by decide +kernel
theorem dX6_count_135 : decode cX6_count 135 = .ok (.iaload, 1) := by decide +kernel
theorem dX6_count_136 : decode cX6_count 136 = .ok (.ireturn, 1) := by decide +kernel
theorem dX6_count_137 : decode cX6_count 137 = .ok (.aload_n 0, 1) := by decide +kernel
theorem dX6_count_138 : decode cX6_count 138 = .ok (.getfield 7, 3) := by decide +kernel
theorem dX6_count_141 : decode cX6_count 141 = .ok (.sipush 567, 3) := by decide +kernel
end
section
theorem dX6_count_144 : decode cX6_count 144 = .ok (.iaload, 1) := by decide +kernel
theorem dX6_count_145 : decode cX6_count 145 = .ok (.ireturn, 1) := by decide +kernel
theorem dX6_count_146 : decode cX6_count 146 = .ok (.aload_n 0, 1) := by decide +kernel
theorem dX6_count_147 : decode cX6_count 147 = .ok (.getfield 32, 3) := by decide +kernel
theorem dX6_count_150 : decode cX6_count 150 = .ok (.ireturn, 1) := by decide +kernel
theorem dX6_count_151 : decode cX6_count 151 = .ok (.aload_n 0, 1) := by decide +kernel
theorem dX6_count_152 : decode cX6_count 152 = .ok (.getfield 183, 3) := by decide +kernel
theorem dX6_count_155 : decode cX6_count 155 = .ok (.ireturn, 1) := by decide +kernel
theorem dX6_type_0 : decode cX6_type 0 = .ok (.aload_n 0, 1) := by decide +kernel
theorem dX6_type_1 : decode cX6_type 1 = .ok (.getfield 183, 3) := by decide +kernel
theorem dX6_type_4 : decode cX6_type 4 = .ok (.bipush 40, 2) := by decide +kernel
theorem dX6_type_6 : decode cX6_type 6 = .ok (.if_icmp .ne 6, 3) := by decide +kernel
theorem dX6_type_9 : decode cX6_type 9 = .ok (.bipush (-3), 2) := by decide +kernel
theorem dX6_type_11 : decode cX6_type 11 = .ok (.ireturn, 1) := by decide +kernel
theorem dX6_type_12 : decode cX6_type 12 = .ok (.aload_n 0, 1) := by decide +kernel
theorem dX6_type_13 : decode cX6_type 13 = .ok (.getfield 25, 3) := by decide +kernel
theorem dX6_type_16 : decode cX6_type 16 = .ok (.aload_n 0, 1) := by decide +kernel
theorem dX6_type_17 : decode cX6_type 17 = .ok (.getfield 183, 3) := by decide +kernel
theorem dX6_type_20 : decode cX6_type 20 = .ok (.iload_n 1, 1) := by decide +kernel
theorem dX6_type_21 : decode cX6_type 21 = .ok (.castore, 1) := by decide +kernel
theorem dX6_type_22 : decode cX6_type 22 = .ok (.aload_n 0, 1) := by decide +kernel
theorem dX6_type_23 : decode cX6_type 23 = .ok (.dup, 1) := by decide +kernel
theorem dX6_type_24 : decode cX6_type 24 = .ok (.getfield 183, 3) := by decide +kernel
theorem dX6_type_27 : decode cX6_type 27 = .ok (.iconst 1, 1) := by decide +kernel
theorem dX6_type_28 : decode cX6_type 28 = .ok (.iadd, 1) := by decide +kernel
theorem dX6_type_29 : decode cX6_type 29 = .ok (.putfield 183, 3) := by decide +kernel
theorem dX6_type_32 : decode cX6_type 32 = .ok (.aload_n 0, 1) := by decide +kernel
theorem dX6_type_33 : decode cX6_type 33 = .ok (.getfield 183, 3) := by decide +kernel
theorem dX6_type_36 : decode cX6_type 36 = .ok (.ireturn, 1) := by decide +kernel
theorem dX6_clearText_0 : decode cX6_clearText 0 = .ok (.aload_n 0, 1) := by decide +kernel
theorem dX6_clearText_1 : decode cX6_clearText 1 = .ok (.getfield 183, 3) := by decide +kernel
theorem dX6_clearText_4 : decode cX6_clearText 4 = .ok (.istore_n 1, 1) := by decide +kernel
theorem dX6_clearText_5 : decode cX6_clearText 5 = .ok (.aload_n 0, 1) := by decide +kernel
theorem dX6_clearText_6 : decode cX6_clearText 6 = .ok (.iconst 0, 1) := by decide +kernel
theorem dX6_clearText_7 : decode cX6_clearText 7 = .ok (.putfield 183, 3) := by decide +kernel
theorem dX6_clearText_10 : decode cX6_clearText 10 = .ok (.iload_n 1, 1) := by decide +kernel
theorem dX6_clearText_11 : decode cX6_clearText 11 = .ok (.ireturn, 1) := by decide +kernel
theorem dX6_letter_0 : decode cX6_letter 0 = .ok (.iload_n 1, 1) := by decide +kernel
theorem dX6_letter_1 : decode cX6_letter 1 = .ok (.aload_n 0, 1) := by decide +kernel
theorem dX6_letter_2 : decode cX6_letter 2 = .ok (.getfield 183, 3) := by decide +kernel
theorem dX6_letter_5 : decode cX6_letter 5 = .ok (.if_icmp .ge 12, 3) := by decide +kernel
theorem dX6_letter_8 : decode cX6_letter 8 = .ok (.aload_n 0, 1) := by decide +kernel
theorem dX6_letter_9 : decode cX6_letter 9 = .ok (.getfield 25, 3) := by decide +kernel
theorem dX6_letter_12 : decode cX6_letter 12 = .ok (.iload_n 1, 1) := by decide +kernel
theorem dX6_letter_13 : decode cX6_letter 13 = .ok (.caload, 1) := by decide +kernel
theorem dX6_letter_14 : decode cX6_letter 14 = .ok (.goto 4, 3) := by decide +kernel
theorem dX6_letter_17 : decode cX6_letter 17 = .ok (.iconst (-1), 1) := by decide +kernel
theorem dX6_letter_18 : decode cX6_letter 18 = .ok (.ireturn, 1) := by decide +kernel
theorem dX6_isSmall_0 : decode cX6_isSmall 0 = .ok (.iload_n 0, 1) := by decide +kernel
theorem dX6_isSmall_1 : decode cX6_isSmall 1 = .ok (.bipush 97, 2) := by decide +kernel
theorem dX6_isSmall_3 : decode cX6_isSmall 3 = .ok (.if_icmp .lt 13, 3) := by decide +kernel
theorem dX6_isSmall_6 : decode cX6_isSmall 6 = .ok (.iload_n 0, 1) := by decide +kernel
theorem dX6_isSmall_7 : decode cX6_isSmall 7 = .ok (.bipush 122, 2) := by decide +kernel
theorem dX6_isSmall_9 : decode cX6_isSmall 9 = .ok (.if_icmp .gt 7, 3) := by decide +kernel
theorem dX6_isSmall_12 : decode cX6_isSmall 12 = .ok (.iconst 1, 1) := by decide +kernel
theorem dX6_isSmall_13 : decode cX6_isSmall 13 = .ok (.goto 4, 3) := by decide +kernel
theorem dX6_isSmall_16 : decode cX6_isSmall 16 = .ok (.iconst 0, 1) := by decide +kernel
theorem dX6_isSmall_17 : decode cX6_isSmall 17 = .ok (.ireturn, 1) := by decide +kernel
theorem dX6_isDigit_0 : decode cX6_isDigit 0 = .ok (.iload_n 0, 1) := by decide +kernel
theorem dX6_isDigit_1 : decode cX6_isDigit 1 = .ok (.bipush 48, 2) := by decide +kernel
theorem dX6_isDigit_3 : decode cX6_isDigit 3 = .ok (.if_icmp .lt 13, 3) := by decide +kernel
theorem dX6_isDigit_6 : decode cX6_isDigit 6 = .ok (.iload_n 0, 1) := by decide +kernel
theorem dX6_isDigit_7 : decode cX6_isDigit 7 = .ok (.bipush 57, 2) := by decide +kernel
theorem dX6_isDigit_9 : decode cX6_isDigit 9 = .ok (.if_icmp .gt 7, 3) := by decide +kernel
theorem dX6_isDigit_12 : decode cX6_isDigit 12 = .ok (.iconst 1, 1) := by decide +kernel
theorem dX6_isDigit_13 : decode cX6_isDigit 13 = .ok (.goto 4, 3) := by decide +kernel
theorem dX6_isDigit_16 : decode cX6_isDigit 16 = .ok (.iconst 0, 1) := by decide +kernel
theorem dX6_isDigit_17 : decode cX6_isDigit 17 = .ok (.ireturn, 1) := by decide +kernel
theorem dX6_isWord_0 : decode cX6_isWord 0 = .ok (.iload_n 1, 1) := by decide +kernel
theorem dX6_isWord_1 : decode cX6_isWord 1 = .ok (.tableswitch 274 0 5 #[39, 64, 100, 140, 187, 227], 39) := by decide +kernel
theorem dX6_isWord_40 : decode cX6_isWord 40 = .ok (.iload_n 2, 1) := by decide +kernel
theorem dX6_isWord_41 : decode cX6_isWord 41 = .ok (.iconst 3, 1) := by decide +kernel
theorem dX6_isWord_42 : decode cX6_isWord 42 = .ok (.if_icmp .ne 21, 3) := by decide +kernel
theorem dX6_isWord_45 : decode cX6_isWord 45 = .ok (.aload_n 0, 1) := by decide +kernel
theorem dX6_isWord_46 : decode cX6_isWord 46 = .ok (.bipush 97, 2) := by decide +kernel
theorem dX6_isWord_48 : decode cX6_isWord 48 = .ok (.bipush 100, 2) := by decide +kernel
theorem dX6_isWord_50 : decode cX6_isWord 50 = .ok (.bipush 100, 2) := by decide +kernel
theorem dX6_isWord_52 : decode cX6_isWord 52 = .ok (.iconst 0, 1) := by decide +kernel
theorem dX6_isWord_53 : decode cX6_isWord 53 = .ok (.invokevirtual 186, 3) := by decide +kernel
theorem dX6_isWord_56 : decode cX6_isWord 56 = .ok (.ifCond .eq 7, 3) := by decide +kernel
theorem dX6_isWord_59 : decode cX6_isWord 59 = .ok (.iconst 1, 1) := by decide +kernel
theorem dX6_isWord_60 : decode cX6_isWord 60 = .ok (.goto 4, 3) := by decide +kernel
theorem dX6_isWord_63 : decode cX6_isWord 63 = .ok (.iconst 0, 1) := by decide +kernel
theorem dX6_isWord_64 : decode cX6_isWord 64 = .ok (.ireturn, 1) := by decide +kernel
theorem dX6_isWord_65 : decode cX6_isWord 65 = .ok (.iload_n 2, 1) := by decide +kernel
theorem dX6_isWord_66 : decode cX6_isWord 66 = .ok (.iconst 4, 1) := by decide +kernel
theorem dX6_isWord_67 : decode cX6_isWord 67 = .ok (.if_icmp .ne 32, 3) := by decide +kernel
theorem dX6_isWord_70 : decode cX6_isWord 70 = .ok (.aload_n 0, 1) := by decide +kernel
theorem dX6_isWord_71 : decode cX6_isWord 71 = .ok (.bipush 100, 2) := by decide +kernel
theorem dX6_isWord_73 : decode cX6_isWord 73 = .ok (.bipush 114, 2) := by decide +kernel
theorem dX6_isWord_75 : decode cX6_isWord 75 = .ok (.bipush 111, 2) := by decide +kernel
theorem dX6_isWord_77 : decode cX6_isWord 77 = .ok (.iconst 0, 1) := by decide +kernel
theorem dX6_isWord_78 : decode cX6_isWord 78 = .ok (.invokevirtual 186, 3) := by decide +kernel
theorem dX6_isWord_81 : decode cX6_isWord 81 = .ok (.ifCond .eq 18, 3) := by decide +kernel
theorem dX6_isWord_84 : decode cX6_isWord 84 = .ok (.aload_n 0, 1) := by decide +kernel
theorem dX6_isWord_85 : decode cX6_isWord 85 = .ok (.getfield 25, 3) := by decide +kernel
theorem dX6_isWord_88 : decode cX6_isWord 88 = .ok (.iconst 3, 1) := by decide +kernel
theorem dX6_isWord_89 : decode cX6_isWord 89 = .ok (.caload, 1) := by decide +kernel
theorem dX6_isWord_90 : decode cX6_isWord 90 = .ok (.bipush 112, 2) := by decide +kernel
theorem dX6_isWord_92 : decode cX6_isWord 92 = .ok (.if_icmp .ne 7, 3) := by decide +kernel
theorem dX6_isWord_95 : decode cX6_isWord 95 = .ok (.iconst 1, 1) := by decide +kernel
theorem dX6_isWord_96 : decode cX6_isWord 96 = .ok (.goto 4, 3) := by decide +kernel
theorem dX6_isWord_99 : decode cX6_isWord 99 = .ok (.iconst 0, 1) := by decide +kernel
theorem dX6_isWord_100 : decode cX6_isWord 100 = .ok (.ireturn, 1) := by decide +kernel
theorem dX6_isWord_101 : decode cX6_isWord 101 = .ok (.iload_n 2, 1) := by decide +kernel
theorem dX6_isWord_102 : decode cX6_isWord 102 = .ok (.bipush 6, 2) := by decide +kernel
theorem dX6_isWord_104 : decode cX6_isWord 104 = .ok (.if_icmp .ne 35, 3) := by decide +kernel
theorem dX6_isWord_107 : decode cX6_isWord 107 = .ok (.aload_n 0, 1) := by decide +kernel
theorem dX6_isWord_108 : decode cX6_isWord 108 = .ok (.bipush 119, 2) := by decide +kernel
theorem dX6_isWord_110 : decode cX6_isWord 110 = .ok (.bipush 101, 2) := by decide +kernel
theorem dX6_isWord_112 : decode cX6_isWord 112 = .ok (.bipush 105, 2) := by decide +kernel
theorem dX6_isWord_114 : decode cX6_isWord 114 = .ok (.iconst 0, 1) := by decide +kernel
theorem dX6_isWord_115 : decode cX6_isWord 115 = .ok (.invokevirtual 186, 3) := by decide +kernel
theorem dX6_isWord_118 : decode cX6_isWord 118 = .ok (.ifCond .eq 21, 3) := by decide +kernel
theorem dX6_isWord_121 : decode cX6_isWord 121 = .ok (.aload_n 0, 1) := by decide +kernel
theorem dX6_isWord_122 : decode cX6_isWord 122 = .ok (.bipush 103, 2) := by decide +kernel
theorem dX6_isWord_124 : decode cX6_isWord 124 = .ok (.bipush 104, 2) := by decide +kernel
theorem dX6_isWord_126 : decode cX6_isWord 126 = .ok (.bipush 116, 2) := by decide +kernel
theorem dX6_isWord_128 : decode cX6_isWord 128 = .ok (.iconst 3, 1) := by decide +kernel
theorem dX6_isWord_129 : decode cX6_isWord 129 = .ok (.invokevirtual 186, 3) := by decide +kernel
theorem dX6_isWord_132 : decode cX6_isWord 132 = .ok (.ifCond .eq 7, 3) := by decide +kernel
theorem dX6_isWord_135 : decode cX6_isWord 135 = .ok (.iconst 1, 1) := by decide +kernel
theorem dX6_isWord_136 : decode cX6_isWord 136 = .ok (.goto 4, 3) := by decide +kernel
theorem dX6_isWord_139 : decode cX6_isWord 139 = .ok (.iconst 0, 1) := by decide +kernel
theorem dX6_isWord_140 : decode cX6_isWord 140 = .ok (.ireturn, 1) := by decide +kernel
theorem dX6_isWord_141 : decode cX6_isWord 141 = .ok (.iload_n 2, 1) := by decide +kernel
theorem dX6_isWord_142 : decode cX6_isWord 142 = .ok (.iconst 5, 1) := by decide +kernel
theorem dX6_isWord_143 : decode cX6_isWord 143 = .ok (.if_icmp .ne 43, 3) := by decide +kernel
theorem dX6_isWord_146 : decode cX6_isWord 146 = .ok (.aload_n 0, 1) := by decide +kernel
theorem dX6_isWord_147 : decode cX6_isWord 147 = .ok (.bipush 98, 2) := by decide +kernel
theorem dX6_isWord_149 : decode cX6_isWord 149 = .ok (.bipush 114, 2) := by decide +kernel
theorem dX6_isWord_151 : decode cX6_isWord 151 = .ok (.bipush 105, 2) := by decide +kernel
theorem dX6_isWord_153 : decode cX6_isWord 153 = .ok (.iconst 0, 1) := by decide +kernel
theorem dX6_isWord_154 : decode cX6_isWord 154 = .ok (.invokevirtual 186, 3) := by decide +kernel
theorem dX6_isWord_157 : decode cX6_isWord 157 = .ok (.ifCond .eq 29, 3) := by decide +kernel
theorem dX6_isWord_160 : decode cX6_isWord 160 = .ok (.aload_n 0, 1) := by decide +kernel
theorem dX6_isWord_161 : decode cX6_isWord 161 = .ok (.getfield 25, 3) := by decide +kernel
theorem dX6_isWord_164 : decode cX6_isWord 164 = .ok (.iconst 3, 1) := by decide +kernel
theorem dX6_isWord_165 : decode cX6_isWord 165 = .ok (.caload, 1) := by decide +kernel
theorem dX6_isWord_166 : decode cX6_isWord 166 = .ok (.bipush 98, 2) := by decide +kernel
theorem dX6_isWord_168 : decode cX6_isWord 168 = .ok (.if_icmp .ne 18, 3) := by decide +kernel
theorem dX6_isWord_171 : decode cX6_isWord 171 = .ok (.aload_n 0, 1) := by decide +kernel
theorem dX6_isWord_172 : decode cX6_isWord 172 = .ok (.getfield 25, 3) := by decide +kernel
theorem dX6_isWord_175 : decode cX6_isWord 175 = .ok (.iconst 4, 1) := by decide +kernel
theorem dX6_isWord_176 : decode cX6_isWord 176 = .ok (.caload, 1) := by decide +kernel
theorem dX6_isWord_177 : decode cX6_isWord 177 = .ok (.bipush 101, 2) := by decide +kernel
theorem dX6_isWord_179 : decode cX6_isWord 179 = .ok (.if_icmp .ne 7, 3) := by decide +kernel
theorem dX6_isWord_182 : decode cX6_isWord 182 = .ok (.iconst 1, 1) := by decide +kernel
theorem dX6_isWord_183 : decode cX6_isWord 183 = .ok (.goto 4, 3) := by decide +kernel
theorem dX6_isWord_186 : decode cX6_isWord 186 = .ok (.iconst 0, 1) := by decide +kernel
theorem dX6_isWord_187 : decode cX6_isWord 187 = .ok (.ireturn, 1) := by decide +kernel
theorem dX6_isWord_188 : decode cX6_isWord 188 = .ok (.iload_n 2, 1) := by decide +kernel
theorem dX6_isWord_189 : decode cX6_isWord 189 = .ok (.bipush 6, 2) := by decide +kernel
theorem dX6_isWord_191 : decode cX6_isWord 191 = .ok (.if_icmp .ne 35, 3) := by decide +kernel
theorem dX6_isWord_194 : decode cX6_isWord 194 = .ok (.aload_n 0, 1) := by decide +kernel
theorem dX6_isWord_195 : decode cX6_isWord 195 = .ok (.bipush 100, 2) := by decide +kernel
theorem dX6_isWord_197 : decode cX6_isWord 197 = .ok (.bipush 101, 2) := by decide +kernel
theorem dX6_isWord_199 : decode cX6_isWord 199 = .ok (.bipush 108, 2) := by decide +kernel
theorem dX6_isWord_201 : decode cX6_isWord 201 = .ok (.iconst 0, 1) := by decide +kernel
theorem dX6_isWord_202 : decode cX6_isWord 202 = .ok (.invokevirtual 186, 3) := by decide +kernel
theorem dX6_isWord_205 : decode cX6_isWord 205 = .ok (.ifCond .eq 21, 3) := by decide +kernel
theorem dX6_isWord_208 : decode cX6_isWord 208 = .ok (.aload_n 0, 1) := by decide +kernel
theorem dX6_isWord_209 : decode cX6_isWord 209 = .ok (.bipush 101, 2) := by decide +kernel
theorem dX6_isWord_211 : decode cX6_isWord 211 = .ok (.bipush 116, 2) := by decide +kernel
theorem dX6_isWord_213 : decode cX6_isWord 213 = .ok (.bipush 101, 2) := by decide +kernel
theorem dX6_isWord_215 : decode cX6_isWord 215 = .ok (.iconst 3, 1) := by decide +kernel
theorem dX6_isWord_216 : decode cX6_isWord 216 = .ok (.invokevirtual 186, 3) := by decide +kernel
theorem dX6_isWord_219 : decode cX6_isWord 219 = .ok (.ifCond .eq 7, 3) := by decide +kernel
theorem dX6_isWord_222 : decode cX6_isWord 222 = .ok (.iconst 1, 1) := by decide +kernel
theorem dX6_isWord_223 : decode cX6_isWord 223 = .ok (.goto 4, 3) := by decide +kernel
theorem dX6_isWord_226 : decode cX6_isWord 226 = .ok (.iconst 0, 1) := by decide +kernel
theorem dX6_isWord_227 : decode cX6_isWord 227 = .ok (.ireturn, 1) := by decide +kernel
theorem dX6_isWord_228 : decode cX6_isWord 228 = .ok (.iload_n 2, 1) := by decide +kernel
theorem dX6_isWord_229 : decode cX6_isWord 229 = .ok (.iconst 5, 1) := by decide +kernel
theorem dX6_isWord_230 : decode cX6_isWord 230 = .ok (.if_icmp .ne 43, 3) := by decide +kernel
theorem dX6_isWord_233 : decode cX6_isWord 233 = .ok (.aload_n 0, 1) := by decide +kernel
theorem dX6_isWord_234 : decode cX6_isWord 234 = .ok (.bipush 98, 2) := by decide +kernel
theorem dX6_isWord_236 : decode cX6_isWord 236 = .ok (.bipush 114, 2) := by decide +kernel
theorem dX6_isWord_238 : decode cX6_isWord 238 = .ok (.bipush 105, 2) := by decide +kernel
theorem dX6_isWord_240 : decode cX6_isWord 240 = .ok (.iconst 0, 1) := by decide +kernel
theorem dX6_isWord_241 : decode cX6_isWord 241 = .ok (.invokevirtual 186, 3) := by decide +kernel
theorem dX6_isWord_244 : decode cX6_isWord 244 = .ok (.ifCond .eq 29, 3) := by decide +kernel
theorem dX6_isWord_247 : decode cX6_isWord 247 = .ok (.aload_n 0, 1) := by decide +kernel
theorem dX6_isWord_248 : decode cX6_isWord 248 = .ok (.getfield 25, 3) := by decide +kernel
theorem dX6_isWord_251 : decode cX6_isWord 251 = .ok (.iconst 3, 1) := by decide +kernel
theorem dX6_isWord_252 : decode cX6_isWord 252 = .ok (.caload, 1) := by decide +kernel
theorem dX6_isWord_253 : decode cX6_isWord 253 = .ok (.bipush 110, 2) := by decide +kernel
theorem dX6_isWord_255 : decode cX6_isWord 255 = .ok (.if_icmp .ne 18, 3) := by decide +kernel
theorem dX6_isWord_258 : decode cX6_isWord 258 = .ok (.aload_n 0, 1) := by decide +kernel
theorem dX6_isWord_259 : decode cX6_isWord 259 = .ok (.getfield 25, 3) := by decide +kernel
theorem dX6_isWord_262 : decode cX6_isWord 262 = .ok (.iconst 4, 1) := by decide +kernel
theorem dX6_isWord_263 : decode cX6_isWord 263 = .ok (.caload, 1) := by decide +kernel
theorem dX6_isWord_264 : decode cX6_isWord 264 = .ok (.bipush 103, 2) := by decide +kernel
theorem dX6_isWord_266 : decode cX6_isWord 266 = .ok (.if_icmp .ne 7, 3) := by decide +kernel
theorem dX6_isWord_269 : decode cX6_isWord 269 = .ok (.iconst 1, 1) := by decide +kernel
theorem dX6_isWord_270 : decode cX6_isWord 270 = .ok (.goto 4, 3) := by decide +kernel
theorem dX6_isWord_273 : decode cX6_isWord 273 = .ok (.iconst 0, 1) := by decide +kernel
theorem dX6_isWord_274 : decode cX6_isWord 274 = .ok (.ireturn, 1) := by decide +kernel
theorem dX6_isWord_275 : decode cX6_isWord 275 = .ok (.iload_n 2, 1) := by decide +kernel
theorem dX6_isWord_276 : decode cX6_isWord 276 = .ok (.iconst 4, 1) := by decide +kernel
theorem dX6_isWord_277 : decode cX6_isWord 277 = .ok (.if_icmp .ne 32, 3) := by decide +kernel
theorem dX6_isWord_280 : decode cX6_isWord 280 = .ok (.aload_n 0, 1) := by decide +kernel
theorem dX6_isWord_281 : decode cX6_isWord 281 = .ok (.bipush 119, 2) := by decide +kernel
theorem dX6_isWord_283 : decode cX6_isWord 283 = .ok (.bipush 97, 2) := by decide +kernel
theorem dX6_isWord_285 : decode cX6_isWord 285 = .ok (.bipush 110, 2) := by decide +kernel
theorem dX6_isWord_287 : decode cX6_isWord 287 = .ok (.iconst 0, 1) := by decide +kernel
theorem dX6_isWord_288 : decode cX6_isWord 288 = .ok (.invokevirtual 186, 3) := by decide +kernel
theorem dX6_isWord_291 : decode cX6_isWord 291 = .ok (.ifCond .eq 18, 3) := by decide +kernel
theorem dX6_isWord_294 : decode cX6_isWord 294 = .ok (.aload_n 0, 1) := by decide +kernel
theorem dX6_isWord_295 : decode cX6_isWord 295 = .ok (.getfield 25, 3) := by decide +kernel
theorem dX6_isWord_298 : decode cX6_isWord 298 = .ok (.iconst 3, 1) := by decide +kernel
theorem dX6_isWord_299 : decode cX6_isWord 299 = .ok (.caload, 1) := by decide +kernel
theorem dX6_isWord_300 : decode cX6_isWord 300 = .ok (.bipush 116, 2) := by decide +kernel
theorem dX6_isWord_302 : decode cX6_isWord 302 = .ok (.if_icmp .ne 7, 3) := by decide +kernel
theorem dX6_isWord_305 : decode cX6_isWord 305 = .ok (.iconst 1, 1) := by decide +kernel
theorem dX6_isWord_306 : decode cX6_isWord 306 = .ok (.goto 4, 3) := by decide +kernel
theorem dX6_isWord_309 : decode cX6_isWord 309 = .ok (.iconst 0, 1) := by decide +kernel
theorem dX6_isWord_310 : decode cX6_isWord 310 = .ok (.ireturn, 1) := by decide +kernel
theorem dX6_spells_0 : decode cX6_spells 0 = .ok (.aload_n 0, 1) := by decide +kernel
theorem dX6_spells_1 : decode cX6_spells 1 = .ok (.getfield 25, 3) := by decide +kernel
theorem dX6_spells_4 : decode cX6_spells 4 = .ok (.iload 4, 2) := by decide +kernel
theorem dX6_spells_6 : decode cX6_spells 6 = .ok (.caload, 1) := by decide +kernel
theorem dX6_spells_7 : decode cX6_spells 7 = .ok (.iload_n 1, 1) := by decide +kernel
theorem dX6_spells_8 : decode cX6_spells 8 = .ok (.if_icmp .ne 33, 3) := by decide +kernel
theorem dX6_spells_11 : decode cX6_spells 11 = .ok (.aload_n 0, 1) := by decide +kernel
theorem dX6_spells_12 : decode cX6_spells 12 = .ok (.getfield 25, 3) := by decide +kernel
theorem dX6_spells_15 : decode cX6_spells 15 = .ok (.iload 4, 2) := by decide +kernel
theorem dX6_spells_17 : decode cX6_spells 17 = .ok (.iconst 1, 1) := by decide +kernel
theorem dX6_spells_18 : decode cX6_spells 18 = .ok (.iadd, 1) := by decide +kernel
theorem dX6_spells_19 : decode cX6_spells 19 = .ok (.caload, 1) := by decide +kernel
theorem dX6_spells_20 : decode cX6_spells 20 = .ok (.iload_n 2, 1) := by decide +kernel
theorem dX6_spells_21 : decode cX6_spells 21 = .ok (.if_icmp .ne 20, 3) := by decide +kernel
theorem dX6_spells_24 : decode cX6_spells 24 = .ok (.aload_n 0, 1) := by decide +kernel
theorem dX6_spells_25 : decode cX6_spells 25 = .ok (.getfield 25, 3) := by decide +kernel
theorem dX6_spells_28 : decode cX6_spells 28 = .ok (.iload 4, 2) := by decide +kernel
theorem dX6_spells_30 : decode cX6_spells 30 = .ok (.iconst 2, 1) := by decide +kernel
theorem dX6_spells_31 : decode cX6_spells 31 = .ok (.iadd, 1) := by decide +kernel
theorem dX6_spells_32 : decode cX6_spells 32 = .ok (.caload, 1) := by decide +kernel
theorem dX6_spells_33 : decode cX6_spells 33 = .ok (.iload_n 3, 1) := by decide +kernel
theorem dX6_spells_34 : decode cX6_spells 34 = .ok (.if_icmp .ne 7, 3) := by decide +kernel
theorem dX6_spells_37 : decode cX6_spells 37 = .ok (.iconst 1, 1) := by decide +kernel
theorem dX6_spells_38 : decode cX6_spells 38 = .ok (.goto 4, 3) := by decide +kernel
theorem dX6_spells_41 : decode cX6_spells 41 = .ok (.iconst 0, 1) := by decide +kernel
theorem dX6_spells_42 : decode cX6_spells 42 = .ok (.ireturn, 1) := by decide +kernel
theorem dX6_readNumber_0 : decode cX6_readNumber 0 = .ok (.aload_n 0, 1) := by decide +kernel
theorem dX6_readNumber_1 : decode cX6_readNumber 1 = .ok (.aload_n 0, 1) := by decide +kernel
theorem dX6_readNumber_2 : decode cX6_readNumber 2 = .ok (.aload_n 0, 1) := by decide +kernel
theorem dX6_readNumber_3 : decode cX6_readNumber 3 = .ok (.getfield 190, 3) := by decide +kernel
theorem dX6_readNumber_6 : decode cX6_readNumber 6 = .ok (.invokevirtual 193, 3) := by decide +kernel
theorem dX6_readNumber_9 : decode cX6_readNumber 9 = .ok (.bipush 32, 2) := by decide +kernel
theorem dX6_readNumber_11 : decode cX6_readNumber 11 = .ok (.if_icmp .eq 7, 3) := by decide +kernel
theorem dX6_readNumber_14 : decode cX6_readNumber 14 = .ok (.iconst 1, 1) := by decide +kernel
theorem dX6_readNumber_15 : decode cX6_readNumber 15 = .ok (.goto 4, 3) := by decide +kernel
theorem dX6_readNumber_18 : decode cX6_readNumber 18 = .ok (.iconst 0, 1) := by decide +kernel
theorem dX6_readNumber_19 : decode cX6_readNumber 19 = .ok (.putfield 196, 3) := by decide +kernel
theorem dX6_readNumber_22 : decode cX6_readNumber 22 = .ok (.aload_n 0, 1) := by decide +kernel
theorem dX6_readNumber_23 : decode cX6_readNumber 23 = .ok (.getfield 196, 3) := by decide +kernel
theorem dX6_readNumber_26 : decode cX6_readNumber 26 = .ok (.ifCond .eq 4, 3) := by decide +kernel
theorem dX6_readNumber_29 : decode cX6_readNumber 29 = .ok (.return_, 1) := by decide +kernel
theorem dX6_readNumber_30 : decode cX6_readNumber 30 = .ok (.aload_n 0, 1) := by decide +kernel
theorem dX6_readNumber_31 : decode cX6_readNumber 31 = .ok (.dup, 1) := by decide +kernel
theorem dX6_readNumber_32 : decode cX6_readNumber 32 = .ok (.getfield 190, 3) := by decide +kernel
theorem dX6_readNumber_35 : decode cX6_readNumber 35 = .ok (.iconst 1, 1) := by decide +kernel
theorem dX6_readNumber_36 : decode cX6_readNumber 36 = .ok (.iadd, 1) := by decide +kernel
theorem dX6_readNumber_37 : decode cX6_readNumber 37 = .ok (.putfield 190, 3) := by decide +kernel
theorem dX6_readNumber_40 : decode cX6_readNumber 40 = .ok (.aload_n 0, 1) := by decide +kernel
theorem dX6_readNumber_41 : decode cX6_readNumber 41 = .ok (.aload_n 0, 1) := by decide +kernel
theorem dX6_readNumber_42 : decode cX6_readNumber 42 = .ok (.aload_n 0, 1) := by decide +kernel
theorem dX6_readNumber_43 : decode cX6_readNumber 43 = .ok (.getfield 190, 3) := by decide +kernel
theorem dX6_readNumber_46 : decode cX6_readNumber 46 = .ok (.invokevirtual 193, 3) := by decide +kernel
theorem dX6_readNumber_49 : decode cX6_readNumber 49 = .ok (.invokestatic 199, 3) := by decide +kernel
theorem dX6_readNumber_52 : decode cX6_readNumber 52 = .ok (.ifCond .ne 7, 3) := by decide +kernel
theorem dX6_readNumber_55 : decode cX6_readNumber 55 = .ok (.iconst 1, 1) := by decide +kernel
theorem dX6_readNumber_56 : decode cX6_readNumber 56 = .ok (.goto 4, 3) := by decide +kernel
theorem dX6_readNumber_59 : decode cX6_readNumber 59 = .ok (.iconst 0, 1) := by decide +kernel
theorem dX6_readNumber_60 : decode cX6_readNumber 60 = .ok (.putfield 196, 3) := by decide +kernel
theorem dX6_readNumber_63 : decode cX6_readNumber 63 = .ok (.aload_n 0, 1) := by decide +kernel
theorem dX6_readNumber_64 : decode cX6_readNumber 64 = .ok (.getfield 196, 3) := by decide +kernel
theorem dX6_readNumber_67 : decode cX6_readNumber 67 = .ok (.ifCond .eq 4, 3) := by decide +kernel
theorem dX6_readNumber_70 : decode cX6_readNumber 70 = .ok (.return_, 1) := by decide +kernel
theorem dX6_readNumber_71 : decode cX6_readNumber 71 = .ok (.iconst 0, 1) := by decide +kernel
theorem dX6_readNumber_72 : decode cX6_readNumber 72 = .ok (.istore_n 2, 1) := by decide +kernel
theorem dX6_readNumber_73 : decode cX6_readNumber 73 = .ok (.iconst 0, 1) := by decide +kernel
theorem dX6_readNumber_74 : decode cX6_readNumber 74 = .ok (.istore_n 3, 1) := by decide +kernel
theorem dX6_readNumber_75 : decode cX6_readNumber 75 = .ok (.iconst 1, 1) := by decide +kernel
theorem dX6_readNumber_76 : decode cX6_readNumber 76 = .ok (.istore 4, 2) := by decide +kernel
theorem dX6_readNumber_78 : decode cX6_readNumber 78 = .ok (.iload 4, 2) := by decide +kernel
theorem dX6_readNumber_80 : decode cX6_readNumber 80 = .ok (.ifCond .eq 66, 3) := by decide +kernel
theorem dX6_readNumber_83 : decode cX6_readNumber 83 = .ok (.iload_n 3, 1) := by decide +kernel
theorem dX6_readNumber_84 : decode cX6_readNumber 84 = .ok (.iconst 3, 1) := by decide +kernel
theorem dX6_readNumber_85 : decode cX6_readNumber 85 = .ok (.if_icmp .ge 61, 3) := by decide +kernel
theorem dX6_readNumber_88 : decode cX6_readNumber 88 = .ok (.bipush 10, 2) := by decide +kernel
theorem dX6_readNumber_90 : decode cX6_readNumber 90 = .ok (.iload_n 2, 1) := by decide +kernel
theorem dX6_readNumber_91 : decode cX6_readNumber 91 = .ok (.imul, 1) := by decide +kernel
theorem dX6_readNumber_92 : decode cX6_readNumber 92 = .ok (.aload_n 0, 1) := by decide +kernel
theorem dX6_readNumber_93 : decode cX6_readNumber 93 = .ok (.aload_n 0, 1) := by decide +kernel
theorem dX6_readNumber_94 : decode cX6_readNumber 94 = .ok (.getfield 190, 3) := by decide +kernel
theorem dX6_readNumber_97 : decode cX6_readNumber 97 = .ok (.invokevirtual 193, 3) := by decide +kernel
theorem dX6_readNumber_100 : decode cX6_readNumber 100 = .ok (.iadd, 1) := by decide +kernel
theorem dX6_readNumber_101 : decode cX6_readNumber 101 = .ok (.bipush 48, 2) := by decide +kernel
theorem dX6_readNumber_103 : decode cX6_readNumber 103 = .ok (.isub, 1) := by decide +kernel
theorem dX6_readNumber_104 : decode cX6_readNumber 104 = .ok (.istore_n 2, 1) := by decide +kernel
theorem dX6_readNumber_105 : decode cX6_readNumber 105 = .ok (.aload_n 0, 1) := by decide +kernel
theorem dX6_readNumber_106 : decode cX6_readNumber 106 = .ok (.dup, 1) := by decide +kernel
theorem dX6_readNumber_107 : decode cX6_readNumber 107 = .ok (.getfield 190, 3) := by decide +kernel
theorem dX6_readNumber_110 : decode cX6_readNumber 110 = .ok (.iconst 1, 1) := by decide +kernel
theorem dX6_readNumber_111 : decode cX6_readNumber 111 = .ok (.iadd, 1) := by decide +kernel
theorem dX6_readNumber_112 : decode cX6_readNumber 112 = .ok (.putfield 190, 3) := by decide +kernel
theorem dX6_readNumber_115 : decode cX6_readNumber 115 = .ok (.iinc 3 1, 3) := by decide +kernel
theorem dX6_readNumber_118 : decode cX6_readNumber 118 = .ok (.iload_n 2, 1) := by decide +kernel
theorem dX6_readNumber_119 : decode cX6_readNumber 119 = .ok (.ifCond .le 21, 3) := by decide +kernel
theorem dX6_readNumber_122 : decode cX6_readNumber 122 = .ok (.aload_n 0, 1) := by decide +kernel
theorem dX6_readNumber_123 : decode cX6_readNumber 123 = .ok (.aload_n 0, 1) := by decide +kernel
theorem dX6_readNumber_124 : decode cX6_readNumber 124 = .ok (.getfield 190, 3) := by decide +kernel
theorem dX6_readNumber_127 : decode cX6_readNumber 127 = .ok (.invokevirtual 193, 3) := by decide +kernel
theorem dX6_readNumber_130 : decode cX6_readNumber 130 = .ok (.invokestatic 199, 3) := by decide +kernel
theorem dX6_readNumber_133 : decode cX6_readNumber 133 = .ok (.ifCond .eq 7, 3) := by decide +kernel
theorem dX6_readNumber_136 : decode cX6_readNumber 136 = .ok (.iconst 1, 1) := by decide +kernel
theorem dX6_readNumber_137 : decode cX6_readNumber 137 = .ok (.goto 4, 3) := by decide +kernel
theorem dX6_readNumber_140 : decode cX6_readNumber 140 = .ok (.iconst 0, 1) := by decide +kernel
theorem dX6_readNumber_141 : decode cX6_readNumber 141 = .ok (.istore 4, 2) := by decide +kernel
theorem dX6_readNumber_143 : decode cX6_readNumber 143 = .ok (.goto (-65), 3) := by decide +kernel
theorem dX6_readNumber_146 : decode cX6_readNumber 146 = .ok (.aload_n 0, 1) := by decide +kernel
theorem dX6_readNumber_147 : decode cX6_readNumber 147 = .ok (.getfield 29, 3) := by decide +kernel
theorem dX6_readNumber_150 : decode cX6_readNumber 150 = .ok (.iload_n 1, 1) := by decide +kernel
theorem dX6_readNumber_151 : decode cX6_readNumber 151 = .ok (.iload_n 2, 1) := by decide +kernel
theorem dX6_readNumber_152 : decode cX6_readNumber 152 = .ok (.iastore, 1) := by decide +kernel
theorem dX6_readNumber_153 : decode cX6_readNumber 153 = .ok (.return_, 1) := by decide +kernel
theorem dX6_perform_0 : decode cX6_perform 0 = .ok (.iconst 0, 1) := by decide +kernel
theorem dX6_perform_1 : decode cX6_perform 1 = .ok (.istore_n 1, 1) := by decide +kernel
theorem dX6_perform_2 : decode cX6_perform 2 = .ok (.iload_n 1, 1) := by decide +kernel
theorem dX6_perform_3 : decode cX6_perform 3 = .ok (.aload_n 0, 1) := by decide +kernel
theorem dX6_perform_4 : decode cX6_perform 4 = .ok (.getfield 183, 3) := by decide +kernel
theorem dX6_perform_7 : decode cX6_perform 7 = .ok (.if_icmp .ge 21, 3) := by decide +kernel
theorem dX6_perform_10 : decode cX6_perform 10 = .ok (.aload_n 0, 1) := by decide +kernel
theorem dX6_perform_11 : decode cX6_perform 11 = .ok (.getfield 25, 3) := by decide +kernel
theorem dX6_perform_14 : decode cX6_perform 14 = .ok (.iload_n 1, 1) := by decide +kernel
theorem dX6_perform_15 : decode cX6_perform 15 = .ok (.caload, 1) := by decide +kernel
theorem dX6_perform_16 : decode cX6_perform 16 = .ok (.invokestatic 202, 3) := by decide +kernel
theorem dX6_perform_19 : decode cX6_perform 19 = .ok (.ifCond .eq 9, 3) := by decide +kernel
theorem dX6_perform_22 : decode cX6_perform 22 = .ok (.iinc 1 1, 3) := by decide +kernel
theorem dX6_perform_25 : decode cX6_perform 25 = .ok (.goto (-23), 3) := by decide +kernel
theorem dX6_perform_28 : decode cX6_perform 28 = .ok (.iconst (-1), 1) := by decide +kernel
theorem dX6_perform_29 : decode cX6_perform 29 = .ok (.istore_n 2, 1) := by decide +kernel
theorem dX6_perform_30 : decode cX6_perform 30 = .ok (.iconst 0, 1) := by decide +kernel
theorem dX6_perform_31 : decode cX6_perform 31 = .ok (.istore_n 3, 1) := by decide +kernel
theorem dX6_perform_32 : decode cX6_perform 32 = .ok (.iload_n 3, 1) := by decide +kernel
theorem dX6_perform_33 : decode cX6_perform 33 = .ok (.bipush 7, 2) := by decide +kernel
theorem dX6_perform_35 : decode cX6_perform 35 = .ok (.if_icmp .ge 24, 3) := by decide +kernel
theorem dX6_perform_38 : decode cX6_perform 38 = .ok (.aload_n 0, 1) := by decide +kernel
theorem dX6_perform_39 : decode cX6_perform 39 = .ok (.iload_n 3, 1) := by decide +kernel
theorem dX6_perform_40 : decode cX6_perform 40 = .ok (.iload_n 1, 1) := by decide +kernel
theorem dX6_perform_41 : decode cX6_perform 41 = .ok (.invokevirtual 205, 3) := by decide +kernel
theorem dX6_perform_44 : decode cX6_perform 44 = .ok (.ifCond .eq 7, 3) := by decide +kernel
theorem dX6_perform_47 : decode cX6_perform 47 = .ok (.iload_n 3, 1) := by decide +kernel
theorem dX6_perform_48 : decode cX6_perform 48 = .ok (.goto 4, 3) := by decide +kernel
theorem dX6_perform_51 : decode cX6_perform 51 = .ok (.iload_n 2, 1) := by decide +kernel
theorem dX6_perform_52 : decode cX6_perform 52 = .ok (.istore_n 2, 1) := by decide +kernel
theorem dX6_perform_53 : decode cX6_perform 53 = .ok (.iinc 3 1, 3) := by decide +kernel
theorem dX6_perform_56 : decode cX6_perform 56 = .ok (.goto (-24), 3) := by decide +kernel
theorem dX6_perform_59 : decode cX6_perform 59 = .ok (.iload_n 2, 1) := by decide +kernel
theorem dX6_perform_60 : decode cX6_perform 60 = .ok (.ifCond .ge 6, 3) := by decide +kernel
theorem dX6_perform_63 : decode cX6_perform 63 = .ok (.bipush (-100), 2) := by decide +kernel
theorem dX6_perform_65 : decode cX6_perform 65 = .ok (.ireturn, 1) := by decide +kernel
theorem dX6_perform_66 : decode cX6_perform 66 = .ok (.aload_n 0, 1) := by decide +kernel
theorem dX6_perform_67 : decode cX6_perform 67 = .ok (.iload_n 1, 1) := by decide +kernel
theorem dX6_perform_68 : decode cX6_perform 68 = .ok (.putfield 190, 3) := by decide +kernel
theorem dX6_perform_71 : decode cX6_perform 71 = .ok (.aload_n 0, 1) := by decide +kernel
theorem dX6_perform_72 : decode cX6_perform 72 = .ok (.iconst 0, 1) := by decide +kernel
theorem dX6_perform_73 : decode cX6_perform 73 = .ok (.putfield 196, 3) := by decide +kernel
theorem dX6_perform_76 : decode cX6_perform 76 = .ok (.iload_n 2, 1) := by decide +kernel
theorem dX6_perform_77 : decode cX6_perform 77 = .ok (.ifCond .ne 7, 3) := by decide +kernel
theorem dX6_perform_80 : decode cX6_perform 80 = .ok (.iconst 3, 1) := by decide +kernel
theorem dX6_perform_81 : decode cX6_perform 81 = .ok (.goto 13, 3) := by decide +kernel
theorem dX6_perform_84 : decode cX6_perform 84 = .ok (.iload_n 2, 1) := by decide +kernel
theorem dX6_perform_85 : decode cX6_perform 85 = .ok (.iconst 4, 1) := by decide +kernel
theorem dX6_perform_86 : decode cX6_perform 86 = .ok (.if_icmp .ge 7, 3) := by decide +kernel
theorem dX6_perform_89 : decode cX6_perform 89 = .ok (.iconst 2, 1) := by decide +kernel
theorem dX6_perform_90 : decode cX6_perform 90 = .ok (.goto 4, 3) := by decide +kernel
theorem dX6_perform_93 : decode cX6_perform 93 = .ok (.iconst 1, 1) := by decide +kernel
theorem dX6_perform_94 : decode cX6_perform 94 = .ok (.istore_n 3, 1) := by decide +kernel
theorem dX6_perform_95 : decode cX6_perform 95 = .ok (.iconst 0, 1) := by decide +kernel
theorem dX6_perform_96 : decode cX6_perform 96 = .ok (.istore 4, 2) := by decide +kernel
theorem dX6_perform_98 : decode cX6_perform 98 = .ok (.iload 4, 2) := by decide +kernel
theorem dX6_perform_100 : decode cX6_perform 100 = .ok (.iload_n 3, 1) := by decide +kernel
theorem dX6_perform_101 : decode cX6_perform 101 = .ok (.if_icmp .ge 22, 3) := by decide +kernel
theorem dX6_perform_104 : decode cX6_perform 104 = .ok (.aload_n 0, 1) := by decide +kernel
theorem dX6_perform_105 : decode cX6_perform 105 = .ok (.getfield 196, 3) := by decide +kernel
theorem dX6_perform_108 : decode cX6_perform 108 = .ok (.ifCond .ne 15, 3) := by decide +kernel
theorem dX6_perform_111 : decode cX6_perform 111 = .ok (.aload_n 0, 1) := by decide +kernel
theorem dX6_perform_112 : decode cX6_perform 112 = .ok (.iload 4, 2) := by decide +kernel
theorem dX6_perform_114 : decode cX6_perform 114 = .ok (.invokevirtual 208, 3) := by decide +kernel
theorem dX6_perform_117 : decode cX6_perform 117 = .ok (.iinc 4 1, 3) := by decide +kernel
theorem dX6_perform_120 : decode cX6_perform 120 = .ok (.goto (-22), 3) := by decide +kernel
theorem dX6_perform_123 : decode cX6_perform 123 = .ok (.aload_n 0, 1) := by decide +kernel
theorem dX6_perform_124 : decode cX6_perform 124 = .ok (.getfield 196, 3) := by decide +kernel
theorem dX6_perform_127 : decode cX6_perform 127 = .ok (.ifCond .ne 14, 3) := by decide +kernel
theorem dX6_perform_130 : decode cX6_perform 130 = .ok (.aload_n 0, 1) := by decide +kernel
theorem dX6_perform_131 : decode cX6_perform 131 = .ok (.getfield 190, 3) := by decide +kernel
theorem dX6_perform_134 : decode cX6_perform 134 = .ok (.aload_n 0, 1) := by decide +kernel
theorem dX6_perform_135 : decode cX6_perform 135 = .ok (.getfield 183, 3) := by decide +kernel
theorem dX6_perform_138 : decode cX6_perform 138 = .ok (.if_icmp .ge 11, 3) := by decide +kernel
theorem dX6_perform_141 : decode cX6_perform 141 = .ok (.bipush (-100), 2) := by decide +kernel
theorem dX6_perform_143 : decode cX6_perform 143 = .ok (.aload_n 0, 1) := by decide +kernel
theorem dX6_perform_144 : decode cX6_perform 144 = .ok (.getfield 190, 3) := by decide +kernel
theorem dX6_perform_147 : decode cX6_perform 147 = .ok (.isub, 1) := by decide +kernel
theorem dX6_perform_148 : decode cX6_perform 148 = .ok (.ireturn, 1) := by decide +kernel
theorem dX6_perform_149 : decode cX6_perform 149 = .ok (.aload_n 0, 1) := by decide +kernel
theorem dX6_perform_150 : decode cX6_perform 150 = .ok (.iload_n 2, 1) := by decide +kernel
theorem dX6_perform_151 : decode cX6_perform 151 = .ok (.invokevirtual 212, 3) := by decide +kernel
theorem dX6_perform_154 : decode cX6_perform 154 = .ok (.ireturn, 1) := by decide +kernel
theorem dX6_does_0 : decode cX6_does 0 = .ok (.iload_n 1, 1) := by decide +kernel
theorem dX6_does_1 : decode cX6_does 1 = .ok (.tableswitch 135 0 5 #[39, 62, 79, 96, 113, 124], 39) := by decide +kernel
theorem dX6_does_40 : decode cX6_does 40 = .ok (.aload_n 0, 1) := by decide +kernel
theorem dX6_does_41 : decode cX6_does 41 = .ok (.aload_n 0, 1) := by decide +kernel
theorem dX6_does_42 : decode cX6_does 42 = .ok (.getfield 29, 3) := by decide +kernel
theorem dX6_does_45 : decode cX6_does 45 = .ok (.iconst 0, 1) := by decide +kernel
theorem dX6_does_46 : decode cX6_does 46 = .ok (.iaload, 1) := by decide +kernel
theorem dX6_does_47 : decode cX6_does 47 = .ok (.aload_n 0, 1) := by decide +kernel
theorem dX6_does_48 : decode cX6_does 48 = .ok (.getfield 29, 3) := by decide +kernel
theorem dX6_does_51 : decode cX6_does 51 = .ok (.iconst 1, 1) := by decide +kernel
theorem dX6_does_52 : decode cX6_does 52 = .ok (.iaload, 1) := by decide +kernel
theorem dX6_does_53 : decode cX6_does 53 = .ok (.aload_n 0, 1) := by decide +kernel
theorem dX6_does_54 : decode cX6_does 54 = .ok (.getfield 29, 3) := by decide +kernel
theorem dX6_does_57 : decode cX6_does 57 = .ok (.iconst 2, 1) := by decide +kernel
theorem dX6_does_58 : decode cX6_does 58 = .ok (.iaload, 1) := by decide +kernel
theorem dX6_does_59 : decode cX6_does 59 = .ok (.invokevirtual 215, 3) := by decide +kernel
theorem dX6_does_62 : decode cX6_does 62 = .ok (.ireturn, 1) := by decide +kernel
theorem dX6_does_63 : decode cX6_does 63 = .ok (.aload_n 0, 1) := by decide +kernel
theorem dX6_does_64 : decode cX6_does 64 = .ok (.aload_n 0, 1) := by decide +kernel
theorem dX6_does_65 : decode cX6_does 65 = .ok (.getfield 29, 3) := by decide +kernel
theorem dX6_does_68 : decode cX6_does 68 = .ok (.iconst 0, 1) := by decide +kernel
theorem dX6_does_69 : decode cX6_does 69 = .ok (.iaload, 1) := by decide +kernel
theorem dX6_does_70 : decode cX6_does 70 = .ok (.aload_n 0, 1) := by decide +kernel
theorem dX6_does_71 : decode cX6_does 71 = .ok (.getfield 29, 3) := by decide +kernel
theorem dX6_does_74 : decode cX6_does 74 = .ok (.iconst 1, 1) := by decide +kernel
theorem dX6_does_75 : decode cX6_does 75 = .ok (.iaload, 1) := by decide +kernel
theorem dX6_does_76 : decode cX6_does 76 = .ok (.invokevirtual 218, 3) := by decide +kernel
theorem dX6_does_79 : decode cX6_does 79 = .ok (.ireturn, 1) := by decide +kernel
theorem dX6_does_80 : decode cX6_does 80 = .ok (.aload_n 0, 1) := by decide +kernel
theorem dX6_does_81 : decode cX6_does 81 = .ok (.aload_n 0, 1) := by decide +kernel
theorem dX6_does_82 : decode cX6_does 82 = .ok (.getfield 29, 3) := by decide +kernel
theorem dX6_does_85 : decode cX6_does 85 = .ok (.iconst 0, 1) := by decide +kernel
theorem dX6_does_86 : decode cX6_does 86 = .ok (.iaload, 1) := by decide +kernel
theorem dX6_does_87 : decode cX6_does 87 = .ok (.aload_n 0, 1) := by decide +kernel
theorem dX6_does_88 : decode cX6_does 88 = .ok (.getfield 29, 3) := by decide +kernel
theorem dX6_does_91 : decode cX6_does 91 = .ok (.iconst 1, 1) := by decide +kernel
theorem dX6_does_92 : decode cX6_does 92 = .ok (.iaload, 1) := by decide +kernel
theorem dX6_does_93 : decode cX6_does 93 = .ok (.invokevirtual 221, 3) := by decide +kernel
theorem dX6_does_96 : decode cX6_does 96 = .ok (.ireturn, 1) := by decide +kernel
theorem dX6_does_97 : decode cX6_does 97 = .ok (.aload_n 0, 1) := by decide +kernel
theorem dX6_does_98 : decode cX6_does 98 = .ok (.aload_n 0, 1) := by decide +kernel
theorem dX6_does_99 : decode cX6_does 99 = .ok (.getfield 29, 3) := by decide +kernel
theorem dX6_does_102 : decode cX6_does 102 = .ok (.iconst 0, 1) := by decide +kernel
theorem dX6_does_103 : decode cX6_does 103 = .ok (.iaload, 1) := by decide +kernel
theorem dX6_does_104 : decode cX6_does 104 = .ok (.aload_n 0, 1) := by decide +kernel
theorem dX6_does_105 : decode cX6_does 105 = .ok (.getfield 29, 3) := by decide +kernel
theorem dX6_does_108 : decode cX6_does 108 = .ok (.iconst 1, 1) := by decide +kernel
theorem dX6_does_109 : decode cX6_does 109 = .ok (.iaload, 1) := by decide +kernel
theorem dX6_does_110 : decode cX6_does 110 = .ok (.invokevirtual 224, 3) := by decide +kernel
theorem dX6_does_113 : decode cX6_does 113 = .ok (.ireturn, 1) := by decide +kernel
theorem dX6_does_114 : decode cX6_does 114 = .ok (.aload_n 0, 1) := by decide +kernel
theorem dX6_does_115 : decode cX6_does 115 = .ok (.aload_n 0, 1) := by decide +kernel
theorem dX6_does_116 : decode cX6_does 116 = .ok (.getfield 29, 3) := by decide +kernel
theorem dX6_does_119 : decode cX6_does 119 = .ok (.iconst 0, 1) := by decide +kernel
theorem dX6_does_120 : decode cX6_does 120 = .ok (.iaload, 1) := by decide +kernel
theorem dX6_does_121 : decode cX6_does 121 = .ok (.invokevirtual 227, 3) := by decide +kernel
theorem dX6_does_124 : decode cX6_does 124 = .ok (.ireturn, 1) := by decide +kernel
theorem dX6_does_125 : decode cX6_does 125 = .ok (.aload_n 0, 1) := by decide +kernel
theorem dX6_does_126 : decode cX6_does 126 = .ok (.aload_n 0, 1) := by decide +kernel
theorem dX6_does_127 : decode cX6_does 127 = .ok (.getfield 29, 3) := by decide +kernel
theorem dX6_does_130 : decode cX6_does 130 = .ok (.iconst 0, 1) := by decide +kernel
theorem dX6_does_131 : decode cX6_does 131 = .ok (.iaload, 1) := by decide +kernel
theorem dX6_does_132 : decode cX6_does 132 = .ok (.invokevirtual 230, 3) := by decide +kernel
theorem dX6_does_135 : decode cX6_does 135 = .ok (.ireturn, 1) := by decide +kernel
theorem dX6_does_136 : decode cX6_does 136 = .ok (.aload_n 0, 1) := by decide +kernel
theorem dX6_does_137 : decode cX6_does 137 = .ok (.aload_n 0, 1) := by decide +kernel
theorem dX6_does_138 : decode cX6_does 138 = .ok (.getfield 29, 3) := by decide +kernel
theorem dX6_does_141 : decode cX6_does 141 = .ok (.iconst 0, 1) := by decide +kernel
theorem dX6_does_142 : decode cX6_does 142 = .ok (.iaload, 1) := by decide +kernel
theorem dX6_does_143 : decode cX6_does 143 = .ok (.invokevirtual 233, 3) := by decide +kernel
theorem dX6_does_146 : decode cX6_does 146 = .ok (.ireturn, 1) := by decide +kernel
theorem dJ6_bitCount_0f7a4_0 : decode cJ6_bitCount_0f7a4 0 = .ok (.iload_n 0, 1) := by decide +kernel
theorem dJ6_bitCount_0f7a4_1 : decode cJ6_bitCount_0f7a4 1 = .ok (.iload_n 0, 1) := by decide +kernel
theorem dJ6_bitCount_0f7a4_2 : decode cJ6_bitCount_0f7a4 2 = .ok (.iconst 1, 1) := by decide +kernel
theorem dJ6_bitCount_0f7a4_3 : decode cJ6_bitCount_0f7a4 3 = .ok (.iushr, 1) := by decide +kernel
theorem dJ6_bitCount_0f7a4_4 : decode cJ6_bitCount_0f7a4 4 = .ok (.ldc_w 265, 3) := by decide +kernel
theorem dJ6_bitCount_0f7a4_7 : decode cJ6_bitCount_0f7a4 7 = .ok (.iand, 1) := by decide +kernel
theorem dJ6_bitCount_0f7a4_8 : decode cJ6_bitCount_0f7a4 8 = .ok (.isub, 1) := by decide +kernel
theorem dJ6_bitCount_0f7a4_9 : decode cJ6_bitCount_0f7a4 9 = .ok (.istore_n 0, 1) := by decide +kernel
theorem dJ6_bitCount_0f7a4_10 : decode cJ6_bitCount_0f7a4 10 = .ok (.iload_n 0, 1) := by decide +kernel
theorem dJ6_bitCount_0f7a4_11 : decode cJ6_bitCount_0f7a4 11 = .ok (.ldc_w 266, 3) := by decide +kernel
theorem dJ6_bitCount_0f7a4_14 : decode cJ6_bitCount_0f7a4 14 = .ok (.iand, 1) := by decide +kernel
theorem dJ6_bitCount_0f7a4_15 : decode cJ6_bitCount_0f7a4 15 = .ok (.iload_n 0, 1) := by decide +kernel
theorem dJ6_bitCount_0f7a4_16 : decode cJ6_bitCount_0f7a4 16 = .ok (.iconst 2, 1) := by decide +kernel
theorem dJ6_bitCount_0f7a4_17 : decode cJ6_bitCount_0f7a4 17 = .ok (.iushr, 1) := by decide +kernel
theorem dJ6_bitCount_0f7a4_18 : decode cJ6_bitCount_0f7a4 18 = .ok (.ldc_w 266, 3) := by decide +kernel
theorem dJ6_bitCount_0f7a4_21 : decode cJ6_bitCount_0f7a4 21 = .ok (.iand, 1) := by decide +kernel
theorem dJ6_bitCount_0f7a4_22 : decode cJ6_bitCount_0f7a4 22 = .ok (.iadd, 1) := by decide +kernel
theorem dJ6_bitCount_0f7a4_23 : decode cJ6_bitCount_0f7a4 23 = .ok (.istore_n 0, 1) := by decide +kernel
theorem dJ6_bitCount_0f7a4_24 : decode cJ6_bitCount_0f7a4 24 = .ok (.iload_n 0, 1) := by decide +kernel
theorem dJ6_bitCount_0f7a4_25 : decode cJ6_bitCount_0f7a4 25 = .ok (.iload_n 0, 1) := by decide +kernel
theorem dJ6_bitCount_0f7a4_26 : decode cJ6_bitCount_0f7a4 26 = .ok (.iconst 4, 1) := by decide +kernel
theorem dJ6_bitCount_0f7a4_27 : decode cJ6_bitCount_0f7a4 27 = .ok (.iushr, 1) := by decide +kernel
theorem dJ6_bitCount_0f7a4_28 : decode cJ6_bitCount_0f7a4 28 = .ok (.iadd, 1) := by decide +kernel
theorem dJ6_bitCount_0f7a4_29 : decode cJ6_bitCount_0f7a4 29 = .ok (.ldc_w 267, 3) := by decide +kernel
theorem dJ6_bitCount_0f7a4_32 : decode cJ6_bitCount_0f7a4 32 = .ok (.iand, 1) := by decide +kernel
theorem dJ6_bitCount_0f7a4_33 : decode cJ6_bitCount_0f7a4 33 = .ok (.istore_n 0, 1) := by decide +kernel
theorem dJ6_bitCount_0f7a4_34 : decode cJ6_bitCount_0f7a4 34 = .ok (.iload_n 0, 1) := by decide +kernel
theorem dJ6_bitCount_0f7a4_35 : decode cJ6_bitCount_0f7a4 35 = .ok (.iload_n 0, 1) := by decide +kernel
theorem dJ6_bitCount_0f7a4_36 : decode cJ6_bitCount_0f7a4 36 = .ok (.bipush 8, 2) := by decide +kernel
theorem dJ6_bitCount_0f7a4_38 : decode cJ6_bitCount_0f7a4 38 = .ok (.iushr, 1) := by decide +kernel
theorem dJ6_bitCount_0f7a4_39 : decode cJ6_bitCount_0f7a4 39 = .ok (.iadd, 1) := by decide +kernel
theorem dJ6_bitCount_0f7a4_40 : decode cJ6_bitCount_0f7a4 40 = .ok (.istore_n 0, 1) := by decide +kernel
theorem dJ6_bitCount_0f7a4_41 : decode cJ6_bitCount_0f7a4 41 = .ok (.iload_n 0, 1) := by decide +kernel
theorem dJ6_bitCount_0f7a4_42 : decode cJ6_bitCount_0f7a4 42 = .ok (.iload_n 0, 1) := by decide +kernel
theorem dJ6_bitCount_0f7a4_43 : decode cJ6_bitCount_0f7a4 43 = .ok (.bipush 16, 2) := by decide +kernel
theorem dJ6_bitCount_0f7a4_45 : decode cJ6_bitCount_0f7a4 45 = .ok (.iushr, 1) := by decide +kernel
theorem dJ6_bitCount_0f7a4_46 : decode cJ6_bitCount_0f7a4 46 = .ok (.iadd, 1) := by decide +kernel
theorem dJ6_bitCount_0f7a4_47 : decode cJ6_bitCount_0f7a4 47 = .ok (.istore_n 0, 1) := by decide +kernel
theorem dJ6_bitCount_0f7a4_48 : decode cJ6_bitCount_0f7a4 48 = .ok (.iload_n 0, 1) := by decide +kernel
theorem dJ6_bitCount_0f7a4_49 : decode cJ6_bitCount_0f7a4 49 = .ok (.bipush 63, 2) := by decide +kernel
theorem dJ6_bitCount_0f7a4_51 : decode cJ6_bitCount_0f7a4 51 = .ok (.iand, 1) := by decide +kernel
theorem dJ6_bitCount_0f7a4_52 : decode cJ6_bitCount_0f7a4 52 = .ok (.ireturn, 1) := by decide +kernel
theorem dJ13_bitCount_95d88_0 : decode cJ13_bitCount_95d88 0 = .ok (.lload_n 0, 1) := by decide +kernel
theorem dJ13_bitCount_95d88_1 : decode cJ13_bitCount_95d88 1 = .ok (.lload_n 0, 1) := by decide +kernel
theorem dJ13_bitCount_95d88_2 : decode cJ13_bitCount_95d88 2 = .ok (.iconst 1, 1) := by decide +kernel
theorem dJ13_bitCount_95d88_3 : decode cJ13_bitCount_95d88 3 = .ok (.lushr, 1) := by decide +kernel
theorem dJ13_bitCount_95d88_4 : decode cJ13_bitCount_95d88 4 = .ok (.ldc2_w 314, 3) := by decide +kernel
theorem dJ13_bitCount_95d88_7 : decode cJ13_bitCount_95d88 7 = .ok (.land, 1) := by decide +kernel
theorem dJ13_bitCount_95d88_8 : decode cJ13_bitCount_95d88 8 = .ok (.lsub, 1) := by decide +kernel
theorem dJ13_bitCount_95d88_9 : decode cJ13_bitCount_95d88 9 = .ok (.lstore_n 0, 1) := by decide +kernel
theorem dJ13_bitCount_95d88_10 : decode cJ13_bitCount_95d88 10 = .ok (.lload_n 0, 1) := by decide +kernel
theorem dJ13_bitCount_95d88_11 : decode cJ13_bitCount_95d88 11 = .ok (.ldc2_w 316, 3) := by decide +kernel
theorem dJ13_bitCount_95d88_14 : decode cJ13_bitCount_95d88 14 = .ok (.land, 1) := by decide +kernel
theorem dJ13_bitCount_95d88_15 : decode cJ13_bitCount_95d88 15 = .ok (.lload_n 0, 1) := by decide +kernel
theorem dJ13_bitCount_95d88_16 : decode cJ13_bitCount_95d88 16 = .ok (.iconst 2, 1) := by decide +kernel
theorem dJ13_bitCount_95d88_17 : decode cJ13_bitCount_95d88 17 = .ok (.lushr, 1) := by decide +kernel
theorem dJ13_bitCount_95d88_18 : decode cJ13_bitCount_95d88 18 = .ok (.ldc2_w 316, 3) := by decide +kernel
theorem dJ13_bitCount_95d88_21 : decode cJ13_bitCount_95d88 21 = .ok (.land, 1) := by decide +kernel
theorem dJ13_bitCount_95d88_22 : decode cJ13_bitCount_95d88 22 = .ok (.ladd, 1) := by decide +kernel
theorem dJ13_bitCount_95d88_23 : decode cJ13_bitCount_95d88 23 = .ok (.lstore_n 0, 1) := by decide +kernel
theorem dJ13_bitCount_95d88_24 : decode cJ13_bitCount_95d88 24 = .ok (.lload_n 0, 1) := by decide +kernel
theorem dJ13_bitCount_95d88_25 : decode cJ13_bitCount_95d88 25 = .ok (.lload_n 0, 1) := by decide +kernel
theorem dJ13_bitCount_95d88_26 : decode cJ13_bitCount_95d88 26 = .ok (.iconst 4, 1) := by decide +kernel
theorem dJ13_bitCount_95d88_27 : decode cJ13_bitCount_95d88 27 = .ok (.lushr, 1) := by decide +kernel
theorem dJ13_bitCount_95d88_28 : decode cJ13_bitCount_95d88 28 = .ok (.ladd, 1) := by decide +kernel
theorem dJ13_bitCount_95d88_29 : decode cJ13_bitCount_95d88 29 = .ok (.ldc2_w 318, 3) := by decide +kernel
theorem dJ13_bitCount_95d88_32 : decode cJ13_bitCount_95d88 32 = .ok (.land, 1) := by decide +kernel
theorem dJ13_bitCount_95d88_33 : decode cJ13_bitCount_95d88 33 = .ok (.lstore_n 0, 1) := by decide +kernel
theorem dJ13_bitCount_95d88_34 : decode cJ13_bitCount_95d88 34 = .ok (.lload_n 0, 1) := by decide +kernel
theorem dJ13_bitCount_95d88_35 : decode cJ13_bitCount_95d88 35 = .ok (.lload_n 0, 1) := by decide +kernel
theorem dJ13_bitCount_95d88_36 : decode cJ13_bitCount_95d88 36 = .ok (.bipush 8, 2) := by decide +kernel
theorem dJ13_bitCount_95d88_38 : decode cJ13_bitCount_95d88 38 = .ok (.lushr, 1) := by decide +kernel
theorem dJ13_bitCount_95d88_39 : decode cJ13_bitCount_95d88 39 = .ok (.ladd, 1) := by decide +kernel
theorem dJ13_bitCount_95d88_40 : decode cJ13_bitCount_95d88 40 = .ok (.lstore_n 0, 1) := by decide +kernel
theorem dJ13_bitCount_95d88_41 : decode cJ13_bitCount_95d88 41 = .ok (.lload_n 0, 1) := by decide +kernel
theorem dJ13_bitCount_95d88_42 : decode cJ13_bitCount_95d88 42 = .ok (.lload_n 0, 1) := by decide +kernel
theorem dJ13_bitCount_95d88_43 : decode cJ13_bitCount_95d88 43 = .ok (.bipush 16, 2) := by decide +kernel
theorem dJ13_bitCount_95d88_45 : decode cJ13_bitCount_95d88 45 = .ok (.lushr, 1) := by decide +kernel
theorem dJ13_bitCount_95d88_46 : decode cJ13_bitCount_95d88 46 = .ok (.ladd, 1) := by decide +kernel
theorem dJ13_bitCount_95d88_47 : decode cJ13_bitCount_95d88 47 = .ok (.lstore_n 0, 1) := by decide +kernel
theorem dJ13_bitCount_95d88_48 : decode cJ13_bitCount_95d88 48 = .ok (.lload_n 0, 1) := by decide +kernel
theorem dJ13_bitCount_95d88_49 : decode cJ13_bitCount_95d88 49 = .ok (.lload_n 0, 1) := by decide +kernel
theorem dJ13_bitCount_95d88_50 : decode cJ13_bitCount_95d88 50 = .ok (.bipush 32, 2) := by decide +kernel
theorem dJ13_bitCount_95d88_52 : decode cJ13_bitCount_95d88 52 = .ok (.lushr, 1) := by decide +kernel
theorem dJ13_bitCount_95d88_53 : decode cJ13_bitCount_95d88 53 = .ok (.ladd, 1) := by decide +kernel
theorem dJ13_bitCount_95d88_54 : decode cJ13_bitCount_95d88 54 = .ok (.lstore_n 0, 1) := by decide +kernel
theorem dJ13_bitCount_95d88_55 : decode cJ13_bitCount_95d88 55 = .ok (.lload_n 0, 1) := by decide +kernel
theorem dJ13_bitCount_95d88_56 : decode cJ13_bitCount_95d88 56 = .ok (.l2i, 1) := by decide +kernel
theorem dJ13_bitCount_95d88_57 : decode cJ13_bitCount_95d88 57 = .ok (.bipush 127, 2) := by decide +kernel
theorem dJ13_bitCount_95d88_59 : decode cJ13_bitCount_95d88 59 = .ok (.iand, 1) := by decide +kernel
theorem dJ13_bitCount_95d88_60 : decode cJ13_bitCount_95d88 60 = .ok (.ireturn, 1) := by decide +kernel
theorem dJ9_max_7cf53_0 : decode cJ9_max_7cf53 0 = .ok (.iload_n 0, 1) := by decide +kernel
theorem dJ9_max_7cf53_1 : decode cJ9_max_7cf53 1 = .ok (.iload_n 1, 1) := by decide +kernel
theorem dJ9_max_7cf53_2 : decode cJ9_max_7cf53 2 = .ok (.if_icmp .lt 7, 3) := by decide +kernel
theorem dJ9_max_7cf53_5 : decode cJ9_max_7cf53 5 = .ok (.iload_n 0, 1) := by decide +kernel
theorem dJ9_max_7cf53_6 : decode cJ9_max_7cf53 6 = .ok (.goto 4, 3) := by decide +kernel
theorem dJ9_max_7cf53_9 : decode cJ9_max_7cf53 9 = .ok (.iload_n 1, 1) := by decide +kernel
theorem dJ9_max_7cf53_10 : decode cJ9_max_7cf53 10 = .ok (.ireturn, 1) := by decide +kernel
theorem dJ9_min_7cf53_0 : decode cJ9_min_7cf53 0 = .ok (.iload_n 0, 1) := by decide +kernel
theorem dJ9_min_7cf53_1 : decode cJ9_min_7cf53 1 = .ok (.iload_n 1, 1) := by decide +kernel
theorem dJ9_min_7cf53_2 : decode cJ9_min_7cf53 2 = .ok (.if_icmp .gt 7, 3) := by decide +kernel
theorem dJ9_min_7cf53_5 : decode cJ9_min_7cf53 5 = .ok (.iload_n 0, 1) := by decide +kernel
theorem dJ9_min_7cf53_6 : decode cJ9_min_7cf53 6 = .ok (.goto 4, 3) := by decide +kernel
theorem dJ9_min_7cf53_9 : decode cJ9_min_7cf53 9 = .ok (.iload_n 1, 1) := by decide +kernel
theorem dJ9_min_7cf53_10 : decode cJ9_min_7cf53 10 = .ok (.ireturn, 1) := by decide +kernel
theorem dJ0_length_8abf5_0 : decode cJ0_length_8abf5 0 = .ok (.aload_n 0, 1) := by decide +kernel
theorem dJ0_length_8abf5_1 : decode cJ0_length_8abf5 1 = .ok (.getfield 9, 3) := by decide +kernel
theorem dJ0_length_8abf5_4 : decode cJ0_length_8abf5 4 = .ok (.arraylength, 1) := by decide +kernel
theorem dJ0_length_8abf5_5 : decode cJ0_length_8abf5 5 = .ok (.aload_n 0, 1) := by decide +kernel
theorem dJ0_length_8abf5_6 : decode cJ0_length_8abf5 6 = .ok (.invokevirtual 335, 3) := by decide +kernel
theorem dJ0_length_8abf5_9 : decode cJ0_length_8abf5 9 = .ok (.ishr, 1) := by decide +kernel
theorem dJ0_length_8abf5_10 : decode cJ0_length_8abf5 10 = .ok (.ireturn, 1) := by decide +kernel
theorem dJ0_charAt_5068e_0 : decode cJ0_charAt_5068e 0 = .ok (.aload_n 0, 1) := by decide +kernel
theorem dJ0_charAt_5068e_1 : decode cJ0_charAt_5068e 1 = .ok (.invokevirtual 492, 3) := by decide +kernel
theorem dJ0_charAt_5068e_4 : decode cJ0_charAt_5068e 4 = .ok (.ifCond .eq 12, 3) := by decide +kernel
theorem dJ0_charAt_5068e_7 : decode cJ0_charAt_5068e 7 = .ok (.aload_n 0, 1) := by decide +kernel
theorem dJ0_charAt_5068e_8 : decode cJ0_charAt_5068e 8 = .ok (.getfield 9, 3) := by decide +kernel
theorem dJ0_charAt_5068e_11 : decode cJ0_charAt_5068e 11 = .ok (.iload_n 1, 1) := by decide +kernel
theorem dJ0_charAt_5068e_12 : decode cJ0_charAt_5068e 12 = .ok (.invokestatic 495, 3) := by decide +kernel
theorem dJ0_charAt_5068e_15 : decode cJ0_charAt_5068e 15 = .ok (.ireturn, 1) := by decide +kernel
theorem dJ0_charAt_5068e_16 : decode cJ0_charAt_5068e 16 = .ok (.aload_n 0, 1) := by decide +kernel
theorem dJ0_charAt_5068e_17 : decode cJ0_charAt_5068e 17 = .ok (.getfield 9, 3) := by decide +kernel
theorem dJ0_charAt_5068e_20 : decode cJ0_charAt_5068e 20 = .ok (.iload_n 1, 1) := by decide +kernel
theorem dJ0_charAt_5068e_21 : decode cJ0_charAt_5068e 21 = .ok (.invokestatic 498, 3) := by decide +kernel
theorem dJ0_charAt_5068e_24 : decode cJ0_charAt_5068e 24 = .ok (.ireturn, 1) := by decide +kernel
theorem dJ0_coder_7d493_0 : decode cJ0_coder_7d493 0 = .ok (.getstatic 38, 3) := by decide +kernel
theorem dJ0_coder_7d493_3 : decode cJ0_coder_7d493 3 = .ok (.ifCond .eq 10, 3) := by decide +kernel
theorem dJ0_coder_7d493_6 : decode cJ0_coder_7d493 6 = .ok (.aload_n 0, 1) := by decide +kernel
theorem dJ0_coder_7d493_7 : decode cJ0_coder_7d493 7 = .ok (.getfield 15, 3) := by decide +kernel
theorem dJ0_coder_7d493_10 : decode cJ0_coder_7d493 10 = .ok (.goto 4, 3) := by decide +kernel
theorem dJ0_coder_7d493_13 : decode cJ0_coder_7d493 13 = .ok (.iconst 1, 1) := by decide +kernel
theorem dJ0_coder_7d493_14 : decode cJ0_coder_7d493 14 = .ok (.ireturn, 1) := by decide +kernel
theorem dJ0_isLatin1_aae02_0 : decode cJ0_isLatin1_aae02 0 = .ok (.getstatic 38, 3) := by decide +kernel
theorem dJ0_isLatin1_aae02_3 : decode cJ0_isLatin1_aae02 3 = .ok (.ifCond .eq 14, 3) := by decide +kernel
theorem dJ0_isLatin1_aae02_6 : decode cJ0_isLatin1_aae02 6 = .ok (.aload_n 0, 1) := by decide +kernel
theorem dJ0_isLatin1_aae02_7 : decode cJ0_isLatin1_aae02 7 = .ok (.getfield 15, 3) := by decide +kernel
theorem dJ0_isLatin1_aae02_10 : decode cJ0_isLatin1_aae02 10 = .ok (.ifCond .ne 7, 3) := by decide +kernel
theorem dJ0_isLatin1_aae02_13 : decode cJ0_isLatin1_aae02 13 = .ok (.iconst 1, 1) := by decide +kernel
theorem dJ0_isLatin1_aae02_14 : decode cJ0_isLatin1_aae02 14 = .ok (.goto 4, 3) := by decide +kernel
theorem dJ0_isLatin1_aae02_17 : decode cJ0_isLatin1_aae02 17 = .ok (.iconst 0, 1) := by decide +kernel
theorem dJ0_isLatin1_aae02_18 : decode cJ0_isLatin1_aae02 18 = .ok (.ireturn, 1) := by decide +kernel
theorem dJ0_checkIndex_df160_0 : decode cJ0_checkIndex_df160 0 = .ok (.iload_n 0, 1) := by decide +kernel
theorem dJ0_checkIndex_df160_1 : decode cJ0_checkIndex_df160 1 = .ok (.iload_n 1, 1) := by decide +kernel
theorem dJ0_checkIndex_df160_2 : decode cJ0_checkIndex_df160 2 = .ok (.getstatic 1053, 3) := by decide +kernel
theorem dJ0_checkIndex_df160_5 : decode cJ0_checkIndex_df160 5 = .ok (.invokestatic 1059, 3) := by decide +kernel
theorem dJ0_checkIndex_df160_8 : decode cJ0_checkIndex_df160 8 = .ok (.pop, 1) := by decide +kernel
theorem dJ0_checkIndex_df160_9 : decode cJ0_checkIndex_df160 9 = .ok (.return_, 1) := by decide +kernel
theorem dJ1_charAt_3b067_0 : decode cJ1_charAt_3b067 0 = .ok (.iload_n 1, 1) := by decide +kernel
theorem dJ1_charAt_3b067_1 : decode cJ1_charAt_3b067 1 = .ok (.aload_n 0, 1) := by decide +kernel
theorem dJ1_charAt_3b067_2 : decode cJ1_charAt_3b067 2 = .ok (.arraylength, 1) := by decide +kernel
theorem dJ1_charAt_3b067_3 : decode cJ1_charAt_3b067 3 = .ok (.invokestatic 9, 3) := by decide +kernel
theorem dJ1_charAt_3b067_6 : decode cJ1_charAt_3b067 6 = .ok (.aload_n 0, 1) := by decide +kernel
theorem dJ1_charAt_3b067_7 : decode cJ1_charAt_3b067 7 = .ok (.iload_n 1, 1) := by decide +kernel
theorem dJ1_charAt_3b067_8 : decode cJ1_charAt_3b067 8 = .ok (.baload, 1) := by decide +kernel
theorem dJ1_charAt_3b067_9 : decode cJ1_charAt_3b067 9 = .ok (.sipush 255, 3) := by decide +kernel
theorem dJ1_charAt_3b067_12 : decode cJ1_charAt_3b067 12 = .ok (.iand, 1) := by decide +kernel
theorem dJ1_charAt_3b067_13 : decode cJ1_charAt_3b067 13 = .ok (.i2c, 1) := by decide +kernel
theorem dJ1_charAt_3b067_14 : decode cJ1_charAt_3b067 14 = .ok (.ireturn, 1) := by decide +kernel
theorem dJ2_getChar_3b067_0 : decode cJ2_getChar_3b067 0 = .ok (.getstatic 44, 3) := by decide +kernel
theorem dJ2_getChar_3b067_3 : decode cJ2_getChar_3b067 3 = .ok (.ifCond .ne 25, 3) := by decide +kernel
theorem dJ2_getChar_3b067_6 : decode cJ2_getChar_3b067 6 = .ok (.iload_n 1, 1) := by decide +kernel
theorem dJ2_getChar_3b067_7 : decode cJ2_getChar_3b067 7 = .ok (.ifCond .lt 11, 3) := by decide +kernel
theorem dJ2_getChar_3b067_10 : decode cJ2_getChar_3b067 10 = .ok (.iload_n 1, 1) := by decide +kernel
theorem dJ2_getChar_3b067_11 : decode cJ2_getChar_3b067 11 = .ok (.aload_n 0, 1) := by decide +kernel
theorem dJ2_getChar_3b067_12 : decode cJ2_getChar_3b067 12 = .ok (.invokestatic 48, 3) := by decide +kernel
theorem dJ2_getChar_3b067_15 : decode cJ2_getChar_3b067 15 = .ok (.if_icmp .lt 13, 3) := by decide +kernel
theorem dJ2_getChar_3b067_18 : decode cJ2_getChar_3b067 18 = .ok (.new 52, 3) := by decide +kernel
theorem dJ2_getChar_3b067_21 : decode cJ2_getChar_3b067 21 = .ok (.dup, 1) := by decide +kernel
theorem dJ2_getChar_3b067_22 : decode cJ2_getChar_3b067 22 = .ok (.ldc 54, 2) := by decide +kernel
theorem dJ2_getChar_3b067_24 : decode cJ2_getChar_3b067 24 = .ok (.invokespecial 56, 3) := by decide +kernel
theorem dJ2_getChar_3b067_27 : decode cJ2_getChar_3b067 27 = .ok (.athrow, 1) := by decide +kernel
theorem dJ2_getChar_3b067_28 : decode cJ2_getChar_3b067 28 = .ok (.iload_n 1, 1) := by decide +kernel
theorem dJ2_getChar_3b067_29 : decode cJ2_getChar_3b067 29 = .ok (.iconst 1, 1) := by decide +kernel
theorem dJ2_getChar_3b067_30 : decode cJ2_getChar_3b067 30 = .ok (.ishl, 1) := by decide +kernel
theorem dJ2_getChar_3b067_31 : decode cJ2_getChar_3b067 31 = .ok (.istore_n 1, 1) := by decide +kernel
theorem dJ2_getChar_3b067_32 : decode cJ2_getChar_3b067 32 = .ok (.aload_n 0, 1) := by decide +kernel
theorem dJ2_getChar_3b067_33 : decode cJ2_getChar_3b067 33 = .ok (.iload_n 1, 1) := by decide +kernel
theorem dJ2_getChar_3b067_34 : decode cJ2_getChar_3b067 34 = .ok (.iinc 1 1, 3) := by decide +kernel
theorem dJ2_getChar_3b067_37 : decode cJ2_getChar_3b067 37 = .ok (.baload, 1) := by decide +kernel
theorem dJ2_getChar_3b067_38 : decode cJ2_getChar_3b067 38 = .ok (.sipush 255, 3) := by decide +kernel
theorem dJ2_getChar_3b067_41 : decode cJ2_getChar_3b067 41 = .ok (.iand, 1) := by decide +kernel
theorem dJ2_getChar_3b067_42 : decode cJ2_getChar_3b067 42 = .ok (.getstatic 59, 3) := by decide +kernel
theorem dJ2_getChar_3b067_45 : decode cJ2_getChar_3b067 45 = .ok (.ishl, 1) := by decide +kernel
theorem dJ2_getChar_3b067_46 : decode cJ2_getChar_3b067 46 = .ok (.aload_n 0, 1) := by decide +kernel
theorem dJ2_getChar_3b067_47 : decode cJ2_getChar_3b067 47 = .ok (.iload_n 1, 1) := by decide +kernel
theorem dJ2_getChar_3b067_48 : decode cJ2_getChar_3b067 48 = .ok (.baload, 1) := by decide +kernel
theorem dJ2_getChar_3b067_49 : decode cJ2_getChar_3b067 49 = .ok (.sipush 255, 3) := by decide +kernel
theorem dJ2_getChar_3b067_52 : decode cJ2_getChar_3b067 52 = .ok (.iand, 1) := by decide +kernel
theorem dJ2_getChar_3b067_53 : decode cJ2_getChar_3b067 53 = .ok (.getstatic 63, 3) := by decide +kernel
theorem dJ2_getChar_3b067_56 : decode cJ2_getChar_3b067 56 = .ok (.ishl, 1) := by decide +kernel
theorem dJ2_getChar_3b067_57 : decode cJ2_getChar_3b067 57 = .ok (.ior, 1) := by decide +kernel
theorem dJ2_getChar_3b067_58 : decode cJ2_getChar_3b067 58 = .ok (.i2c, 1) := by decide +kernel
theorem dJ2_getChar_3b067_59 : decode cJ2_getChar_3b067 59 = .ok (.ireturn, 1) := by decide +kernel
theorem dJ2_length_9d52b_0 : decode cJ2_length_9d52b 0 = .ok (.aload_n 0, 1) := by decide +kernel
theorem dJ2_length_9d52b_1 : decode cJ2_length_9d52b 1 = .ok (.arraylength, 1) := by decide +kernel
theorem dJ2_length_9d52b_2 : decode cJ2_length_9d52b 2 = .ok (.iconst 1, 1) := by decide +kernel
theorem dJ2_length_9d52b_3 : decode cJ2_length_9d52b 3 = .ok (.ishr, 1) := by decide +kernel
theorem dJ2_length_9d52b_4 : decode cJ2_length_9d52b 4 = .ok (.ireturn, 1) := by decide +kernel
theorem dJ2_charAt_3b067_0 : decode cJ2_charAt_3b067 0 = .ok (.iload_n 1, 1) := by decide +kernel
theorem dJ2_charAt_3b067_1 : decode cJ2_charAt_3b067 1 = .ok (.aload_n 0, 1) := by decide +kernel
theorem dJ2_charAt_3b067_2 : decode cJ2_charAt_3b067 2 = .ok (.invokestatic 67, 3) := by decide +kernel
theorem dJ2_charAt_3b067_5 : decode cJ2_charAt_3b067 5 = .ok (.aload_n 0, 1) := by decide +kernel
theorem dJ2_charAt_3b067_6 : decode cJ2_charAt_3b067 6 = .ok (.iload_n 1, 1) := by decide +kernel
theorem dJ2_charAt_3b067_7 : decode cJ2_charAt_3b067 7 = .ok (.invokestatic 71, 3) := by decide +kernel
theorem dJ2_charAt_3b067_10 : decode cJ2_charAt_3b067 10 = .ok (.ireturn, 1) := by decide +kernel
theorem dJ2_checkIndex_2214a_0 : decode cJ2_checkIndex_2214a 0 = .ok (.iload_n 0, 1) := by decide +kernel
theorem dJ2_checkIndex_2214a_1 : decode cJ2_checkIndex_2214a 1 = .ok (.aload_n 1, 1) := by decide +kernel
theorem dJ2_checkIndex_2214a_2 : decode cJ2_checkIndex_2214a 2 = .ok (.invokestatic 48, 3) := by decide +kernel
theorem dJ2_checkIndex_2214a_5 : decode cJ2_checkIndex_2214a 5 = .ok (.invokestatic 414, 3) := by decide +kernel
theorem dJ2_checkIndex_2214a_8 : decode cJ2_checkIndex_2214a 8 = .ok (.return_, 1) := by decide +kernel
theorem dJ7_fill_53178_0 : decode cJ7_fill_53178 0 = .ok (.iconst 0, 1) := by decide +kernel
theorem dJ7_fill_53178_1 : decode cJ7_fill_53178 1 = .ok (.istore_n 2, 1) := by decide +kernel
theorem dJ7_fill_53178_2 : decode cJ7_fill_53178 2 = .ok (.aload_n 0, 1) := by decide +kernel
theorem dJ7_fill_53178_3 : decode cJ7_fill_53178 3 = .ok (.arraylength, 1) := by decide +kernel
theorem dJ7_fill_53178_4 : decode cJ7_fill_53178 4 = .ok (.istore_n 3, 1) := by decide +kernel
theorem dJ7_fill_53178_5 : decode cJ7_fill_53178 5 = .ok (.iload_n 2, 1) := by decide +kernel
theorem dJ7_fill_53178_6 : decode cJ7_fill_53178 6 = .ok (.iload_n 3, 1) := by decide +kernel
theorem dJ7_fill_53178_7 : decode cJ7_fill_53178 7 = .ok (.if_icmp .ge 13, 3) := by decide +kernel
theorem dJ7_fill_53178_10 : decode cJ7_fill_53178 10 = .ok (.aload_n 0, 1) := by decide +kernel
theorem dJ7_fill_53178_11 : decode cJ7_fill_53178 11 = .ok (.iload_n 2, 1) := by decide +kernel
theorem dJ7_fill_53178_12 : decode cJ7_fill_53178 12 = .ok (.iload_n 1, 1) := by decide +kernel
theorem dJ7_fill_53178_13 : decode cJ7_fill_53178 13 = .ok (.iastore, 1) := by decide +kernel
theorem dJ7_fill_53178_14 : decode cJ7_fill_53178 14 = .ok (.iinc 2 1, 3) := by decide +kernel
theorem dJ7_fill_53178_17 : decode cJ7_fill_53178 17 = .ok (.goto (-12), 3) := by decide +kernel
theorem dJ7_fill_53178_20 : decode cJ7_fill_53178 20 = .ok (.return_, 1) := by decide +kernel
theorem dJ3_checkIndex_8e157_0 : decode cJ3_checkIndex_8e157 0 = .ok (.iload_n 0, 1) := by decide +kernel
theorem dJ3_checkIndex_8e157_1 : decode cJ3_checkIndex_8e157 1 = .ok (.ifCond .lt 8, 3) := by decide +kernel
theorem dJ3_checkIndex_8e157_4 : decode cJ3_checkIndex_8e157 4 = .ok (.iload_n 0, 1) := by decide +kernel
theorem dJ3_checkIndex_8e157_5 : decode cJ3_checkIndex_8e157 5 = .ok (.iload_n 1, 1) := by decide +kernel
theorem dJ3_checkIndex_8e157_6 : decode cJ3_checkIndex_8e157 6 = .ok (.if_icmp .lt 10, 3) := by decide +kernel
theorem dJ3_checkIndex_8e157_9 : decode cJ3_checkIndex_8e157 9 = .ok (.aload_n 2, 1) := by decide +kernel
theorem dJ3_checkIndex_8e157_10 : decode cJ3_checkIndex_8e157 10 = .ok (.iload_n 0, 1) := by decide +kernel
theorem dJ3_checkIndex_8e157_11 : decode cJ3_checkIndex_8e157 11 = .ok (.iload_n 1, 1) := by decide +kernel
theorem dJ3_checkIndex_8e157_12 : decode cJ3_checkIndex_8e157 12 = .ok (.invokestatic 95, 3) := by decide +kernel
theorem dJ3_checkIndex_8e157_15 : decode cJ3_checkIndex_8e157 15 = .ok (.athrow, 1) := by decide +kernel
theorem dJ3_checkIndex_8e157_16 : decode cJ3_checkIndex_8e157 16 = .ok (.iload_n 0, 1) := by decide +kernel
theorem dJ3_checkIndex_8e157_17 : decode cJ3_checkIndex_8e157 17 = .ok (.ireturn, 1) := by decide +kernel
theorem dL_law_0 : decode cL_law 0 = .ok (.new 7, 3) := by decide +kernel
theorem dL_law_3 : decode cL_law 3 = .ok (.dup, 1) := by decide +kernel
theorem dL_law_4 : decode cL_law 4 = .ok (.invokespecial 9, 3) := by decide +kernel
theorem dL_law_7 : decode cL_law 7 = .ok (.astore_n 1, 1) := by decide +kernel
theorem dL_law_8 : decode cL_law 8 = .ok (.new 10, 3) := by decide +kernel
theorem dL_law_11 : decode cL_law 11 = .ok (.dup, 1) := by decide +kernel
theorem dL_law_12 : decode cL_law 12 = .ok (.invokespecial 12, 3) := by decide +kernel
theorem dL_law_15 : decode cL_law 15 = .ok (.astore_n 2, 1) := by decide +kernel
theorem dL_law_16 : decode cL_law 16 = .ok (.iconst 0, 1) := by decide +kernel
theorem dL_law_17 : decode cL_law 17 = .ok (.istore_n 3, 1) := by decide +kernel
theorem dL_law_18 : decode cL_law 18 = .ok (.iload_n 3, 1) := by decide +kernel
theorem dL_law_19 : decode cL_law 19 = .ok (.aload_n 0, 1) := by decide +kernel
theorem dL_law_20 : decode cL_law 20 = .ok (.arraylength, 1) := by decide +kernel
theorem dL_law_21 : decode cL_law 21 = .ok (.iconst 4, 1) := by decide +kernel
theorem dL_law_22 : decode cL_law 22 = .ok (.isub, 1) := by decide +kernel
theorem dL_law_23 : decode cL_law 23 = .ok (.if_icmp .gt 864, 3) := by decide +kernel
theorem dL_law_26 : decode cL_law 26 = .ok (.aload_n 0, 1) := by decide +kernel
theorem dL_law_27 : decode cL_law 27 = .ok (.iload_n 3, 1) := by decide +kernel
theorem dL_law_28 : decode cL_law 28 = .ok (.iaload, 1) := by decide +kernel
theorem dL_law_29 : decode cL_law 29 = .ok (.bipush 31, 2) := by decide +kernel
theorem dL_law_31 : decode cL_law 31 = .ok (.iand, 1) := by decide +kernel
theorem dL_law_32 : decode cL_law 32 = .ok (.tableswitch 849 0 26 #[124, 167, 200, 223, 246, 279, 302, 335, 384, 407, 420, 445, 458, 471, 484, 497, 510, 543, 586, 619, 642, 675, 708, 731, 754, 813, 826], 124) := by decide +kernel
theorem dL_law_156 : decode cL_law 156 = .ok (.aload_n 1, 1) := by decide +kernel
theorem dL_law_157 : decode cL_law 157 = .ok (.aload_n 0, 1) := by decide +kernel
theorem dL_law_158 : decode cL_law 158 = .ok (.iload_n 3, 1) := by decide +kernel
theorem dL_law_159 : decode cL_law 159 = .ok (.iconst 1, 1) := by decide +kernel
theorem dL_law_160 : decode cL_law 160 = .ok (.iadd, 1) := by decide +kernel
theorem dL_law_161 : decode cL_law 161 = .ok (.iaload, 1) := by decide +kernel
theorem dL_law_162 : decode cL_law 162 = .ok (.aload_n 0, 1) := by decide +kernel
theorem dL_law_163 : decode cL_law 163 = .ok (.iload_n 3, 1) := by decide +kernel
theorem dL_law_164 : decode cL_law 164 = .ok (.iconst 2, 1) := by decide +kernel
theorem dL_law_165 : decode cL_law 165 = .ok (.iadd, 1) := by decide +kernel
theorem dL_law_166 : decode cL_law 166 = .ok (.iaload, 1) := by decide +kernel
theorem dL_law_167 : decode cL_law 167 = .ok (.aload_n 0, 1) := by decide +kernel
theorem dL_law_168 : decode cL_law 168 = .ok (.iload_n 3, 1) := by decide +kernel
theorem dL_law_169 : decode cL_law 169 = .ok (.iconst 3, 1) := by decide +kernel
theorem dL_law_170 : decode cL_law 170 = .ok (.iadd, 1) := by decide +kernel
theorem dL_law_171 : decode cL_law 171 = .ok (.iaload, 1) := by decide +kernel
theorem dL_law_172 : decode cL_law 172 = .ok (.invokevirtual 13, 3) := by decide +kernel
theorem dL_law_175 : decode cL_law 175 = .ok (.aload_n 2, 1) := by decide +kernel
theorem dL_law_176 : decode cL_law 176 = .ok (.aload_n 0, 1) := by decide +kernel
theorem dL_law_177 : decode cL_law 177 = .ok (.iload_n 3, 1) := by decide +kernel
theorem dL_law_178 : decode cL_law 178 = .ok (.iconst 1, 1) := by decide +kernel
theorem dL_law_179 : decode cL_law 179 = .ok (.iadd, 1) := by decide +kernel
theorem dL_law_180 : decode cL_law 180 = .ok (.iaload, 1) := by decide +kernel
theorem dL_law_181 : decode cL_law 181 = .ok (.aload_n 0, 1) := by decide +kernel
theorem dL_law_182 : decode cL_law 182 = .ok (.iload_n 3, 1) := by decide +kernel
theorem dL_law_183 : decode cL_law 183 = .ok (.iconst 2, 1) := by decide +kernel
theorem dL_law_184 : decode cL_law 184 = .ok (.iadd, 1) := by decide +kernel
theorem dL_law_185 : decode cL_law 185 = .ok (.iaload, 1) := by decide +kernel
theorem dL_law_186 : decode cL_law 186 = .ok (.aload_n 0, 1) := by decide +kernel
theorem dL_law_187 : decode cL_law 187 = .ok (.iload_n 3, 1) := by decide +kernel
theorem dL_law_188 : decode cL_law 188 = .ok (.iconst 3, 1) := by decide +kernel
theorem dL_law_189 : decode cL_law 189 = .ok (.iadd, 1) := by decide +kernel
theorem dL_law_190 : decode cL_law 190 = .ok (.iaload, 1) := by decide +kernel
theorem dL_law_191 : decode cL_law 191 = .ok (.invokevirtual 17, 3) := by decide +kernel
theorem dL_law_194 : decode cL_law 194 = .ok (.if_icmp .eq 687, 3) := by decide +kernel
theorem dL_law_197 : decode cL_law 197 = .ok (.iconst 0, 1) := by decide +kernel
theorem dL_law_198 : decode cL_law 198 = .ok (.ireturn, 1) := by decide +kernel
theorem dL_law_199 : decode cL_law 199 = .ok (.aload_n 1, 1) := by decide +kernel
theorem dL_law_200 : decode cL_law 200 = .ok (.aload_n 0, 1) := by decide +kernel
theorem dL_law_201 : decode cL_law 201 = .ok (.iload_n 3, 1) := by decide +kernel
theorem dL_law_202 : decode cL_law 202 = .ok (.iconst 1, 1) := by decide +kernel
theorem dL_law_203 : decode cL_law 203 = .ok (.iadd, 1) := by decide +kernel
theorem dL_law_204 : decode cL_law 204 = .ok (.iaload, 1) := by decide +kernel
theorem dL_law_205 : decode cL_law 205 = .ok (.aload_n 0, 1) := by decide +kernel
theorem dL_law_206 : decode cL_law 206 = .ok (.iload_n 3, 1) := by decide +kernel
theorem dL_law_207 : decode cL_law 207 = .ok (.iconst 2, 1) := by decide +kernel
theorem dL_law_208 : decode cL_law 208 = .ok (.iadd, 1) := by decide +kernel
theorem dL_law_209 : decode cL_law 209 = .ok (.iaload, 1) := by decide +kernel
theorem dL_law_210 : decode cL_law 210 = .ok (.invokevirtual 18, 3) := by decide +kernel
theorem dL_law_213 : decode cL_law 213 = .ok (.aload_n 2, 1) := by decide +kernel
theorem dL_law_214 : decode cL_law 214 = .ok (.aload_n 0, 1) := by decide +kernel
theorem dL_law_215 : decode cL_law 215 = .ok (.iload_n 3, 1) := by decide +kernel
theorem dL_law_216 : decode cL_law 216 = .ok (.iconst 1, 1) := by decide +kernel
theorem dL_law_217 : decode cL_law 217 = .ok (.iadd, 1) := by decide +kernel
theorem dL_law_218 : decode cL_law 218 = .ok (.iaload, 1) := by decide +kernel
theorem dL_law_219 : decode cL_law 219 = .ok (.aload_n 0, 1) := by decide +kernel
theorem dL_law_220 : decode cL_law 220 = .ok (.iload_n 3, 1) := by decide +kernel
theorem dL_law_221 : decode cL_law 221 = .ok (.iconst 2, 1) := by decide +kernel
theorem dL_law_222 : decode cL_law 222 = .ok (.iadd, 1) := by decide +kernel
theorem dL_law_223 : decode cL_law 223 = .ok (.iaload, 1) := by decide +kernel
theorem dL_law_224 : decode cL_law 224 = .ok (.invokevirtual 22, 3) := by decide +kernel
theorem dL_law_227 : decode cL_law 227 = .ok (.if_icmp .eq 654, 3) := by decide +kernel
theorem dL_law_230 : decode cL_law 230 = .ok (.iconst 0, 1) := by decide +kernel
theorem dL_law_231 : decode cL_law 231 = .ok (.ireturn, 1) := by decide +kernel
theorem dL_law_232 : decode cL_law 232 = .ok (.aload_n 1, 1) := by decide +kernel
theorem dL_law_233 : decode cL_law 233 = .ok (.aload_n 0, 1) := by decide +kernel
theorem dL_law_234 : decode cL_law 234 = .ok (.iload_n 3, 1) := by decide +kernel
theorem dL_law_235 : decode cL_law 235 = .ok (.iconst 1, 1) := by decide +kernel
theorem dL_law_236 : decode cL_law 236 = .ok (.iadd, 1) := by decide +kernel
theorem dL_law_237 : decode cL_law 237 = .ok (.iaload, 1) := by decide +kernel
theorem dL_law_238 : decode cL_law 238 = .ok (.invokevirtual 23, 3) := by decide +kernel
theorem dL_law_241 : decode cL_law 241 = .ok (.aload_n 2, 1) := by decide +kernel
theorem dL_law_242 : decode cL_law 242 = .ok (.aload_n 0, 1) := by decide +kernel
theorem dL_law_243 : decode cL_law 243 = .ok (.iload_n 3, 1) := by decide +kernel
theorem dL_law_244 : decode cL_law 244 = .ok (.iconst 1, 1) := by decide +kernel
theorem dL_law_245 : decode cL_law 245 = .ok (.iadd, 1) := by decide +kernel
theorem dL_law_246 : decode cL_law 246 = .ok (.iaload, 1) := by decide +kernel
theorem dL_law_247 : decode cL_law 247 = .ok (.invokevirtual 27, 3) := by decide +kernel
theorem dL_law_250 : decode cL_law 250 = .ok (.if_icmp .eq 631, 3) := by decide +kernel
theorem dL_law_253 : decode cL_law 253 = .ok (.iconst 0, 1) := by decide +kernel
theorem dL_law_254 : decode cL_law 254 = .ok (.ireturn, 1) := by decide +kernel
theorem dL_law_255 : decode cL_law 255 = .ok (.aload_n 1, 1) := by decide +kernel
theorem dL_law_256 : decode cL_law 256 = .ok (.aload_n 0, 1) := by decide +kernel
theorem dL_law_257 : decode cL_law 257 = .ok (.iload_n 3, 1) := by decide +kernel
theorem dL_law_258 : decode cL_law 258 = .ok (.iconst 1, 1) := by decide +kernel
theorem dL_law_259 : decode cL_law 259 = .ok (.iadd, 1) := by decide +kernel
theorem dL_law_260 : decode cL_law 260 = .ok (.iaload, 1) := by decide +kernel
theorem dL_law_261 : decode cL_law 261 = .ok (.invokevirtual 28, 3) := by decide +kernel
theorem dL_law_264 : decode cL_law 264 = .ok (.aload_n 2, 1) := by decide +kernel
theorem dL_law_265 : decode cL_law 265 = .ok (.aload_n 0, 1) := by decide +kernel
theorem dL_law_266 : decode cL_law 266 = .ok (.iload_n 3, 1) := by decide +kernel
theorem dL_law_267 : decode cL_law 267 = .ok (.iconst 1, 1) := by decide +kernel
theorem dL_law_268 : decode cL_law 268 = .ok (.iadd, 1) := by decide +kernel
theorem dL_law_269 : decode cL_law 269 = .ok (.iaload, 1) := by decide +kernel
theorem dL_law_270 : decode cL_law 270 = .ok (.invokevirtual 31, 3) := by decide +kernel
theorem dL_law_273 : decode cL_law 273 = .ok (.if_icmp .eq 608, 3) := by decide +kernel
theorem dL_law_276 : decode cL_law 276 = .ok (.iconst 0, 1) := by decide +kernel
theorem dL_law_277 : decode cL_law 277 = .ok (.ireturn, 1) := by decide +kernel
theorem dL_law_278 : decode cL_law 278 = .ok (.aload_n 1, 1) := by decide +kernel
theorem dL_law_279 : decode cL_law 279 = .ok (.aload_n 0, 1) := by decide +kernel
theorem dL_law_280 : decode cL_law 280 = .ok (.iload_n 3, 1) := by decide +kernel
theorem dL_law_281 : decode cL_law 281 = .ok (.iconst 1, 1) := by decide +kernel
theorem dL_law_282 : decode cL_law 282 = .ok (.iadd, 1) := by decide +kernel
theorem dL_law_283 : decode cL_law 283 = .ok (.iaload, 1) := by decide +kernel
theorem dL_law_284 : decode cL_law 284 = .ok (.aload_n 0, 1) := by decide +kernel
theorem dL_law_285 : decode cL_law 285 = .ok (.iload_n 3, 1) := by decide +kernel
theorem dL_law_286 : decode cL_law 286 = .ok (.iconst 2, 1) := by decide +kernel
theorem dL_law_287 : decode cL_law 287 = .ok (.iadd, 1) := by decide +kernel
theorem dL_law_288 : decode cL_law 288 = .ok (.iaload, 1) := by decide +kernel
theorem dL_law_289 : decode cL_law 289 = .ok (.invokevirtual 32, 3) := by decide +kernel
theorem dL_law_292 : decode cL_law 292 = .ok (.aload_n 2, 1) := by decide +kernel
theorem dL_law_293 : decode cL_law 293 = .ok (.aload_n 0, 1) := by decide +kernel
theorem dL_law_294 : decode cL_law 294 = .ok (.iload_n 3, 1) := by decide +kernel
theorem dL_law_295 : decode cL_law 295 = .ok (.iconst 1, 1) := by decide +kernel
theorem dL_law_296 : decode cL_law 296 = .ok (.iadd, 1) := by decide +kernel
theorem dL_law_297 : decode cL_law 297 = .ok (.iaload, 1) := by decide +kernel
theorem dL_law_298 : decode cL_law 298 = .ok (.aload_n 0, 1) := by decide +kernel
theorem dL_law_299 : decode cL_law 299 = .ok (.iload_n 3, 1) := by decide +kernel
theorem dL_law_300 : decode cL_law 300 = .ok (.iconst 2, 1) := by decide +kernel
theorem dL_law_301 : decode cL_law 301 = .ok (.iadd, 1) := by decide +kernel
theorem dL_law_302 : decode cL_law 302 = .ok (.iaload, 1) := by decide +kernel
theorem dL_law_303 : decode cL_law 303 = .ok (.invokevirtual 35, 3) := by decide +kernel
theorem dL_law_306 : decode cL_law 306 = .ok (.if_icmp .eq 575, 3) := by decide +kernel
theorem dL_law_309 : decode cL_law 309 = .ok (.iconst 0, 1) := by decide +kernel
theorem dL_law_310 : decode cL_law 310 = .ok (.ireturn, 1) := by decide +kernel
theorem dL_law_311 : decode cL_law 311 = .ok (.aload_n 1, 1) := by decide +kernel
theorem dL_law_312 : decode cL_law 312 = .ok (.aload_n 0, 1) := by decide +kernel
theorem dL_law_313 : decode cL_law 313 = .ok (.iload_n 3, 1) := by decide +kernel
theorem dL_law_314 : decode cL_law 314 = .ok (.iconst 1, 1) := by decide +kernel
theorem dL_law_315 : decode cL_law 315 = .ok (.iadd, 1) := by decide +kernel
theorem dL_law_316 : decode cL_law 316 = .ok (.iaload, 1) := by decide +kernel
theorem dL_law_317 : decode cL_law 317 = .ok (.invokevirtual 36, 3) := by decide +kernel
theorem dL_law_320 : decode cL_law 320 = .ok (.aload_n 2, 1) := by decide +kernel
theorem dL_law_321 : decode cL_law 321 = .ok (.aload_n 0, 1) := by decide +kernel
theorem dL_law_322 : decode cL_law 322 = .ok (.iload_n 3, 1) := by decide +kernel
theorem dL_law_323 : decode cL_law 323 = .ok (.iconst 1, 1) := by decide +kernel
theorem dL_law_324 : decode cL_law 324 = .ok (.iadd, 1) := by decide +kernel
theorem dL_law_325 : decode cL_law 325 = .ok (.iaload, 1) := by decide +kernel
theorem dL_law_326 : decode cL_law 326 = .ok (.invokevirtual 39, 3) := by decide +kernel
theorem dL_law_329 : decode cL_law 329 = .ok (.if_icmp .eq 552, 3) := by decide +kernel
theorem dL_law_332 : decode cL_law 332 = .ok (.iconst 0, 1) := by decide +kernel
theorem dL_law_333 : decode cL_law 333 = .ok (.ireturn, 1) := by decide +kernel
theorem dL_law_334 : decode cL_law 334 = .ok (.aload_n 1, 1) := by decide +kernel
theorem dL_law_335 : decode cL_law 335 = .ok (.aload_n 0, 1) := by decide +kernel
theorem dL_law_336 : decode cL_law 336 = .ok (.iload_n 3, 1) := by decide +kernel
theorem dL_law_337 : decode cL_law 337 = .ok (.iconst 1, 1) := by decide +kernel
theorem dL_law_338 : decode cL_law 338 = .ok (.iadd, 1) := by decide +kernel
theorem dL_law_339 : decode cL_law 339 = .ok (.iaload, 1) := by decide +kernel
theorem dL_law_340 : decode cL_law 340 = .ok (.aload_n 0, 1) := by decide +kernel
theorem dL_law_341 : decode cL_law 341 = .ok (.iload_n 3, 1) := by decide +kernel
theorem dL_law_342 : decode cL_law 342 = .ok (.iconst 2, 1) := by decide +kernel
theorem dL_law_343 : decode cL_law 343 = .ok (.iadd, 1) := by decide +kernel
theorem dL_law_344 : decode cL_law 344 = .ok (.iaload, 1) := by decide +kernel
theorem dL_law_345 : decode cL_law 345 = .ok (.invokevirtual 40, 3) := by decide +kernel
theorem dL_law_348 : decode cL_law 348 = .ok (.aload_n 2, 1) := by decide +kernel
theorem dL_law_349 : decode cL_law 349 = .ok (.aload_n 0, 1) := by decide +kernel
theorem dL_law_350 : decode cL_law 350 = .ok (.iload_n 3, 1) := by decide +kernel
theorem dL_law_351 : decode cL_law 351 = .ok (.iconst 1, 1) := by decide +kernel
theorem dL_law_352 : decode cL_law 352 = .ok (.iadd, 1) := by decide +kernel
theorem dL_law_353 : decode cL_law 353 = .ok (.iaload, 1) := by decide +kernel
theorem dL_law_354 : decode cL_law 354 = .ok (.aload_n 0, 1) := by decide +kernel
theorem dL_law_355 : decode cL_law 355 = .ok (.iload_n 3, 1) := by decide +kernel
theorem dL_law_356 : decode cL_law 356 = .ok (.iconst 2, 1) := by decide +kernel
theorem dL_law_357 : decode cL_law 357 = .ok (.iadd, 1) := by decide +kernel
theorem dL_law_358 : decode cL_law 358 = .ok (.iaload, 1) := by decide +kernel
theorem dL_law_359 : decode cL_law 359 = .ok (.invokevirtual 43, 3) := by decide +kernel
theorem dL_law_362 : decode cL_law 362 = .ok (.if_icmp .eq 519, 3) := by decide +kernel
theorem dL_law_365 : decode cL_law 365 = .ok (.iconst 0, 1) := by decide +kernel
theorem dL_law_366 : decode cL_law 366 = .ok (.ireturn, 1) := by decide +kernel
theorem dL_law_367 : decode cL_law 367 = .ok (.aload_n 1, 1) := by decide +kernel
theorem dL_law_368 : decode cL_law 368 = .ok (.aload_n 0, 1) := by decide +kernel
theorem dL_law_369 : decode cL_law 369 = .ok (.iload_n 3, 1) := by decide +kernel
theorem dL_law_370 : decode cL_law 370 = .ok (.iconst 1, 1) := by decide +kernel
theorem dL_law_371 : decode cL_law 371 = .ok (.iadd, 1) := by decide +kernel
theorem dL_law_372 : decode cL_law 372 = .ok (.iaload, 1) := by decide +kernel
theorem dL_law_373 : decode cL_law 373 = .ok (.aload_n 0, 1) := by decide +kernel
theorem dL_law_374 : decode cL_law 374 = .ok (.iload_n 3, 1) := by decide +kernel
theorem dL_law_375 : decode cL_law 375 = .ok (.iconst 2, 1) := by decide +kernel
theorem dL_law_376 : decode cL_law 376 = .ok (.iadd, 1) := by decide +kernel
theorem dL_law_377 : decode cL_law 377 = .ok (.iaload, 1) := by decide +kernel
theorem dL_law_378 : decode cL_law 378 = .ok (.ifCond .eq 7, 3) := by decide +kernel
theorem dL_law_381 : decode cL_law 381 = .ok (.iconst 1, 1) := by decide +kernel
theorem dL_law_382 : decode cL_law 382 = .ok (.goto 4, 3) := by decide +kernel
theorem dL_law_385 : decode cL_law 385 = .ok (.iconst 0, 1) := by decide +kernel
theorem dL_law_386 : decode cL_law 386 = .ok (.invokevirtual 44, 3) := by decide +kernel
theorem dL_law_389 : decode cL_law 389 = .ok (.aload_n 2, 1) := by decide +kernel
theorem dL_law_390 : decode cL_law 390 = .ok (.aload_n 0, 1) := by decide +kernel
theorem dL_law_391 : decode cL_law 391 = .ok (.iload_n 3, 1) := by decide +kernel
theorem dL_law_392 : decode cL_law 392 = .ok (.iconst 1, 1) := by decide +kernel
theorem dL_law_393 : decode cL_law 393 = .ok (.iadd, 1) := by decide +kernel
theorem dL_law_394 : decode cL_law 394 = .ok (.iaload, 1) := by decide +kernel
theorem dL_law_395 : decode cL_law 395 = .ok (.aload_n 0, 1) := by decide +kernel
theorem dL_law_396 : decode cL_law 396 = .ok (.iload_n 3, 1) := by decide +kernel
theorem dL_law_397 : decode cL_law 397 = .ok (.iconst 2, 1) := by decide +kernel
theorem dL_law_398 : decode cL_law 398 = .ok (.iadd, 1) := by decide +kernel
theorem dL_law_399 : decode cL_law 399 = .ok (.iaload, 1) := by decide +kernel
theorem dL_law_400 : decode cL_law 400 = .ok (.ifCond .eq 7, 3) := by decide +kernel
theorem dL_law_403 : decode cL_law 403 = .ok (.iconst 1, 1) := by decide +kernel
theorem dL_law_404 : decode cL_law 404 = .ok (.goto 4, 3) := by decide +kernel
theorem dL_law_407 : decode cL_law 407 = .ok (.iconst 0, 1) := by decide +kernel
theorem dL_law_408 : decode cL_law 408 = .ok (.invokevirtual 48, 3) := by decide +kernel
theorem dL_law_411 : decode cL_law 411 = .ok (.if_icmp .eq 470, 3) := by decide +kernel
theorem dL_law_414 : decode cL_law 414 = .ok (.iconst 0, 1) := by decide +kernel
theorem dL_law_415 : decode cL_law 415 = .ok (.ireturn, 1) := by decide +kernel
theorem dL_law_416 : decode cL_law 416 = .ok (.aload_n 1, 1) := by decide +kernel
theorem dL_law_417 : decode cL_law 417 = .ok (.aload_n 0, 1) := by decide +kernel
theorem dL_law_418 : decode cL_law 418 = .ok (.iload_n 3, 1) := by decide +kernel
theorem dL_law_419 : decode cL_law 419 = .ok (.iconst 1, 1) := by decide +kernel
theorem dL_law_420 : decode cL_law 420 = .ok (.iadd, 1) := by decide +kernel
theorem dL_law_421 : decode cL_law 421 = .ok (.iaload, 1) := by decide +kernel
theorem dL_law_422 : decode cL_law 422 = .ok (.invokevirtual 49, 3) := by decide +kernel
theorem dL_law_425 : decode cL_law 425 = .ok (.aload_n 2, 1) := by decide +kernel
theorem dL_law_426 : decode cL_law 426 = .ok (.aload_n 0, 1) := by decide +kernel
theorem dL_law_427 : decode cL_law 427 = .ok (.iload_n 3, 1) := by decide +kernel
theorem dL_law_428 : decode cL_law 428 = .ok (.iconst 1, 1) := by decide +kernel
theorem dL_law_429 : decode cL_law 429 = .ok (.iadd, 1) := by decide +kernel
theorem dL_law_430 : decode cL_law 430 = .ok (.iaload, 1) := by decide +kernel
theorem dL_law_431 : decode cL_law 431 = .ok (.invokevirtual 52, 3) := by decide +kernel
theorem dL_law_434 : decode cL_law 434 = .ok (.if_icmp .eq 447, 3) := by decide +kernel
theorem dL_law_437 : decode cL_law 437 = .ok (.iconst 0, 1) := by decide +kernel
theorem dL_law_438 : decode cL_law 438 = .ok (.ireturn, 1) := by decide +kernel
theorem dL_law_439 : decode cL_law 439 = .ok (.aload_n 1, 1) := by decide +kernel
theorem dL_law_440 : decode cL_law 440 = .ok (.invokevirtual 53, 3) := by decide +kernel
theorem dL_law_443 : decode cL_law 443 = .ok (.aload_n 2, 1) := by decide +kernel
theorem dL_law_444 : decode cL_law 444 = .ok (.invokevirtual 57, 3) := by decide +kernel
theorem dL_law_447 : decode cL_law 447 = .ok (.if_icmp .eq 434, 3) := by decide +kernel
theorem dL_law_450 : decode cL_law 450 = .ok (.iconst 0, 1) := by decide +kernel
theorem dL_law_451 : decode cL_law 451 = .ok (.ireturn, 1) := by decide +kernel
theorem dL_law_452 : decode cL_law 452 = .ok (.aload_n 1, 1) := by decide +kernel
theorem dL_law_453 : decode cL_law 453 = .ok (.aload_n 0, 1) := by decide +kernel
theorem dL_law_454 : decode cL_law 454 = .ok (.iload_n 3, 1) := by decide +kernel
theorem dL_law_455 : decode cL_law 455 = .ok (.iconst 1, 1) := by decide +kernel
theorem dL_law_456 : decode cL_law 456 = .ok (.iadd, 1) := by decide +kernel
theorem dL_law_457 : decode cL_law 457 = .ok (.iaload, 1) := by decide +kernel
theorem dL_law_458 : decode cL_law 458 = .ok (.i2c, 1) := by decide +kernel
theorem dL_law_459 : decode cL_law 459 = .ok (.invokevirtual 58, 3) := by decide +kernel
theorem dL_law_462 : decode cL_law 462 = .ok (.aload_n 2, 1) := by decide +kernel
theorem dL_law_463 : decode cL_law 463 = .ok (.aload_n 0, 1) := by decide +kernel
theorem dL_law_464 : decode cL_law 464 = .ok (.iload_n 3, 1) := by decide +kernel
theorem dL_law_465 : decode cL_law 465 = .ok (.iconst 1, 1) := by decide +kernel
theorem dL_law_466 : decode cL_law 466 = .ok (.iadd, 1) := by decide +kernel
theorem dL_law_467 : decode cL_law 467 = .ok (.iaload, 1) := by decide +kernel
theorem dL_law_468 : decode cL_law 468 = .ok (.i2c, 1) := by decide +kernel
theorem dL_law_469 : decode cL_law 469 = .ok (.invokevirtual 62, 3) := by decide +kernel
theorem dL_law_472 : decode cL_law 472 = .ok (.if_icmp .eq 409, 3) := by decide +kernel
theorem dL_law_475 : decode cL_law 475 = .ok (.iconst 0, 1) := by decide +kernel
theorem dL_law_476 : decode cL_law 476 = .ok (.ireturn, 1) := by decide +kernel
theorem dL_law_477 : decode cL_law 477 = .ok (.aload_n 1, 1) := by decide +kernel
theorem dL_law_478 : decode cL_law 478 = .ok (.invokevirtual 63, 3) := by decide +kernel
theorem dL_law_481 : decode cL_law 481 = .ok (.aload_n 2, 1) := by decide +kernel
theorem dL_law_482 : decode cL_law 482 = .ok (.invokevirtual 66, 3) := by decide +kernel
theorem dL_law_485 : decode cL_law 485 = .ok (.if_icmp .eq 396, 3) := by decide +kernel
theorem dL_law_488 : decode cL_law 488 = .ok (.iconst 0, 1) := by decide +kernel
theorem dL_law_489 : decode cL_law 489 = .ok (.ireturn, 1) := by decide +kernel
theorem dL_law_490 : decode cL_law 490 = .ok (.aload_n 1, 1) := by decide +kernel
theorem dL_law_491 : decode cL_law 491 = .ok (.invokevirtual 67, 3) := by decide +kernel
theorem dL_law_494 : decode cL_law 494 = .ok (.aload_n 2, 1) := by decide +kernel
theorem dL_law_495 : decode cL_law 495 = .ok (.invokevirtual 70, 3) := by decide +kernel
theorem dL_law_498 : decode cL_law 498 = .ok (.if_icmp .eq 383, 3) := by decide +kernel
theorem dL_law_501 : decode cL_law 501 = .ok (.iconst 0, 1) := by decide +kernel
theorem dL_law_502 : decode cL_law 502 = .ok (.ireturn, 1) := by decide +kernel
theorem dL_law_503 : decode cL_law 503 = .ok (.aload_n 1, 1) := by decide +kernel
theorem dL_law_504 : decode cL_law 504 = .ok (.invokevirtual 71, 3) := by decide +kernel
theorem dL_law_507 : decode cL_law 507 = .ok (.aload_n 2, 1) := by decide +kernel
theorem dL_law_508 : decode cL_law 508 = .ok (.invokevirtual 74, 3) := by decide +kernel
theorem dL_law_511 : decode cL_law 511 = .ok (.if_icmp .eq 370, 3) := by decide +kernel
theorem dL_law_514 : decode cL_law 514 = .ok (.iconst 0, 1) := by decide +kernel
theorem dL_law_515 : decode cL_law 515 = .ok (.ireturn, 1) := by decide +kernel
theorem dL_law_516 : decode cL_law 516 = .ok (.aload_n 1, 1) := by decide +kernel
theorem dL_law_517 : decode cL_law 517 = .ok (.invokevirtual 75, 3) := by decide +kernel
theorem dL_law_520 : decode cL_law 520 = .ok (.aload_n 2, 1) := by decide +kernel
theorem dL_law_521 : decode cL_law 521 = .ok (.invokevirtual 78, 3) := by decide +kernel
theorem dL_law_524 : decode cL_law 524 = .ok (.if_icmp .eq 357, 3) := by decide +kernel
theorem dL_law_527 : decode cL_law 527 = .ok (.iconst 0, 1) := by decide +kernel
theorem dL_law_528 : decode cL_law 528 = .ok (.ireturn, 1) := by decide +kernel
theorem dL_law_529 : decode cL_law 529 = .ok (.aload_n 1, 1) := by decide +kernel
theorem dL_law_530 : decode cL_law 530 = .ok (.invokevirtual 79, 3) := by decide +kernel
theorem dL_law_533 : decode cL_law 533 = .ok (.aload_n 2, 1) := by decide +kernel
theorem dL_law_534 : decode cL_law 534 = .ok (.invokevirtual 82, 3) := by decide +kernel
theorem dL_law_537 : decode cL_law 537 = .ok (.if_icmp .eq 344, 3) := by decide +kernel
theorem dL_law_540 : decode cL_law 540 = .ok (.iconst 0, 1) := by decide +kernel
theorem dL_law_541 : decode cL_law 541 = .ok (.ireturn, 1) := by decide +kernel
theorem dL_law_542 : decode cL_law 542 = .ok (.aload_n 1, 1) := by decide +kernel
theorem dL_law_543 : decode cL_law 543 = .ok (.aload_n 0, 1) := by decide +kernel
theorem dL_law_544 : decode cL_law 544 = .ok (.iload_n 3, 1) := by decide +kernel
theorem dL_law_545 : decode cL_law 545 = .ok (.iconst 1, 1) := by decide +kernel
theorem dL_law_546 : decode cL_law 546 = .ok (.iadd, 1) := by decide +kernel
theorem dL_law_547 : decode cL_law 547 = .ok (.iaload, 1) := by decide +kernel
theorem dL_law_548 : decode cL_law 548 = .ok (.aload_n 0, 1) := by decide +kernel
theorem dL_law_549 : decode cL_law 549 = .ok (.iload_n 3, 1) := by decide +kernel
theorem dL_law_550 : decode cL_law 550 = .ok (.iconst 2, 1) := by decide +kernel
theorem dL_law_551 : decode cL_law 551 = .ok (.iadd, 1) := by decide +kernel
theorem dL_law_552 : decode cL_law 552 = .ok (.iaload, 1) := by decide +kernel
theorem dL_law_553 : decode cL_law 553 = .ok (.invokevirtual 83, 3) := by decide +kernel
theorem dL_law_556 : decode cL_law 556 = .ok (.aload_n 2, 1) := by decide +kernel
theorem dL_law_557 : decode cL_law 557 = .ok (.aload_n 0, 1) := by decide +kernel
theorem dL_law_558 : decode cL_law 558 = .ok (.iload_n 3, 1) := by decide +kernel
theorem dL_law_559 : decode cL_law 559 = .ok (.iconst 1, 1) := by decide +kernel
theorem dL_law_560 : decode cL_law 560 = .ok (.iadd, 1) := by decide +kernel
theorem dL_law_561 : decode cL_law 561 = .ok (.iaload, 1) := by decide +kernel
theorem dL_law_562 : decode cL_law 562 = .ok (.aload_n 0, 1) := by decide +kernel
theorem dL_law_563 : decode cL_law 563 = .ok (.iload_n 3, 1) := by decide +kernel
theorem dL_law_564 : decode cL_law 564 = .ok (.iconst 2, 1) := by decide +kernel
theorem dL_law_565 : decode cL_law 565 = .ok (.iadd, 1) := by decide +kernel
theorem dL_law_566 : decode cL_law 566 = .ok (.iaload, 1) := by decide +kernel
theorem dL_law_567 : decode cL_law 567 = .ok (.invokevirtual 86, 3) := by decide +kernel
theorem dL_law_570 : decode cL_law 570 = .ok (.if_icmp .eq 311, 3) := by decide +kernel
theorem dL_law_573 : decode cL_law 573 = .ok (.iconst 0, 1) := by decide +kernel
theorem dL_law_574 : decode cL_law 574 = .ok (.ireturn, 1) := by decide +kernel
theorem dL_law_575 : decode cL_law 575 = .ok (.aload_n 1, 1) := by decide +kernel
theorem dL_law_576 : decode cL_law 576 = .ok (.aload_n 0, 1) := by decide +kernel
theorem dL_law_577 : decode cL_law 577 = .ok (.iload_n 3, 1) := by decide +kernel
theorem dL_law_578 : decode cL_law 578 = .ok (.iconst 1, 1) := by decide +kernel
theorem dL_law_579 : decode cL_law 579 = .ok (.iadd, 1) := by decide +kernel
theorem dL_law_580 : decode cL_law 580 = .ok (.iaload, 1) := by decide +kernel
theorem dL_law_581 : decode cL_law 581 = .ok (.aload_n 0, 1) := by decide +kernel
theorem dL_law_582 : decode cL_law 582 = .ok (.iload_n 3, 1) := by decide +kernel
theorem dL_law_583 : decode cL_law 583 = .ok (.iconst 2, 1) := by decide +kernel
theorem dL_law_584 : decode cL_law 584 = .ok (.iadd, 1) := by decide +kernel
theorem dL_law_585 : decode cL_law 585 = .ok (.iaload, 1) := by decide +kernel
theorem dL_law_586 : decode cL_law 586 = .ok (.aload_n 0, 1) := by decide +kernel
theorem dL_law_587 : decode cL_law 587 = .ok (.iload_n 3, 1) := by decide +kernel
theorem dL_law_588 : decode cL_law 588 = .ok (.iconst 3, 1) := by decide +kernel
theorem dL_law_589 : decode cL_law 589 = .ok (.iadd, 1) := by decide +kernel
theorem dL_law_590 : decode cL_law 590 = .ok (.iaload, 1) := by decide +kernel
theorem dL_law_591 : decode cL_law 591 = .ok (.invokevirtual 87, 3) := by decide +kernel
theorem dL_law_594 : decode cL_law 594 = .ok (.aload_n 2, 1) := by decide +kernel
theorem dL_law_595 : decode cL_law 595 = .ok (.aload_n 0, 1) := by decide +kernel
theorem dL_law_596 : decode cL_law 596 = .ok (.iload_n 3, 1) := by decide +kernel
theorem dL_law_597 : decode cL_law 597 = .ok (.iconst 1, 1) := by decide +kernel
theorem dL_law_598 : decode cL_law 598 = .ok (.iadd, 1) := by decide +kernel
theorem dL_law_599 : decode cL_law 599 = .ok (.iaload, 1) := by decide +kernel
theorem dL_law_600 : decode cL_law 600 = .ok (.aload_n 0, 1) := by decide +kernel
theorem dL_law_601 : decode cL_law 601 = .ok (.iload_n 3, 1) := by decide +kernel
theorem dL_law_602 : decode cL_law 602 = .ok (.iconst 2, 1) := by decide +kernel
theorem dL_law_603 : decode cL_law 603 = .ok (.iadd, 1) := by decide +kernel
theorem dL_law_604 : decode cL_law 604 = .ok (.iaload, 1) := by decide +kernel
theorem dL_law_605 : decode cL_law 605 = .ok (.aload_n 0, 1) := by decide +kernel
theorem dL_law_606 : decode cL_law 606 = .ok (.iload_n 3, 1) := by decide +kernel
theorem dL_law_607 : decode cL_law 607 = .ok (.iconst 3, 1) := by decide +kernel
theorem dL_law_608 : decode cL_law 608 = .ok (.iadd, 1) := by decide +kernel
theorem dL_law_609 : decode cL_law 609 = .ok (.iaload, 1) := by decide +kernel
theorem dL_law_610 : decode cL_law 610 = .ok (.invokevirtual 90, 3) := by decide +kernel
theorem dL_law_613 : decode cL_law 613 = .ok (.if_icmp .eq 268, 3) := by decide +kernel
theorem dL_law_616 : decode cL_law 616 = .ok (.iconst 0, 1) := by decide +kernel
theorem dL_law_617 : decode cL_law 617 = .ok (.ireturn, 1) := by decide +kernel
theorem dL_law_618 : decode cL_law 618 = .ok (.aload_n 1, 1) := by decide +kernel
theorem dL_law_619 : decode cL_law 619 = .ok (.aload_n 0, 1) := by decide +kernel
theorem dL_law_620 : decode cL_law 620 = .ok (.iload_n 3, 1) := by decide +kernel
theorem dL_law_621 : decode cL_law 621 = .ok (.iconst 1, 1) := by decide +kernel
theorem dL_law_622 : decode cL_law 622 = .ok (.iadd, 1) := by decide +kernel
theorem dL_law_623 : decode cL_law 623 = .ok (.iaload, 1) := by decide +kernel
theorem dL_law_624 : decode cL_law 624 = .ok (.aload_n 0, 1) := by decide +kernel
theorem dL_law_625 : decode cL_law 625 = .ok (.iload_n 3, 1) := by decide +kernel
theorem dL_law_626 : decode cL_law 626 = .ok (.iconst 2, 1) := by decide +kernel
theorem dL_law_627 : decode cL_law 627 = .ok (.iadd, 1) := by decide +kernel
theorem dL_law_628 : decode cL_law 628 = .ok (.iaload, 1) := by decide +kernel
theorem dL_law_629 : decode cL_law 629 = .ok (.invokevirtual 91, 3) := by decide +kernel
theorem dL_law_632 : decode cL_law 632 = .ok (.aload_n 2, 1) := by decide +kernel
theorem dL_law_633 : decode cL_law 633 = .ok (.aload_n 0, 1) := by decide +kernel
theorem dL_law_634 : decode cL_law 634 = .ok (.iload_n 3, 1) := by decide +kernel
theorem dL_law_635 : decode cL_law 635 = .ok (.iconst 1, 1) := by decide +kernel
theorem dL_law_636 : decode cL_law 636 = .ok (.iadd, 1) := by decide +kernel
theorem dL_law_637 : decode cL_law 637 = .ok (.iaload, 1) := by decide +kernel
theorem dL_law_638 : decode cL_law 638 = .ok (.aload_n 0, 1) := by decide +kernel
theorem dL_law_639 : decode cL_law 639 = .ok (.iload_n 3, 1) := by decide +kernel
theorem dL_law_640 : decode cL_law 640 = .ok (.iconst 2, 1) := by decide +kernel
theorem dL_law_641 : decode cL_law 641 = .ok (.iadd, 1) := by decide +kernel
theorem dL_law_642 : decode cL_law 642 = .ok (.iaload, 1) := by decide +kernel
theorem dL_law_643 : decode cL_law 643 = .ok (.invokevirtual 94, 3) := by decide +kernel
theorem dL_law_646 : decode cL_law 646 = .ok (.if_icmp .eq 235, 3) := by decide +kernel
theorem dL_law_649 : decode cL_law 649 = .ok (.iconst 0, 1) := by decide +kernel
theorem dL_law_650 : decode cL_law 650 = .ok (.ireturn, 1) := by decide +kernel
theorem dL_law_651 : decode cL_law 651 = .ok (.aload_n 1, 1) := by decide +kernel
theorem dL_law_652 : decode cL_law 652 = .ok (.aload_n 0, 1) := by decide +kernel
theorem dL_law_653 : decode cL_law 653 = .ok (.iload_n 3, 1) := by decide +kernel
theorem dL_law_654 : decode cL_law 654 = .ok (.iconst 1, 1) := by decide +kernel
theorem dL_law_655 : decode cL_law 655 = .ok (.iadd, 1) := by decide +kernel
theorem dL_law_656 : decode cL_law 656 = .ok (.iaload, 1) := by decide +kernel
theorem dL_law_657 : decode cL_law 657 = .ok (.invokevirtual 95, 3) := by decide +kernel
theorem dL_law_660 : decode cL_law 660 = .ok (.aload_n 2, 1) := by decide +kernel
theorem dL_law_661 : decode cL_law 661 = .ok (.aload_n 0, 1) := by decide +kernel
theorem dL_law_662 : decode cL_law 662 = .ok (.iload_n 3, 1) := by decide +kernel
theorem dL_law_663 : decode cL_law 663 = .ok (.iconst 1, 1) := by decide +kernel
theorem dL_law_664 : decode cL_law 664 = .ok (.iadd, 1) := by decide +kernel
theorem dL_law_665 : decode cL_law 665 = .ok (.iaload, 1) := by decide +kernel
theorem dL_law_666 : decode cL_law 666 = .ok (.invokevirtual 98, 3) := by decide +kernel
theorem dL_law_669 : decode cL_law 669 = .ok (.if_icmp .eq 212, 3) := by decide +kernel
theorem dL_law_672 : decode cL_law 672 = .ok (.iconst 0, 1) := by decide +kernel
theorem dL_law_673 : decode cL_law 673 = .ok (.ireturn, 1) := by decide +kernel
theorem dL_law_674 : decode cL_law 674 = .ok (.aload_n 1, 1) := by decide +kernel
theorem dL_law_675 : decode cL_law 675 = .ok (.aload_n 0, 1) := by decide +kernel
theorem dL_law_676 : decode cL_law 676 = .ok (.iload_n 3, 1) := by decide +kernel
theorem dL_law_677 : decode cL_law 677 = .ok (.iconst 1, 1) := by decide +kernel
theorem dL_law_678 : decode cL_law 678 = .ok (.iadd, 1) := by decide +kernel
theorem dL_law_679 : decode cL_law 679 = .ok (.iaload, 1) := by decide +kernel
theorem dL_law_680 : decode cL_law 680 = .ok (.aload_n 0, 1) := by decide +kernel
theorem dL_law_681 : decode cL_law 681 = .ok (.iload_n 3, 1) := by decide +kernel
theorem dL_law_682 : decode cL_law 682 = .ok (.iconst 2, 1) := by decide +kernel
theorem dL_law_683 : decode cL_law 683 = .ok (.iadd, 1) := by decide +kernel
theorem dL_law_684 : decode cL_law 684 = .ok (.iaload, 1) := by decide +kernel
theorem dL_law_685 : decode cL_law 685 = .ok (.invokevirtual 99, 3) := by decide +kernel
theorem dL_law_688 : decode cL_law 688 = .ok (.aload_n 2, 1) := by decide +kernel
theorem dL_law_689 : decode cL_law 689 = .ok (.aload_n 0, 1) := by decide +kernel
theorem dL_law_690 : decode cL_law 690 = .ok (.iload_n 3, 1) := by decide +kernel
theorem dL_law_691 : decode cL_law 691 = .ok (.iconst 1, 1) := by decide +kernel
theorem dL_law_692 : decode cL_law 692 = .ok (.iadd, 1) := by decide +kernel
theorem dL_law_693 : decode cL_law 693 = .ok (.iaload, 1) := by decide +kernel
theorem dL_law_694 : decode cL_law 694 = .ok (.aload_n 0, 1) := by decide +kernel
theorem dL_law_695 : decode cL_law 695 = .ok (.iload_n 3, 1) := by decide +kernel
theorem dL_law_696 : decode cL_law 696 = .ok (.iconst 2, 1) := by decide +kernel
theorem dL_law_697 : decode cL_law 697 = .ok (.iadd, 1) := by decide +kernel
theorem dL_law_698 : decode cL_law 698 = .ok (.iaload, 1) := by decide +kernel
theorem dL_law_699 : decode cL_law 699 = .ok (.invokevirtual 102, 3) := by decide +kernel
theorem dL_law_702 : decode cL_law 702 = .ok (.if_icmp .eq 179, 3) := by decide +kernel
theorem dL_law_705 : decode cL_law 705 = .ok (.iconst 0, 1) := by decide +kernel
theorem dL_law_706 : decode cL_law 706 = .ok (.ireturn, 1) := by decide +kernel
theorem dL_law_707 : decode cL_law 707 = .ok (.aload_n 1, 1) := by decide +kernel
theorem dL_law_708 : decode cL_law 708 = .ok (.aload_n 0, 1) := by decide +kernel
theorem dL_law_709 : decode cL_law 709 = .ok (.iload_n 3, 1) := by decide +kernel
theorem dL_law_710 : decode cL_law 710 = .ok (.iconst 1, 1) := by decide +kernel
theorem dL_law_711 : decode cL_law 711 = .ok (.iadd, 1) := by decide +kernel
theorem dL_law_712 : decode cL_law 712 = .ok (.iaload, 1) := by decide +kernel
theorem dL_law_713 : decode cL_law 713 = .ok (.aload_n 0, 1) := by decide +kernel
theorem dL_law_714 : decode cL_law 714 = .ok (.iload_n 3, 1) := by decide +kernel
theorem dL_law_715 : decode cL_law 715 = .ok (.iconst 2, 1) := by decide +kernel
theorem dL_law_716 : decode cL_law 716 = .ok (.iadd, 1) := by decide +kernel
theorem dL_law_717 : decode cL_law 717 = .ok (.iaload, 1) := by decide +kernel
theorem dL_law_718 : decode cL_law 718 = .ok (.invokevirtual 103, 3) := by decide +kernel
theorem dL_law_721 : decode cL_law 721 = .ok (.aload_n 2, 1) := by decide +kernel
theorem dL_law_722 : decode cL_law 722 = .ok (.aload_n 0, 1) := by decide +kernel
theorem dL_law_723 : decode cL_law 723 = .ok (.iload_n 3, 1) := by decide +kernel
theorem dL_law_724 : decode cL_law 724 = .ok (.iconst 1, 1) := by decide +kernel
theorem dL_law_725 : decode cL_law 725 = .ok (.iadd, 1) := by decide +kernel
theorem dL_law_726 : decode cL_law 726 = .ok (.iaload, 1) := by decide +kernel
theorem dL_law_727 : decode cL_law 727 = .ok (.aload_n 0, 1) := by decide +kernel
theorem dL_law_728 : decode cL_law 728 = .ok (.iload_n 3, 1) := by decide +kernel
theorem dL_law_729 : decode cL_law 729 = .ok (.iconst 2, 1) := by decide +kernel
theorem dL_law_730 : decode cL_law 730 = .ok (.iadd, 1) := by decide +kernel
theorem dL_law_731 : decode cL_law 731 = .ok (.iaload, 1) := by decide +kernel
theorem dL_law_732 : decode cL_law 732 = .ok (.invokevirtual 106, 3) := by decide +kernel
theorem dL_law_735 : decode cL_law 735 = .ok (.if_icmp .eq 146, 3) := by decide +kernel
theorem dL_law_738 : decode cL_law 738 = .ok (.iconst 0, 1) := by decide +kernel
theorem dL_law_739 : decode cL_law 739 = .ok (.ireturn, 1) := by decide +kernel
theorem dL_law_740 : decode cL_law 740 = .ok (.aload_n 1, 1) := by decide +kernel
theorem dL_law_741 : decode cL_law 741 = .ok (.aload_n 0, 1) := by decide +kernel
theorem dL_law_742 : decode cL_law 742 = .ok (.iload_n 3, 1) := by decide +kernel
theorem dL_law_743 : decode cL_law 743 = .ok (.iconst 1, 1) := by decide +kernel
theorem dL_law_744 : decode cL_law 744 = .ok (.iadd, 1) := by decide +kernel
theorem dL_law_745 : decode cL_law 745 = .ok (.iaload, 1) := by decide +kernel
theorem dL_law_746 : decode cL_law 746 = .ok (.invokevirtual 107, 3) := by decide +kernel
theorem dL_law_749 : decode cL_law 749 = .ok (.aload_n 2, 1) := by decide +kernel
theorem dL_law_750 : decode cL_law 750 = .ok (.aload_n 0, 1) := by decide +kernel
theorem dL_law_751 : decode cL_law 751 = .ok (.iload_n 3, 1) := by decide +kernel
theorem dL_law_752 : decode cL_law 752 = .ok (.iconst 1, 1) := by decide +kernel
theorem dL_law_753 : decode cL_law 753 = .ok (.iadd, 1) := by decide +kernel
theorem dL_law_754 : decode cL_law 754 = .ok (.iaload, 1) := by decide +kernel
theorem dL_law_755 : decode cL_law 755 = .ok (.invokevirtual 110, 3) := by decide +kernel
theorem dL_law_758 : decode cL_law 758 = .ok (.if_icmp .eq 123, 3) := by decide +kernel
theorem dL_law_761 : decode cL_law 761 = .ok (.iconst 0, 1) := by decide +kernel
theorem dL_law_762 : decode cL_law 762 = .ok (.ireturn, 1) := by decide +kernel
theorem dL_law_763 : decode cL_law 763 = .ok (.aload_n 1, 1) := by decide +kernel
theorem dL_law_764 : decode cL_law 764 = .ok (.aload_n 0, 1) := by decide +kernel
theorem dL_law_765 : decode cL_law 765 = .ok (.iload_n 3, 1) := by decide +kernel
theorem dL_law_766 : decode cL_law 766 = .ok (.iconst 1, 1) := by decide +kernel
theorem dL_law_767 : decode cL_law 767 = .ok (.iadd, 1) := by decide +kernel
theorem dL_law_768 : decode cL_law 768 = .ok (.iaload, 1) := by decide +kernel
theorem dL_law_769 : decode cL_law 769 = .ok (.invokevirtual 111, 3) := by decide +kernel
theorem dL_law_772 : decode cL_law 772 = .ok (.aload_n 2, 1) := by decide +kernel
theorem dL_law_773 : decode cL_law 773 = .ok (.aload_n 0, 1) := by decide +kernel
theorem dL_law_774 : decode cL_law 774 = .ok (.iload_n 3, 1) := by decide +kernel
theorem dL_law_775 : decode cL_law 775 = .ok (.iconst 1, 1) := by decide +kernel
theorem dL_law_776 : decode cL_law 776 = .ok (.iadd, 1) := by decide +kernel
theorem dL_law_777 : decode cL_law 777 = .ok (.iaload, 1) := by decide +kernel
theorem dL_law_778 : decode cL_law 778 = .ok (.invokevirtual 114, 3) := by decide +kernel
theorem dL_law_781 : decode cL_law 781 = .ok (.if_icmp .eq 100, 3) := by decide +kernel
theorem dL_law_784 : decode cL_law 784 = .ok (.iconst 0, 1) := by decide +kernel
theorem dL_law_785 : decode cL_law 785 = .ok (.ireturn, 1) := by decide +kernel
theorem dL_law_786 : decode cL_law 786 = .ok (.aload_n 1, 1) := by decide +kernel
theorem dL_law_787 : decode cL_law 787 = .ok (.aload_n 0, 1) := by decide +kernel
theorem dL_law_788 : decode cL_law 788 = .ok (.iload_n 3, 1) := by decide +kernel
theorem dL_law_789 : decode cL_law 789 = .ok (.iconst 1, 1) := by decide +kernel
theorem dL_law_790 : decode cL_law 790 = .ok (.iadd, 1) := by decide +kernel
theorem dL_law_791 : decode cL_law 791 = .ok (.iaload, 1) := by decide +kernel
theorem dL_law_792 : decode cL_law 792 = .ok (.aload_n 0, 1) := by decide +kernel
theorem dL_law_793 : decode cL_law 793 = .ok (.iload_n 3, 1) := by decide +kernel
theorem dL_law_794 : decode cL_law 794 = .ok (.iconst 2, 1) := by decide +kernel
theorem dL_law_795 : decode cL_law 795 = .ok (.iadd, 1) := by decide +kernel
theorem dL_law_796 : decode cL_law 796 = .ok (.iaload, 1) := by decide +kernel
theorem dL_law_797 : decode cL_law 797 = .ok (.ifCond .eq 7, 3) := by decide +kernel
theorem dL_law_800 : decode cL_law 800 = .ok (.iconst 1, 1) := by decide +kernel
theorem dL_law_801 : decode cL_law 801 = .ok (.goto 4, 3) := by decide +kernel
theorem dL_law_804 : decode cL_law 804 = .ok (.iconst 0, 1) := by decide +kernel
theorem dL_law_805 : decode cL_law 805 = .ok (.aload_n 0, 1) := by decide +kernel
theorem dL_law_806 : decode cL_law 806 = .ok (.iload_n 3, 1) := by decide +kernel
theorem dL_law_807 : decode cL_law 807 = .ok (.iconst 3, 1) := by decide +kernel
theorem dL_law_808 : decode cL_law 808 = .ok (.iadd, 1) := by decide +kernel
theorem dL_law_809 : decode cL_law 809 = .ok (.iaload, 1) := by decide +kernel
theorem dL_law_810 : decode cL_law 810 = .ok (.invokevirtual 115, 3) := by decide +kernel
theorem dL_law_813 : decode cL_law 813 = .ok (.aload_n 2, 1) := by decide +kernel
theorem dL_law_814 : decode cL_law 814 = .ok (.aload_n 0, 1) := by decide +kernel
theorem dL_law_815 : decode cL_law 815 = .ok (.iload_n 3, 1) := by decide +kernel
theorem dL_law_816 : decode cL_law 816 = .ok (.iconst 1, 1) := by decide +kernel
theorem dL_law_817 : decode cL_law 817 = .ok (.iadd, 1) := by decide +kernel
theorem dL_law_818 : decode cL_law 818 = .ok (.iaload, 1) := by decide +kernel
theorem dL_law_819 : decode cL_law 819 = .ok (.aload_n 0, 1) := by decide +kernel
theorem dL_law_820 : decode cL_law 820 = .ok (.iload_n 3, 1) := by decide +kernel
theorem dL_law_821 : decode cL_law 821 = .ok (.iconst 2, 1) := by decide +kernel
theorem dL_law_822 : decode cL_law 822 = .ok (.iadd, 1) := by decide +kernel
theorem dL_law_823 : decode cL_law 823 = .ok (.iaload, 1) := by decide +kernel
theorem dL_law_824 : decode cL_law 824 = .ok (.ifCond .eq 7, 3) := by decide +kernel
theorem dL_law_827 : decode cL_law 827 = .ok (.iconst 1, 1) := by decide +kernel
theorem dL_law_828 : decode cL_law 828 = .ok (.goto 4, 3) := by decide +kernel
theorem dL_law_831 : decode cL_law 831 = .ok (.iconst 0, 1) := by decide +kernel
theorem dL_law_832 : decode cL_law 832 = .ok (.aload_n 0, 1) := by decide +kernel
theorem dL_law_833 : decode cL_law 833 = .ok (.iload_n 3, 1) := by decide +kernel
theorem dL_law_834 : decode cL_law 834 = .ok (.iconst 3, 1) := by decide +kernel
theorem dL_law_835 : decode cL_law 835 = .ok (.iadd, 1) := by decide +kernel
theorem dL_law_836 : decode cL_law 836 = .ok (.iaload, 1) := by decide +kernel
theorem dL_law_837 : decode cL_law 837 = .ok (.invokevirtual 119, 3) := by decide +kernel
theorem dL_law_840 : decode cL_law 840 = .ok (.if_icmp .eq 41, 3) := by decide +kernel
theorem dL_law_843 : decode cL_law 843 = .ok (.iconst 0, 1) := by decide +kernel
theorem dL_law_844 : decode cL_law 844 = .ok (.ireturn, 1) := by decide +kernel
theorem dL_law_845 : decode cL_law 845 = .ok (.aload_n 1, 1) := by decide +kernel
theorem dL_law_846 : decode cL_law 846 = .ok (.invokevirtual 120, 3) := by decide +kernel
theorem dL_law_849 : decode cL_law 849 = .ok (.aload_n 2, 1) := by decide +kernel
theorem dL_law_850 : decode cL_law 850 = .ok (.invokevirtual 123, 3) := by decide +kernel
theorem dL_law_853 : decode cL_law 853 = .ok (.if_icmp .eq 28, 3) := by decide +kernel
theorem dL_law_856 : decode cL_law 856 = .ok (.iconst 0, 1) := by decide +kernel
theorem dL_law_857 : decode cL_law 857 = .ok (.ireturn, 1) := by decide +kernel
theorem dL_law_858 : decode cL_law 858 = .ok (.aload_n 1, 1) := by decide +kernel
theorem dL_law_859 : decode cL_law 859 = .ok (.aload_n 0, 1) := by decide +kernel
theorem dL_law_860 : decode cL_law 860 = .ok (.iload_n 3, 1) := by decide +kernel
theorem dL_law_861 : decode cL_law 861 = .ok (.iconst 1, 1) := by decide +kernel
theorem dL_law_862 : decode cL_law 862 = .ok (.iadd, 1) := by decide +kernel
theorem dL_law_863 : decode cL_law 863 = .ok (.iaload, 1) := by decide +kernel
theorem dL_law_864 : decode cL_law 864 = .ok (.invokevirtual 124, 3) := by decide +kernel
theorem dL_law_867 : decode cL_law 867 = .ok (.aload_n 2, 1) := by decide +kernel
theorem dL_law_868 : decode cL_law 868 = .ok (.aload_n 0, 1) := by decide +kernel
theorem dL_law_869 : decode cL_law 869 = .ok (.iload_n 3, 1) := by decide +kernel
theorem dL_law_870 : decode cL_law 870 = .ok (.iconst 1, 1) := by decide +kernel
theorem dL_law_871 : decode cL_law 871 = .ok (.iadd, 1) := by decide +kernel
theorem dL_law_872 : decode cL_law 872 = .ok (.iaload, 1) := by decide +kernel
theorem dL_law_873 : decode cL_law 873 = .ok (.invokevirtual 127, 3) := by decide +kernel
theorem dL_law_876 : decode cL_law 876 = .ok (.if_icmp .eq 5, 3) := by decide +kernel
theorem dL_law_879 : decode cL_law 879 = .ok (.iconst 0, 1) := by decide +kernel
theorem dL_law_880 : decode cL_law 880 = .ok (.ireturn, 1) := by decide +kernel
theorem dL_law_881 : decode cL_law 881 = .ok (.iinc 3 4, 3) := by decide +kernel
theorem dL_law_884 : decode cL_law 884 = .ok (.goto (-866), 3) := by decide +kernel
theorem dL_law_887 : decode cL_law 887 = .ok (.iconst 1, 1) := by decide +kernel
theorem dL_law_888 : decode cL_law 888 = .ok (.ireturn, 1) := by decide +kernel
end
section
/-! THE WORLD: ids in the order of making; address = base + id -/
abbrev Wd : Type := (Nat → Nat → Int32) × (Nat → Int64) × (Nat → Nat → Nat)
abbrev Ly : Type := List (Nat × Nat)
abbrev Ex : Type := va_G × ClassId × ClassId × ClassId × Nat × Ly × (Nat → Nat) × (Nat → Nat)
def bz (x : Int32) : Int32 := if x = 0 then 0 else 1
def sI (w : Wd) (k j : Nat) (x : Int32) : Wd := (fun a => if a = k then upd (w.1 k) j x else w.1 a, w.2)
def sA (w : Wd) (k : Nat) (f : Nat → Int32) : Wd := (fun a => if a = k then f else w.1 a, w.2)
def sL (w : Wd) (k : Nat) (x : Int64) : Wd := (w.1, fun a => if a = k then x else w.2.1 a, w.2.2)
def sR (w : Wd) (k j : Nat) (x : Nat) : Wd := (w.1, w.2.1, fun a => if a = k then va_up (w.2.2 k) j x else w.2.2 a)
def yF (B : Nat) (w : Wd) (k ci : Nat) : List Value := match ci with
  | 0 => [.ref (B + (k + 1)), .int (w.1 k 1)]
  | 1 => [.ref (B + (k + 1)), .ref (B + (k + 2)), .ref (B + (k + 3)), .ref (B + (k + 4)), .ref (B + (k + 5)), .long (w.2.1 k), .int (w.1 k 6)]
  | 2 => [.int (bz (w.1 k 0)), .int (w.1 k 1), .int (bz (w.1 k 2)), .int (w.1 k 3), .int (w.1 k 4), .int (w.1 k 5), .int (w.1 k 6), .ref (B + (k + 1)), .ref (B + (k + 2)), .ref (B + (k + 3)), .ref (B + (k + 4)), .ref (B + (k + 5)), .ref (B + (k + 6)), .ref (B + (k + 7)), .ref (B + (k + 8)), .int (w.1 k 15)]
  | 3 => [.ref (B + (k + 1)), .ref (B + (k + 7)), .int (w.1 k 2), .int (w.1 k 3)]
  | 4 => [.ref (B + (k + 1)), .int (w.1 k 1), .int (w.1 k 2), .ref (B + (k + 2))]
  | 5 => [.ref (B + (k + 1)), .ref (B + (k + 17)), .ref (B + (k + 83)), .int (bz (w.1 k 3)), .ref (B + (k + 99)), .ref (B + (k + 102))]
  | 6 => [.ref (B + (k + 1)), .ref (B + (k + 2)), .ref (B + (k + 3)), .ref (B + (k + 4)), .ref (B + (k + 5)), .int (w.1 k 5), .int (bz (w.1 k 6)), .ref (B + (k + 6)), .int (w.1 k 8), .int (w.1 k 9), .int (bz (w.1 k 10)), .ref (B + (k + 7))]
  | _ => []
def yC (E : Ex) (w : Wd) (k : Nat) (t : Nat × Nat) : va_E := match t.1 with
  | 0 => .inl (E.2.1, t.2, .inl (w.1 k))
  | 1 => .inl (E.2.2.1, t.2, .inl (w.1 k))
  | 2 => .inl (E.2.2.2.1, t.2, .inr (.inr (.inr (.inr (fun j => some (E.2.2.2.2.1 + w.2.2 k j))))))
  | n + 3 => .inr (n, yF E.2.2.2.2.1 w k n)
def yW (E : Ex) (w : Wd) : va_W := (List.range E.2.2.2.2.2.1.length).map (fun k => (E.2.2.2.2.1 + k, yC E w k (E.2.2.2.2.2.1.getD k (0, 0))))
def yA (E : Ex) : Nat → Prop := fun q => E.2.2.2.2.1 ≤ q
theorem yW_get {E : Ex} {w : Wd} {k : Nat} {t : Nat × Nat} (h : E.2.2.2.2.2.1[k]? = some t) : (yW E w)[k]? = some (E.2.2.2.2.1 + k, yC E w k t) := by
  have hk : k < E.2.2.2.2.2.1.length := (List.getElem?_eq_some_iff.mp h).1
  unfold yW
  rw [List.getElem?_map, List.getElem?_range hk]
  simp [h]
theorem yW_of {E : Ex} {w : Wd} {k : Nat} {q : Nat × va_E} (h : (yW E w)[k]? = some q) : ∃ t, E.2.2.2.2.2.1[k]? = some t ∧ q = (E.2.2.2.2.1 + k, yC E w k t) := by
  have hk : k < (yW E w).length := (List.getElem?_eq_some_iff.mp h).1
  have hk2 : k < E.2.2.2.2.2.1.length := by simpa [yW] using hk
  have h2 : E.2.2.2.2.2.1[k]? = some E.2.2.2.2.2.1[k] := List.getElem?_eq_getElem hk2
  refine ⟨_, h2, ?_⟩
  have := yW_get (w := w) h2
  rw [h] at this
  exact Option.some.inj this
theorem yW_D (E : Ex) (w : Wd) : va_D (yA E) (yW E w) := by
  refine ⟨fun i j p q hi hj hpq => ?_, fun k q hk => ?_⟩
  · obtain ⟨t, -, rfl⟩ := yW_of hi
    obtain ⟨t', -, rfl⟩ := yW_of hj
    exact Nat.add_left_cancel hpq
  · obtain ⟨t, -, rfl⟩ := yW_of hk
    exact Nat.le_add_right _ _
/-- one cell is written: the world behind -/
theorem yW_set {E : Ex} {w w' : Wd} {k : Nat} {t : Nat × Nat} {e : va_E} (h : E.2.2.2.2.2.1[k]? = some t) (he : e = yC E w' k t) (ho : ∀ j, j ≠ k → ∀ u, yC E w j u = yC E w' j u) : (yW E w).set k (E.2.2.2.2.1 + k, e) = yW E w' := by
  subst he
  apply List.ext_getElem?
  intro j
  by_cases hj : j = k
  · subst hj
    rw [yW_get (w := w') h, List.getElem?_set_self (List.getElem?_eq_some_iff.mp (yW_get (w := w) h)).1]
  · rw [List.getElem?_set_ne (Ne.symm hj)]
    cases hu : E.2.2.2.2.2.1[j]? with
    | some u => rw [yW_get (w := w) hu, yW_get (w := w') hu, ho j hj u]
    | none =>
      have hl : E.2.2.2.2.2.1.length ≤ j := by simpa using hu
      rw [List.getElem?_eq_none (by simpa [yW] using hl), List.getElem?_eq_none (by simpa [yW] using hl)]
theorem yC_cong {E : Ex} {w w' : Wd} {k : Nat} (h1 : w.1 k = w'.1 k) (h2 : w.2.1 k = w'.2.1 k) (h3 : w.2.2 k = w'.2.2 k) (u : Nat × Nat) : yC E w k u = yC E w' k u := by
  unfold yC yF
  rw [h1, h2, h3]
theorem yC_sI {E : Ex} {w : Wd} {k j : Nat} {x : Int32} : ∀ i, i ≠ k → ∀ u, yC E w i u = yC E (sI w k j x) i u := fun i hi u => yC_cong (w := w) (w' := sI w k j x) (by simp [sI, hi]) rfl rfl u
theorem yC_sA {E : Ex} {w : Wd} {k : Nat} {f : Nat → Int32} : ∀ i, i ≠ k → ∀ u, yC E w i u = yC E (sA w k f) i u := fun i hi u => yC_cong (w := w) (w' := sA w k f) (by simp [sA, hi]) rfl rfl u
theorem yC_sL {E : Ex} {w : Wd} {k : Nat} {x : Int64} : ∀ i, i ≠ k → ∀ u, yC E w i u = yC E (sL w k x) i u := fun i hi u => yC_cong (w := w) (w' := sL w k x) rfl (by simp [sL, hi]) rfl u
theorem yC_sR {E : Ex} {w : Wd} {k j x : Nat} : ∀ i, i ≠ k → ∀ u, yC E w i u = yC E (sR w k j x) i u := fun i hi u => yC_cong (w := w) (w' := sR w k j x) rfl rfl (by simp [sR, hi]) u
/-! THE WORDS -/
def TB : List Cond := lw_tbl.filter goodWord
def isNest (w : Cond) : Bool := match w with
  | .fieldLinkNest .. => true
  | .methodLinkNest .. => true
  | _ => false
def NWs : List Cond := tables_1.filter isNest
theorem TB_good : GoodIn TB TB := fun w h => ⟨h, good_of_word (List.mem_filter.mp h).2⟩
abbrev yws (y : MethodName) (cc : ByteArray) (maxL : Nat) (rt : Option FieldType) : List Cond := Cond.code y cc maxL rt :: TB
theorem yws_good {y : MethodName} {cc : ByteArray} {maxL : Nat} {rt : Option FieldType} (h : Cond.code y cc maxL rt ∈ TB) : GoodIn TB (yws y cc maxL rt) := fun w hw => by
  rcases List.mem_cons.mp hw with rfl | hw
  · exact TB_good _ h
  · exact TB_good _ hw
theorem TB_m {w : Cond} (i : Nat) (h : tables_1[i]? = some w) (hg : goodWord w = true) : w ∈ TB := List.mem_filter.mpr ⟨List.mem_append_right _ (List.mem_of_getElem? h), hg⟩
theorem TB_s {q : MethodName × Nat} (i : Nat) (h : lw_privs[i]? = some q) (hg : goodWord (Cond.selects q.1.cls q.1 q.1) = true) : Cond.selects q.1.cls q.1 q.1 ∈ TB := List.mem_filter.mpr ⟨List.mem_append_left _ (List.mem_map.mpr ⟨q, List.mem_of_getElem? h, rfl⟩), hg⟩
/-! THE CONTEXT -/
abbrev yTys (E : Ex) : List (ClassId × FieldType) := [(E.2.1, .int), (E.2.2.1, .char), (E.2.2.2.1, .object RX3)]
def yKK (E : Ex) (U : State) : Prop := va_K E.1 vwCl (yTys E) U ∧ ∀ w ∈ NWs, va_Nw w U
theorem NWs_on {w : Cond} (h : w ∈ NWs) : w.onTables = true := by
  have := (List.mem_filter.mp h).2
  cases w <;> first | rfl | cases this
theorem yKK.same {E : Ex} {u U : State} (h : yKK E u) (hv : u.vm = U.vm) : yKK E U :=
  ⟨va_K.moved (by rw [hv]; exact Vm.Alike.refl _) h.1, fun w hw => va_Nw.same (NWs_on hw) hv (h.2 w hw)⟩
theorem yKK.warm {E : Ex} {s U : State} (h : yKK E s) (hW : s.WarmedH U.vm) : yKK E U :=
  ⟨va_K.moved hW.alike h.1, fun w hw => by
    have h1 := (List.mem_filter.mp hw).2
    have h2 := h.2 w hw
    cases w <;> first | exact va_Nw.warmF hW h2 | exact va_Nw.warmM hW h2 | cases h1⟩
/-! THE STRING CONSTANTS and what the JDK's statics hold -/
def lenS : List Nat := [3, 4, 6, 5, 6, 5, 4]
def bytS : List (List Int32) := [[97, 100, 100], [100, 114, 111, 112], [119, 101, 105, 103, 104, 116], [98, 114, 105, 98, 101], [100, 101, 108, 101, 116, 101], [98, 114, 105, 110, 103], [119, 97, 110, 116]]
def txtS : List String := ["add", "drop", "weight", "bribe", "delete", "bring", "want"]
def idxS : List Nat := [67, 69, 71, 73, 75, 77, 79]
def yST (E : Ex) (U : State) (H : Heap) : Prop := vk_S 7 lenS bytS E.2.2.2.2.2.2.1 E.2.2.2.2.2.2.2 (yA E) U H ∧ (∀ i, i < 7 → vk_R RX4 (idxS.getD i 0) (txtS.getD i "") (E.2.2.2.2.2.2.1 i) U) ∧ va_Z "java/lang/String" "COMPACT_STRINGS" "Z" (.int 1) (yA E) U H ∧ va_Zq "jdk/internal/util/Preconditions" "SIOOBE_FORMATTER" "Ljava/util/function/BiFunction;" (yA E) U H
theorem yST.same {E : Ex} {u U : State} {H : Heap} (h : yST E u H) (hv : u.vm = U.vm) : yST E U H :=
  have ha : u.vm.Alike U.vm := by rw [hv]; exact Vm.Alike.refl _
  ⟨vk_S.moved ha h.1, fun i hi => vk_R.same hv.symm (h.2.1 i hi), va_Z.moved ha h.2.2.1, va_Zq.moved ha h.2.2.2⟩
theorem yST.warm {E : Ex} {s U : State} {H : Heap} (h : yST E s H) (hW : s.WarmedH U.vm) : yST E U H :=
  ⟨vk_S.moved hW.alike h.1, fun i hi => vk_R.warm hW (h.2.1 i hi), va_Z.moved hW.alike h.2.2.1, va_Zq.moved hW.alike h.2.2.2⟩
theorem yST.kept {E : Ex} {U : State} {H H1 : Heap} (h : yST E U H) (hq : ∀ a : Nat, a < H.size → ¬ yA E a → H1[a]? = H[a]?) : yST E U H1 :=
  ⟨vk_S.kept h.1 hq, h.2.1, va_Z.kept h.2.2.1 hq, va_Zq.kept h.2.2.2 hq⟩
abbrev Gx : Type := Program × Launch × Env × Room × State × MethodId × Array Value × List Frame × Method × Code × Nat × Nat
def CC (g : Gx) (E : Ex) (cc : ByteArray) (nL : Nat) (own : String) (nf nl : Nat) : Prop :=
  g.1.tables.exec = Jvm.exec ∧ g.2.2.2.2.2.2.2.2.2.1.code = cc ∧ g.2.2.2.2.2.2.2.2.2.1.maxLocals = nL ∧ g.2.2.2.2.1.vm.findClass own = some g.2.2.2.2.2.1.cls ∧ (∀ w ∈ TB, w.before g.2.2.2.2.2.2.1 g.2.2.2.2.1 = true) ∧ yKK E g.2.2.2.2.1 ∧ g.2.2.2.2.2.2.2.2.1.locks = false ∧ nf ≤ g.2.2.2.1.frames ∧ nl ≤ g.2.2.2.1.locals ∧ yST E g.2.2.2.2.1 g.2.2.2.2.1.heap ∧ (g.2.2.2.2.2.2.2.2.2.2.1 ≤ g.2.2.2.1.cells ∧ g.2.2.2.2.2.2.2.2.2.2.2 ≤ g.2.2.2.1.slots)
def YW (g : Gx) (H : Heap) (locs : List Loc) (Q : State → Prop) (f : JFrame) : Prop := W g.1 g.2.1 g.2.2.1 g.2.2.2.1 g.2.2.2.2.1 g.2.2.2.2.2.1 g.2.2.2.2.2.2.1 g.2.2.2.2.2.2.2.1 g.2.2.2.2.2.2.2.2.1 g.2.2.2.2.2.2.2.2.2.1 H locs g.2.2.2.2.2.2.2.2.2.2.1 g.2.2.2.2.2.2.2.2.2.2.2 Q f
def YO {ρ : Type} (g : Gx) (E : Ex) (nL : Nat) (QQ : ρ → State → Prop) (o : Option ρ) (w : Wd) (pc : Nat) (ls : List (Nat × Value)) (st : List Value) : Prop :=
  ∀ r, o = some r → ∀ (H : Heap) (locs : List Loc) (la : Array Slot), va_P E.1 vwCl (yW E w) H → va_S (yA E) g.2.2.2.2.1.heap H locs → lv_has la nL ls → YW g H locs (QQ r) (F0 g.2.2.2.2.2.1 pc la st)
end
section
section YR
variable {ρ : Type} {g : Gx} {E : Ex} {cc : ByteArray} {nL nf nl : Nat} {own : String} {QQ : ρ → State → Prop} {o : Option ρ} {w : Wd} {pc n : Nat} {ls ls' : List (Nat × Value)} {st : List Value}
theorem y_no : YO g E nL QQ (none : Option ρ) w pc ls st := fun r hr => by cases hr
theorem y_eq {o' : Option ρ} (h : o = o') (k : YO g E nL QQ o' w pc ls st) : YO g E nL QQ o w pc ls st := h ▸ k
theorem y_iload_n (C : CC g E cc nL own nf nl) {k : Fin 4} {x : Int32} (hd : decode cc pc = .ok (.iload_n k, 1)) (q : Nat) (hq : ls[q]? = some ((k : Nat), .int x)) (hn : pc + 1 = n) (kk : YO g E nL QQ o w n ls (.int x :: st)) : YO g E nL QQ o w pc ls st := by
  subst hn
  exact fun r hr H locs la hP hS hl => lv_iload_n C.1 C.2.1 hd rfl (lv_at hl q hq) (kk r hr H locs la hP hS hl)
theorem y_iload (C : CC g E cc nL own nf nl) {i : Nat} {x : Int32} (hd : decode cc pc = .ok (.iload i, 2)) (q : Nat) (hq : ls[q]? = some (i, .int x)) (hn : pc + 2 = n) (kk : YO g E nL QQ o w n ls (.int x :: st)) : YO g E nL QQ o w pc ls st := by
  subst hn
  exact fun r hr H locs la hP hS hl => lv_iload C.1 C.2.1 hd (lv_at hl q hq) (kk r hr H locs la hP hS hl)
theorem y_aload_n (C : CC g E cc nL own nf nl) {k : Fin 4} {x : Nat} (hd : decode cc pc = .ok (.aload_n k, 1)) (q : Nat) (hq : ls[q]? = some ((k : Nat), .ref x)) (hn : pc + 1 = n) (kk : YO g E nL QQ o w n ls (.ref x :: st)) : YO g E nL QQ o w pc ls st := by
  subst hn
  exact fun r hr H locs la hP hS hl => lv_aload_n C.1 C.2.1 hd rfl (lv_at hl q hq) (kk r hr H locs la hP hS hl)
theorem y_aload (C : CC g E cc nL own nf nl) {i : Nat} {x : Nat} (hd : decode cc pc = .ok (.aload i, 2)) (q : Nat) (hq : ls[q]? = some (i, .ref x)) (hn : pc + 2 = n) (kk : YO g E nL QQ o w n ls (.ref x :: st)) : YO g E nL QQ o w pc ls st := by
  subst hn
  exact fun r hr H locs la hP hS hl => lv_aload C.1 C.2.1 hd (lv_at hl q hq) (kk r hr H locs la hP hS hl)
theorem y_iconst (C : CC g E cc nL own nf nl) {i : Int} (v : Int32) (hd : decode cc pc = .ok (.iconst i, 1)) (hv : Int32.ofInt i = v) (hn : pc + 1 = n) (kk : YO g E nL QQ o w n ls (.int v :: st)) : YO g E nL QQ o w pc ls st := by
  subst hn
  exact fun r hr H locs la hP hS hl => lv_iconst C.1 C.2.1 hd hv (kk r hr H locs la hP hS hl)
theorem y_bipush (C : CC g E cc nL own nf nl) {i : Int} (v : Int32) (hd : decode cc pc = .ok (.bipush i, 2)) (hv : (Int8.ofInt i).toInt32 = v) (hn : pc + 2 = n) (kk : YO g E nL QQ o w n ls (.int v :: st)) : YO g E nL QQ o w pc ls st := by
  subst hn
  exact fun r hr H locs la hP hS hl => lv_bipush C.1 C.2.1 hd hv (kk r hr H locs la hP hS hl)
theorem y_sipush (C : CC g E cc nL own nf nl) {i : Int} (v : Int32) (hd : decode cc pc = .ok (.sipush i, 3)) (hv : (Int16.ofInt i).toInt32 = v) (hn : pc + 3 = n) (kk : YO g E nL QQ o w n ls (.int v :: st)) : YO g E nL QQ o w pc ls st := by
  subst hn
  exact fun r hr H locs la hP hS hl => lv_sipush C.1 C.2.1 hd hv (kk r hr H locs la hP hS hl)
theorem y_lconst (C : CC g E cc nL own nf nl) {i : Fin 2} (v : Int64) (hd : decode cc pc = .ok (.lconst i, 1)) (hv : Int64.ofNat (i : Nat) = v) (hn : pc + 1 = n) (kk : YO g E nL QQ o w n ls (.long v :: st)) : YO g E nL QQ o w pc ls st := by
  subst hn
  exact fun r hr H locs la hP hS hl => lv_lconst C.1 C.2.1 hd hv (kk r hr H locs la hP hS hl)
theorem y_dup (C : CC g E cc nL own nf nl) {v : Value} (hd : decode cc pc = .ok (.dup, 1)) (hv : v.category = 1) (hn : pc + 1 = n) (kk : YO g E nL QQ o w n ls (v :: v :: st)) : YO g E nL QQ o w pc ls (v :: st) := by
  subst hn
  exact fun r hr H locs la hP hS hl => lv_dup C.1 C.2.1 hd hv (kk r hr H locs la hP hS hl)
theorem y_dup2 (C : CC g E cc nL own nf nl) {v u : Value} (hd : decode cc pc = .ok (.dup2, 1)) (hv : v.category = 1) (hu : u.category = 1) (hn : pc + 1 = n) (kk : YO g E nL QQ o w n ls (v :: u :: v :: u :: st)) : YO g E nL QQ o w pc ls (v :: u :: st) := by
  subst hn
  exact fun r hr H locs la hP hS hl => lv_dup2_11 C.1 C.2.1 hd hv hu (kk r hr H locs la hP hS hl)
theorem y_pop (C : CC g E cc nL own nf nl) {v : Value} (hd : decode cc pc = .ok (.pop, 1)) (hv : v.category = 1) (hn : pc + 1 = n) (kk : YO g E nL QQ o w n ls st) : YO g E nL QQ o w pc ls (v :: st) := by
  subst hn
  exact fun r hr H locs la hP hS hl => lv_pop C.1 C.2.1 hd hv (kk r hr H locs la hP hS hl)
theorem y_istore_n (C : CC g E cc nL own nf nl) {k : Fin 4} {x : Int32} (hd : decode cc pc = .ok (.istore_n k, 1)) (hi : (k : Nat) < nL) (hq : ((k : Nat), Value.int x) :: ls.filter (fun q => !(q.1 == (k : Nat)) && !(q.1 + 1 == (k : Nat) && q.2.category == 2)) = ls') (hn : pc + 1 = n) (kk : YO g E nL QQ o w n ls' st) : YO g E nL QQ o w pc ls (.int x :: st) := by
  subst hn
  exact fun r hr H locs la hP hS hl => lv_istore_n C.1 C.2.1 hd rfl hl hi hq (fun la' hl' => kk r hr H locs la' hP hS hl')
theorem y_istore (C : CC g E cc nL own nf nl) {i : Nat} {x : Int32} (hd : decode cc pc = .ok (.istore i, 2)) (hi : i < nL) (hq : (i, Value.int x) :: ls.filter (fun q => !(q.1 == i) && !(q.1 + 1 == i && q.2.category == 2)) = ls') (hn : pc + 2 = n) (kk : YO g E nL QQ o w n ls' st) : YO g E nL QQ o w pc ls (.int x :: st) := by
  subst hn
  exact fun r hr H locs la hP hS hl => lv_istore C.1 C.2.1 hd hl hi hq (fun la' hl' => kk r hr H locs la' hP hS hl')
theorem y_astore_n (C : CC g E cc nL own nf nl) {k : Fin 4} {x : Nat} (hd : decode cc pc = .ok (.astore_n k, 1)) (hi : (k : Nat) < nL) (hq : ((k : Nat), Value.ref x) :: ls.filter (fun q => !(q.1 == (k : Nat)) && !(q.1 + 1 == (k : Nat) && q.2.category == 2)) = ls') (hn : pc + 1 = n) (kk : YO g E nL QQ o w n ls' st) : YO g E nL QQ o w pc ls (.ref x :: st) := by
  subst hn
  exact fun r hr H locs la hP hS hl => lv_astore_n C.1 C.2.1 hd rfl hl hi hq (fun la' hl' => kk r hr H locs la' hP hS hl')
theorem y_iinc (C : CC g E cc nL own nf nl) {i : Nat} {d : Int} {x v : Int32} (hd : decode cc pc = .ok (.iinc i d, 3)) (q : Nat) (hk : ls[q]? = some (i, .int x)) (hv : x + Int32.ofInt d = v) (hi : i < nL) (hq : (i, Value.int v) :: ls.filter (fun q => !(q.1 == i) && !(q.1 + 1 == i && q.2.category == 2)) = ls') (hn : pc + 3 = n) (kk : YO g E nL QQ o w n ls' st) : YO g E nL QQ o w pc ls st := by
  subst hn
  exact fun r hr H locs la hP hS hl => lv_iinc C.1 C.2.1 hd hl hk hv hi hq (fun la' hl' => kk r hr H locs la' hP hS hl')
/-- the locals in another order, or fewer -/
theorem y_ls (ks : List Nat) (h : lv_pick ls ks = ls') (kk : YO g E nL QQ o w pc ls' st) : YO g E nL QQ o w pc ls st := fun r hr H locs la hP hS hl => kk r hr H locs la hP hS (lv_sub hl ks h)
theorem y_iadd (C : CC g E cc nL own nf nl) {x y : Int32} (hd : decode cc pc = .ok (.iadd, 1)) (hn : pc + 1 = n) (kk : YO g E nL QQ o w n ls (.int (x + y) :: st)) : YO g E nL QQ o w pc ls (.int y :: .int x :: st) := by
  subst hn
  exact fun r hr H locs la hP hS hl => lv_iadd C.1 C.2.1 hd (kk r hr H locs la hP hS hl)
theorem y_isub (C : CC g E cc nL own nf nl) {x y : Int32} (hd : decode cc pc = .ok (.isub, 1)) (hn : pc + 1 = n) (kk : YO g E nL QQ o w n ls (.int (x - y) :: st)) : YO g E nL QQ o w pc ls (.int y :: .int x :: st) := by
  subst hn
  exact fun r hr H locs la hP hS hl => lv_isub C.1 C.2.1 hd (kk r hr H locs la hP hS hl)
theorem y_imul (C : CC g E cc nL own nf nl) {x y : Int32} (hd : decode cc pc = .ok (.imul, 1)) (hn : pc + 1 = n) (kk : YO g E nL QQ o w n ls (.int (x * y) :: st)) : YO g E nL QQ o w pc ls (.int y :: .int x :: st) := by
  subst hn
  exact fun r hr H locs la hP hS hl => lv_imul C.1 C.2.1 hd (kk r hr H locs la hP hS hl)
theorem y_iand (C : CC g E cc nL own nf nl) {x y : Int32} (hd : decode cc pc = .ok (.iand, 1)) (hn : pc + 1 = n) (kk : YO g E nL QQ o w n ls (.int (x &&& y) :: st)) : YO g E nL QQ o w pc ls (.int y :: .int x :: st) := by
  subst hn
  exact fun r hr H locs la hP hS hl => lv_iand C.1 C.2.1 hd (kk r hr H locs la hP hS hl)
theorem y_ior (C : CC g E cc nL own nf nl) {x y : Int32} (hd : decode cc pc = .ok (.ior, 1)) (hn : pc + 1 = n) (kk : YO g E nL QQ o w n ls (.int (x ||| y) :: st)) : YO g E nL QQ o w pc ls (.int y :: .int x :: st) := by
  subst hn
  exact fun r hr H locs la hP hS hl => lv_ior C.1 C.2.1 hd (kk r hr H locs la hP hS hl)
theorem y_ishl (C : CC g E cc nL own nf nl) {x y : Int32} (hd : decode cc pc = .ok (.ishl, 1)) (hn : pc + 1 = n) (kk : YO g E nL QQ o w n ls (.int (x <<< (y &&& 31)) :: st)) : YO g E nL QQ o w pc ls (.int y :: .int x :: st) := by
  subst hn
  exact fun r hr H locs la hP hS hl => lv_ishl C.1 C.2.1 hd (kk r hr H locs la hP hS hl)
theorem y_ishr (C : CC g E cc nL own nf nl) {x y : Int32} (hd : decode cc pc = .ok (.ishr, 1)) (hn : pc + 1 = n) (kk : YO g E nL QQ o w n ls (.int (x >>> (y &&& 31)) :: st)) : YO g E nL QQ o w pc ls (.int y :: .int x :: st) := by
  subst hn
  exact fun r hr H locs la hP hS hl => lv_ishr C.1 C.2.1 hd (kk r hr H locs la hP hS hl)
theorem y_lxor (C : CC g E cc nL own nf nl) {x y : Int64} (hd : decode cc pc = .ok (.lxor, 1)) (hn : pc + 1 = n) (kk : YO g E nL QQ o w n ls (.long (x ^^^ y) :: st)) : YO g E nL QQ o w pc ls (.long y :: .long x :: st) := by
  subst hn
  exact fun r hr H locs la hP hS hl => lv_lxor C.1 C.2.1 hd (kk r hr H locs la hP hS hl)
theorem y_land (C : CC g E cc nL own nf nl) {x y : Int64} (hd : decode cc pc = .ok (.land, 1)) (hn : pc + 1 = n) (kk : YO g E nL QQ o w n ls (.long (x &&& y) :: st)) : YO g E nL QQ o w pc ls (.long y :: .long x :: st) := by
  subst hn
  exact fun r hr H locs la hP hS hl => lv_land C.1 C.2.1 hd (kk r hr H locs la hP hS hl)
theorem y_idiv (C : CC g E cc nL own nf nl) {x y : Int32} (hd : decode cc pc = .ok (.idiv, 1)) (h0 : ¬ y = 0) (hn : pc + 1 = n) (kk : YO g E nL QQ o w n ls (.int (x / y) :: st)) : YO g E nL QQ o w pc ls (.int y :: .int x :: st) := by
  subst hn
  exact fun r hr H locs la hP hS hl => lv_idiv C.1 C.2.1 hd h0 (kk r hr H locs la hP hS hl)
theorem y_irem (C : CC g E cc nL own nf nl) {x y : Int32} (hd : decode cc pc = .ok (.irem, 1)) (h0 : ¬ y = 0) (hn : pc + 1 = n) (kk : YO g E nL QQ o w n ls (.int (x - x / y * y) :: st)) : YO g E nL QQ o w pc ls (.int y :: .int x :: st) := by
  subst hn
  exact fun r hr H locs la hP hS hl => lv_irem C.1 C.2.1 hd h0 (kk r hr H locs la hP hS hl)
theorem y_lshl (C : CC g E cc nL own nf nl) {x : Int64} {y : Int32} (hd : decode cc pc = .ok (.lshl, 1)) (hn : pc + 1 = n) (kk : YO g E nL QQ o w n ls (.long (x <<< (y.toInt64 &&& 63)) :: st)) : YO g E nL QQ o w pc ls (.int y :: .long x :: st) := by
  subst hn
  exact fun r hr H locs la hP hS hl => lv_lshl C.1 C.2.1 hd rfl (kk r hr H locs la hP hS hl)
theorem y_lshr (C : CC g E cc nL own nf nl) {x : Int64} {y : Int32} (hd : decode cc pc = .ok (.lshr, 1)) (hn : pc + 1 = n) (kk : YO g E nL QQ o w n ls (.long (x >>> (y.toInt64 &&& 63)) :: st)) : YO g E nL QQ o w pc ls (.int y :: .long x :: st) := by
  subst hn
  exact fun r hr H locs la hP hS hl => lv_lshr C.1 C.2.1 hd rfl (kk r hr H locs la hP hS hl)
theorem y_i2c (C : CC g E cc nL own nf nl) {x : Int32} (hd : decode cc pc = .ok (.i2c, 1)) (hn : pc + 1 = n) (kk : YO g E nL QQ o w n ls (.int (x.toUInt32 % 65536).toInt32 :: st)) : YO g E nL QQ o w pc ls (.int x :: st) := by
  subst hn
  exact fun r hr H locs la hP hS hl => lv_i2c C.1 C.2.1 hd rfl (kk r hr H locs la hP hS hl)
theorem y_if_eq (C : CC g E cc nL own nf nl) {x : Int32} {off : Int} {tgt : Nat} {o1 o2 : Option ρ} (hd : decode cc pc = .ok (.ifCond .eq off, 3)) (ht : (pc : Int) + off = (tgt : Int)) (hn : pc + 3 = n) (kt : x = 0 → YO g E nL QQ o1 w tgt ls st) (kf : ¬ x = 0 → YO g E nL QQ o2 w n ls st) : YO g E nL QQ (if x = 0 then o1 else o2) w pc ls (.int x :: st) := by
  subst hn
  exact fun r hr H locs la hP hS hl => lv_if_eq C.1 C.2.1 hd ht (fun c => kt c r (by rw [if_pos c] at hr; exact hr) H locs la hP hS hl) (fun c => kf c r (by rw [if_neg c] at hr; exact hr) H locs la hP hS hl)
theorem y_icmp_eq (C : CC g E cc nL own nf nl) {x y : Int32} {off : Int} {tgt : Nat} {o1 o2 : Option ρ} (hd : decode cc pc = .ok (.if_icmp .eq off, 3)) (ht : (pc : Int) + off = (tgt : Int)) (hn : pc + 3 = n) (kt : x = y → YO g E nL QQ o1 w tgt ls st) (kf : ¬ x = y → YO g E nL QQ o2 w n ls st) : YO g E nL QQ (if x = y then o1 else o2) w pc ls (.int y :: .int x :: st) := by
  subst hn
  exact fun r hr H locs la hP hS hl => lv_icmp_eq C.1 C.2.1 hd ht (fun c => kt c r (by rw [if_pos c] at hr; exact hr) H locs la hP hS hl) (fun c => kf c r (by rw [if_neg c] at hr; exact hr) H locs la hP hS hl)
theorem y_if_ne (C : CC g E cc nL own nf nl) {x : Int32} {off : Int} {tgt : Nat} {o1 o2 : Option ρ} (hd : decode cc pc = .ok (.ifCond .ne off, 3)) (ht : (pc : Int) + off = (tgt : Int)) (hn : pc + 3 = n) (kt : ¬ x = 0 → YO g E nL QQ o2 w tgt ls st) (kf : x = 0 → YO g E nL QQ o1 w n ls st) : YO g E nL QQ (if x = 0 then o1 else o2) w pc ls (.int x :: st) := by
  subst hn
  exact fun r hr H locs la hP hS hl => lv_if_ne C.1 C.2.1 hd ht (fun c => kt c r (by rw [if_neg c] at hr; exact hr) H locs la hP hS hl) (fun c => kf c r (by rw [if_pos c] at hr; exact hr) H locs la hP hS hl)
theorem y_icmp_ne (C : CC g E cc nL own nf nl) {x y : Int32} {off : Int} {tgt : Nat} {o1 o2 : Option ρ} (hd : decode cc pc = .ok (.if_icmp .ne off, 3)) (ht : (pc : Int) + off = (tgt : Int)) (hn : pc + 3 = n) (kt : ¬ x = y → YO g E nL QQ o2 w tgt ls st) (kf : x = y → YO g E nL QQ o1 w n ls st) : YO g E nL QQ (if x = y then o1 else o2) w pc ls (.int y :: .int x :: st) := by
  subst hn
  exact fun r hr H locs la hP hS hl => lv_icmp_ne C.1 C.2.1 hd ht (fun c => kt c r (by rw [if_neg c] at hr; exact hr) H locs la hP hS hl) (fun c => kf c r (by rw [if_pos c] at hr; exact hr) H locs la hP hS hl)
theorem y_if_lt (C : CC g E cc nL own nf nl) {x : Int32} {off : Int} {tgt : Nat} {o1 o2 : Option ρ} (hd : decode cc pc = .ok (.ifCond .lt off, 3)) (ht : (pc : Int) + off = (tgt : Int)) (hn : pc + 3 = n) (kt : x < 0 → YO g E nL QQ o1 w tgt ls st) (kf : ¬ x < 0 → YO g E nL QQ o2 w n ls st) : YO g E nL QQ (if x < 0 then o1 else o2) w pc ls (.int x :: st) := by
  subst hn
  exact fun r hr H locs la hP hS hl => lv_if_lt C.1 C.2.1 hd ht (fun c => kt c r (by rw [if_pos c] at hr; exact hr) H locs la hP hS hl) (fun c => kf c r (by rw [if_neg c] at hr; exact hr) H locs la hP hS hl)
theorem y_icmp_lt (C : CC g E cc nL own nf nl) {x y : Int32} {off : Int} {tgt : Nat} {o1 o2 : Option ρ} (hd : decode cc pc = .ok (.if_icmp .lt off, 3)) (ht : (pc : Int) + off = (tgt : Int)) (hn : pc + 3 = n) (kt : x < y → YO g E nL QQ o1 w tgt ls st) (kf : ¬ x < y → YO g E nL QQ o2 w n ls st) : YO g E nL QQ (if x < y then o1 else o2) w pc ls (.int y :: .int x :: st) := by
  subst hn
  exact fun r hr H locs la hP hS hl => lv_icmp_lt C.1 C.2.1 hd ht (fun c => kt c r (by rw [if_pos c] at hr; exact hr) H locs la hP hS hl) (fun c => kf c r (by rw [if_neg c] at hr; exact hr) H locs la hP hS hl)
theorem y_if_ge (C : CC g E cc nL own nf nl) {x : Int32} {off : Int} {tgt : Nat} {o1 o2 : Option ρ} (hd : decode cc pc = .ok (.ifCond .ge off, 3)) (ht : (pc : Int) + off = (tgt : Int)) (hn : pc + 3 = n) (kt : 0 ≤ x → YO g E nL QQ o1 w tgt ls st) (kf : ¬ 0 ≤ x → YO g E nL QQ o2 w n ls st) : YO g E nL QQ (if 0 ≤ x then o1 else o2) w pc ls (.int x :: st) := by
  subst hn
  exact fun r hr H locs la hP hS hl => lv_if_ge C.1 C.2.1 hd ht (fun c => kt c r (by rw [if_pos c] at hr; exact hr) H locs la hP hS hl) (fun c => kf c r (by rw [if_neg c] at hr; exact hr) H locs la hP hS hl)
theorem y_icmp_ge (C : CC g E cc nL own nf nl) {x y : Int32} {off : Int} {tgt : Nat} {o1 o2 : Option ρ} (hd : decode cc pc = .ok (.if_icmp .ge off, 3)) (ht : (pc : Int) + off = (tgt : Int)) (hn : pc + 3 = n) (kt : y ≤ x → YO g E nL QQ o1 w tgt ls st) (kf : ¬ y ≤ x → YO g E nL QQ o2 w n ls st) : YO g E nL QQ (if y ≤ x then o1 else o2) w pc ls (.int y :: .int x :: st) := by
  subst hn
  exact fun r hr H locs la hP hS hl => lv_icmp_ge C.1 C.2.1 hd ht (fun c => kt c r (by rw [if_pos c] at hr; exact hr) H locs la hP hS hl) (fun c => kf c r (by rw [if_neg c] at hr; exact hr) H locs la hP hS hl)
theorem y_if_gt (C : CC g E cc nL own nf nl) {x : Int32} {off : Int} {tgt : Nat} {o1 o2 : Option ρ} (hd : decode cc pc = .ok (.ifCond .gt off, 3)) (ht : (pc : Int) + off = (tgt : Int)) (hn : pc + 3 = n) (kt : 0 < x → YO g E nL QQ o1 w tgt ls st) (kf : ¬ 0 < x → YO g E nL QQ o2 w n ls st) : YO g E nL QQ (if 0 < x then o1 else o2) w pc ls (.int x :: st) := by
  subst hn
  exact fun r hr H locs la hP hS hl => lv_if_gt C.1 C.2.1 hd ht (fun c => kt c r (by rw [if_pos c] at hr; exact hr) H locs la hP hS hl) (fun c => kf c r (by rw [if_neg c] at hr; exact hr) H locs la hP hS hl)
theorem y_icmp_gt (C : CC g E cc nL own nf nl) {x y : Int32} {off : Int} {tgt : Nat} {o1 o2 : Option ρ} (hd : decode cc pc = .ok (.if_icmp .gt off, 3)) (ht : (pc : Int) + off = (tgt : Int)) (hn : pc + 3 = n) (kt : y < x → YO g E nL QQ o1 w tgt ls st) (kf : ¬ y < x → YO g E nL QQ o2 w n ls st) : YO g E nL QQ (if y < x then o1 else o2) w pc ls (.int y :: .int x :: st) := by
  subst hn
  exact fun r hr H locs la hP hS hl => lv_icmp_gt C.1 C.2.1 hd ht (fun c => kt c r (by rw [if_pos c] at hr; exact hr) H locs la hP hS hl) (fun c => kf c r (by rw [if_neg c] at hr; exact hr) H locs la hP hS hl)
theorem y_if_le (C : CC g E cc nL own nf nl) {x : Int32} {off : Int} {tgt : Nat} {o1 o2 : Option ρ} (hd : decode cc pc = .ok (.ifCond .le off, 3)) (ht : (pc : Int) + off = (tgt : Int)) (hn : pc + 3 = n) (kt : x ≤ 0 → YO g E nL QQ o1 w tgt ls st) (kf : ¬ x ≤ 0 → YO g E nL QQ o2 w n ls st) : YO g E nL QQ (if x ≤ 0 then o1 else o2) w pc ls (.int x :: st) := by
  subst hn
  exact fun r hr H locs la hP hS hl => lv_if_le C.1 C.2.1 hd ht (fun c => kt c r (by rw [if_pos c] at hr; exact hr) H locs la hP hS hl) (fun c => kf c r (by rw [if_neg c] at hr; exact hr) H locs la hP hS hl)
theorem y_icmp_le (C : CC g E cc nL own nf nl) {x y : Int32} {off : Int} {tgt : Nat} {o1 o2 : Option ρ} (hd : decode cc pc = .ok (.if_icmp .le off, 3)) (ht : (pc : Int) + off = (tgt : Int)) (hn : pc + 3 = n) (kt : x ≤ y → YO g E nL QQ o1 w tgt ls st) (kf : ¬ x ≤ y → YO g E nL QQ o2 w n ls st) : YO g E nL QQ (if x ≤ y then o1 else o2) w pc ls (.int y :: .int x :: st) := by
  subst hn
  exact fun r hr H locs la hP hS hl => lv_icmp_le C.1 C.2.1 hd ht (fun c => kt c r (by rw [if_pos c] at hr; exact hr) H locs la hP hS hl) (fun c => kf c r (by rw [if_neg c] at hr; exact hr) H locs la hP hS hl)
theorem y_goto (C : CC g E cc nL own nf nl) {off : Int} {tgt : Nat} (hd : decode cc pc = .ok (.goto off, 3)) (ht : (pc : Int) + off = (tgt : Int)) (kk : YO g E nL QQ o w tgt ls st) : YO g E nL QQ o w pc ls st :=
  fun r hr H locs la hP hS hl => lv_goto C.1 C.2.1 hd ht (kk r hr H locs la hP hS hl)
end YR
end
section
def yP (E : Ex) (w : Wd) (U : State) : Prop := va_P E.1 vwCl (yW E w) U.heap ∧ yKK E U ∧ yST E U U.heap
def yQi (E : Ex) (r : Int32 × Wd) : Array Value → State → Outcome → State → Prop := va_Qi (fun (x : Int32) (_ : Unit) => x = r.1) (fun _ t => va_P E.1 vwCl (yW E r.2) t.heap) (yA E)
def yQv (E : Ex) (r : Wd) : Array Value → State → Outcome → State → Prop := va_Qv (fun (_ : Unit) => True) (fun _ t => va_P E.1 vwCl (yW E r) t.heap) (yA E)
def yQq (E : Ex) (r : Option Nat) (w : Wd) : Array Value → State → Outcome → State → Prop := va_Qq (fun (x : Option Nat) (_ : Unit) => x = r.map (fun k => E.2.2.2.2.1 + k)) (fun _ t => va_P E.1 vwCl (yW E w) t.heap) (yA E)
abbrev MZ (l : Launch) (y : MethodName) (cc : ByteArray) (maxL : Nat) (rt : Option FieldType) (rm : Room) (E : Ex) (av : List Value) (w : Wd) (Qc : Array Value → State → Outcome → State → Prop) : Prop := Met l y (yws y cc maxL rt) rm (va_Pc av (yP E w)) Qc 0 0 (yA E)
def MI (l : Launch) (y : MethodName) (cc : ByteArray) (maxL : Nat) (rt : Option FieldType) (rm : Room) (E : Ex) (av : List Value) (w : Wd) (f : Option (Int32 × Wd)) : Prop := ∀ r, f = some r → MZ l y cc maxL rt rm E av w (yQi E r)
def MP (l : Launch) (y : MethodName) (cc : ByteArray) (maxL : Nat) (rt : Option FieldType) (rm : Room) (E : Ex) (av : List Value) (w : Wd) (f : Option Int32) : Prop := ∀ r, f = some r → MZ l y cc maxL rt rm E av w (yQi E (r, w))
def MV (l : Launch) (y : MethodName) (cc : ByteArray) (maxL : Nat) (rt : Option FieldType) (rm : Room) (E : Ex) (av : List Value) (w : Wd) (f : Option Wd) : Prop := ∀ r, f = some r → MZ l y cc maxL rt rm E av w (yQv E r)
def MQq (l : Launch) (y : MethodName) (cc : ByteArray) (maxL : Nat) (rt : Option FieldType) (rm : Room) (E : Ex) (av : List Value) (w : Wd) (f : Option (Option Nat)) : Prop := ∀ r, f = some r → MZ l y cc maxL rt rm E av w (yQq E r w)
def ldI (q : Nat) (w : Wd) (k : Nat) (i : Int32) : Option Int32 := if i < 0 ∨ q ≤ i.toNatClampNeg then none else some (w.1 k i.toNatClampNeg)
def stI (q : Nat) (w : Wd) (k : Nat) (i x : Int32) : Option Wd := if i < 0 ∨ q ≤ i.toNatClampNeg then none else some (sI w k i.toNatClampNeg x)
def stC (q : Nat) (w : Wd) (k : Nat) (i x : Int32) : Option Wd := if i < 0 ∨ q ≤ i.toNatClampNeg then none else some (sI w k i.toNatClampNeg (vp_nar .char x))
def ldR (q : Nat) (w : Wd) (k : Nat) (i : Int32) : Option Nat := if i < 0 ∨ q ≤ i.toNatClampNeg then none else some (w.2.2 k i.toNatClampNeg)
def stR (q : Nat) (w : Wd) (k : Nat) (i : Int32) (x : Nat) : Option Wd := if i < 0 ∨ q ≤ i.toNatClampNeg then none else some (sR w k i.toNatClampNeg x)
def stZ (w : Wd) (k j : Nat) (x : Int32) : Option Wd := if x = 0 ∨ x = 1 then some (sI w k j x) else none
def rtZ (x : Int32) : Option Int32 := if x = 0 ∨ x = 1 then some x else none
def rtC (x : Int32) : Option Int32 := if narrow .char (.int x) = .int x then some x else none
def imin (x y : Int32) : Int32 := if y < x then y else x
def imax (x y : Int32) : Int32 := if x < y then y else x
def cpy (w : Wd) (k0 q0 k1 q1 : Nat) (sp dp n : Int32) : Option Wd := if sp < 0 ∨ dp < 0 ∨ n < 0 ∨ q0 < sp.toNatClampNeg + n.toNatClampNeg ∨ q1 < dp.toNatClampNeg + n.toNatClampNeg then none else some (sA w k1 (va_cpy (w.1 k0) (w.1 k1) sp.toNatClampNeg dp.toNatClampNeg n.toNatClampNeg))
section YM
variable {ρ : Type} {g : Gx} {E : Ex} {cc : ByteArray} {nL nf nl : Nat} {own : String} {QQ : ρ → State → Prop} {o : Option ρ} {w w' : Wd} {pc n : Nat} {ls ls' : List (Nat × Value)} {st : List Value}
theorem y_get (C : CC g E cc nL own nf nl) {k ci f N index : Nat} {Cn ref : String} {T : u_T} {v : Value} (hin : ∀ c ∈ u_ws Cn T N, c ∈ TB) (ho : E.2.2.2.2.2.1[k]? = some (ci + 3, 0)) (hc : vwCl[ci]? = some (Cn, T, N)) (hf : f < N) (hl : Cond.fieldLink own index ref (T f).2.1 (T f).2.2.1 ∈ TB) (hr : ref = (T f).1) (hv : (yF E.2.2.2.2.1 w k ci)[f]? = some v) (hd : decode cc pc = .ok (.getfield index, 3)) (hn : pc + 3 = n)
    (kk : YO g E nL QQ o w n ls (v :: st)) : YO g E nL QQ o w pc ls (.ref (E.2.2.2.2.1 + k) :: st) := by
  subst hn; subst hr
  exact fun r hr H locs la hP hS hl' => va_get C.1 C.2.1 C.2.2.2.2.1 hin C.2.2.2.1 C.2.2.2.2.2.1.1 hP k (yW_get ho) hc f hf (C.2.2.2.2.1 _ hl) (fun _ h => h) hv hd (kk r hr H locs la hP hS hl')
theorem y_getN (C : CC g E cc nL own nf nl) {k ci f N index : Nat} {Cn ref host : String} {T : u_T} {v : Value} (hin : ∀ c ∈ u_ws Cn T N, c ∈ TB) (ho : E.2.2.2.2.2.1[k]? = some (ci + 3, 0)) (hc : vwCl[ci]? = some (Cn, T, N)) (hf : f < N) (hl : Cond.fieldLinkNest own index ref (T f).2.1 (T f).2.2.1 host ∈ NWs) (hr : ref = (T f).1) (hv : (yF E.2.2.2.2.1 w k ci)[f]? = some v) (hd : decode cc pc = .ok (.getfield index, 3)) (hn : pc + 3 = n)
    (kk : YO g E nL QQ o w n ls (v :: st)) : YO g E nL QQ o w pc ls (.ref (E.2.2.2.2.1 + k) :: st) := by
  subst hn; subst hr
  exact fun r hr H locs la hP hS hl' => va_getN C.1 C.2.1 C.2.2.2.2.1 hin C.2.2.2.1 C.2.2.2.2.2.1.1 hP k (yW_get ho) hc f hf (va_Nw.use rfl (C.2.2.2.2.2.1.2 _ hl)) (fun _ h => h) hv hd (kk r hr H locs la hP hS hl')
theorem y_put (C : CC g E cc nL own nf nl) {k ci f N index : Nat} {Cn ref : String} {T : u_T} {ty : FieldType} {v : Value} (hin : ∀ c ∈ u_ws Cn T N, c ∈ TB) (ty0 : Nat → FieldType) (hty : ∀ k, k < N → parseFieldDescriptor (T k).2.2.1 = some (ty0 k)) (hnm : ∀ a, a < N → ∀ b, b < N → a ≠ b → (T a).2.1 ≠ (T b).2.1) (ho : E.2.2.2.2.2.1[k]? = some (ci + 3, 0)) (hc : vwCl[ci]? = some (Cn, T, N)) (hf : f < N) (hl : Cond.fieldLink own index ref (T f).2.1 (T f).2.2.1 ∈ TB) (hr : ref = (T f).1) (hfin : (T f).2.2.2 = false) (hpd : parseFieldDescriptor (T f).2.2.1 = some ty) (hnn : narrow ty v = v) (hfit : fits ty v = true) (hlen : f < (yF E.2.2.2.2.1 w k ci).length)
    (hw : (yF E.2.2.2.2.1 w k ci).set f v = yF E.2.2.2.2.1 w' k ci) (hoth : ∀ j, j ≠ k → ∀ u, yC E w j u = yC E w' j u) (hd : decode cc pc = .ok (.putfield index, 3)) (hn : pc + 3 = n)
    (kk : YO g E nL QQ o w' n ls st) : YO g E nL QQ o w pc ls (v :: .ref (E.2.2.2.2.1 + k) :: st) := by
  subst hn; subst hr
  refine fun r hr H locs la hP hS hl' => va_put C.1 C.2.1 C.2.2.2.2.1 hin ty0 hty hnm C.2.2.2.1 C.2.2.2.2.2.1.1 hP (yW_D E w) hS k (yW_get ho) hc f hf (C.2.2.2.2.1 _ hl) (fun _ h => h) hfin hpd hnn hfit hlen hd (fun H1 locs1 hP1 hD1 hS1 => ?_)
  rw [hw] at hP1
  have hP1 : va_P E.1 vwCl (yW E w') H1 := yW_set (w' := w') ho (rfl : _ = yC E w' k (ci + 3, 0)) hoth ▸ hP1
  exact kk r hr H1 locs1 la hP1 hS1 hl'
theorem y_putN (C : CC g E cc nL own nf nl) {k ci f N index : Nat} {Cn ref host : String} {T : u_T} {ty : FieldType} {v : Value} (hin : ∀ c ∈ u_ws Cn T N, c ∈ TB) (ty0 : Nat → FieldType) (hty : ∀ k, k < N → parseFieldDescriptor (T k).2.2.1 = some (ty0 k)) (hnm : ∀ a, a < N → ∀ b, b < N → a ≠ b → (T a).2.1 ≠ (T b).2.1) (ho : E.2.2.2.2.2.1[k]? = some (ci + 3, 0)) (hc : vwCl[ci]? = some (Cn, T, N)) (hf : f < N) (hl : Cond.fieldLinkNest own index ref (T f).2.1 (T f).2.2.1 host ∈ NWs) (hr : ref = (T f).1) (hfin : (T f).2.2.2 = false) (hpd : parseFieldDescriptor (T f).2.2.1 = some ty) (hnn : narrow ty v = v) (hfit : fits ty v = true) (hlen : f < (yF E.2.2.2.2.1 w k ci).length)
    (hw : (yF E.2.2.2.2.1 w k ci).set f v = yF E.2.2.2.2.1 w' k ci) (hoth : ∀ j, j ≠ k → ∀ u, yC E w j u = yC E w' j u) (hd : decode cc pc = .ok (.putfield index, 3)) (hn : pc + 3 = n)
    (kk : YO g E nL QQ o w' n ls st) : YO g E nL QQ o w pc ls (v :: .ref (E.2.2.2.2.1 + k) :: st) := by
  subst hn; subst hr
  refine fun r hr H locs la hP hS hl' => va_putN C.1 C.2.1 C.2.2.2.2.1 hin ty0 hty hnm C.2.2.2.1 C.2.2.2.2.2.1.1 hP (yW_D E w) hS k (yW_get ho) hc f hf (va_Nw.use rfl (C.2.2.2.2.2.1.2 _ hl)) (fun _ h => h) hfin hpd hnn hfit hlen hd (fun H1 locs1 hP1 hD1 hS1 => ?_)
  rw [hw] at hP1
  have hP1 : va_P E.1 vwCl (yW E w') H1 := yW_set (w' := w') ho (rfl : _ = yC E w' k (ci + 3, 0)) hoth ▸ hP1
  exact kk r hr H1 locs1 la hP1 hS1 hl'
theorem y_alen (C : CC g E cc nL own nf nl) {k q : Nat} (hk : E.2.2.2.2.2.1[k]? = some (0, q)) (hd : decode cc pc = .ok (.arraylength, 1)) (hn : pc + 1 = n) (kk : YO g E nL QQ o w n ls (.int (nI q) :: st)) : YO g E nL QQ o w pc ls (.ref (E.2.2.2.2.1 + k) :: st) := by
  subst hn
  exact fun r hr H locs la hP hS hl' => va_alen C.1 C.2.1 C.2.2.2.2.2.1.1 hP k 0 (yW_get hk) rfl rfl hd (kk r hr H locs la hP hS hl')
theorem y_alenC (C : CC g E cc nL own nf nl) {k q : Nat} (hk : E.2.2.2.2.2.1[k]? = some (1, q)) (hd : decode cc pc = .ok (.arraylength, 1)) (hn : pc + 1 = n) (kk : YO g E nL QQ o w n ls (.int (nI q) :: st)) : YO g E nL QQ o w pc ls (.ref (E.2.2.2.2.1 + k) :: st) := by
  subst hn
  exact fun r hr H locs la hP hS hl' => va_alen C.1 C.2.1 C.2.2.2.2.2.1.1 hP k 1 (yW_get hk) rfl rfl hd (kk r hr H locs la hP hS hl')
theorem y_alenR (C : CC g E cc nL own nf nl) {k q : Nat} (hk : E.2.2.2.2.2.1[k]? = some (2, q)) (hd : decode cc pc = .ok (.arraylength, 1)) (hn : pc + 1 = n) (kk : YO g E nL QQ o w n ls (.int (nI q) :: st)) : YO g E nL QQ o w pc ls (.ref (E.2.2.2.2.1 + k) :: st) := by
  subst hn
  exact fun r hr H locs la hP hS hl' => va_alen C.1 C.2.1 C.2.2.2.2.2.1.1 hP k 2 (yW_get hk) rfl rfl hd (kk r hr H locs la hP hS hl')
theorem y_iald (C : CC g E cc nL own nf nl) {k q : Nat} {i : Int32} {K : Int32 → Option ρ} (hk : E.2.2.2.2.2.1[k]? = some (0, q)) (hd : decode cc pc = .ok (.iaload, 1)) (hn : pc + 1 = n) (kk : ∀ x, ldI q w k i = some x → YO g E nL QQ (K x) w n ls (.int x :: st)) : YO g E nL QQ ((ldI q w k i).bind K) w pc ls (.int i :: .ref (E.2.2.2.2.1 + k) :: st) := by
  subst hn
  by_cases h : i < 0 ∨ q ≤ i.toNatClampNeg
  · rw [ldI, if_pos h]; exact y_no
  · have e : ldI q w k i = some (w.1 k i.toNatClampNeg) := by rw [ldI, if_neg h]
    rw [e]
    exact fun r hr H locs la hP hS hl' => va_iald C.1 C.2.1 C.2.2.2.2.2.1.1 hP k 0 (yW_get hk) rfl h hd (kk _ e r hr H locs la hP hS hl')
theorem y_cald (C : CC g E cc nL own nf nl) {k q : Nat} {i : Int32} {K : Int32 → Option ρ} (hk : E.2.2.2.2.2.1[k]? = some (1, q)) (hd : decode cc pc = .ok (.caload, 1)) (hn : pc + 1 = n) (kk : ∀ x, ldI q w k i = some x → YO g E nL QQ (K x) w n ls (.int x :: st)) : YO g E nL QQ ((ldI q w k i).bind K) w pc ls (.int i :: .ref (E.2.2.2.2.1 + k) :: st) := by
  subst hn
  by_cases h : i < 0 ∨ q ≤ i.toNatClampNeg
  · rw [ldI, if_pos h]; exact y_no
  · have e : ldI q w k i = some (w.1 k i.toNatClampNeg) := by rw [ldI, if_neg h]
    rw [e]
    exact fun r hr H locs la hP hS hl' => va_cald C.1 C.2.1 C.2.2.2.2.2.1.1 hP k 1 (yW_get hk) rfl h hd (kk _ e r hr H locs la hP hS hl')
theorem y_aald (C : CC g E cc nL own nf nl) {k q : Nat} {i : Int32} {K : Nat → Option ρ} (hk : E.2.2.2.2.2.1[k]? = some (2, q)) (hd : decode cc pc = .ok (.aaload, 1)) (hn : pc + 1 = n) (kk : ∀ x, ldR q w k i = some x → YO g E nL QQ (K x) w n ls (.ref (E.2.2.2.2.1 + x) :: st)) : YO g E nL QQ ((ldR q w k i).bind K) w pc ls (.int i :: .ref (E.2.2.2.2.1 + k) :: st) := by
  subst hn
  by_cases h : i < 0 ∨ q ≤ i.toNatClampNeg
  · rw [ldR, if_pos h]; exact y_no
  · have e : ldR q w k i = some (w.2.2 k i.toNatClampNeg) := by rw [ldR, if_neg h]
    rw [e]
    exact fun r hr H locs la hP hS hl' => va_aldq C.1 C.2.1 C.2.2.2.2.2.1.1 hP k 2 (yW_get hk) rfl h hd (kk _ e r hr H locs la hP hS hl')
theorem y_iast (C : CC g E cc nL own nf nl) {k q : Nat} {i x : Int32} {K : Wd → Option ρ} (hk : E.2.2.2.2.2.1[k]? = some (0, q)) (hd : decode cc pc = .ok (.iastore, 1)) (hn : pc + 1 = n) (kk : ∀ w', stI q w k i x = some w' → YO g E nL QQ (K w') w' n ls st) : YO g E nL QQ ((stI q w k i x).bind K) w pc ls (.int x :: .int i :: .ref (E.2.2.2.2.1 + k) :: st) := by
  subst hn
  by_cases h : i < 0 ∨ q ≤ i.toNatClampNeg
  · rw [stI, if_pos h]; exact y_no
  · have e : stI q w k i x = some (sI w k i.toNatClampNeg x) := by rw [stI, if_neg h]
    rw [e]
    refine fun r hr H locs la hP hS hl' => va_iast C.1 C.2.1 C.2.2.2.2.2.1.1 hP (yW_D E w) hS k 0 (yW_get hk) rfl h hd (fun H1 locs1 hP1 hD1 hS1 => ?_)
    rw [yW_set (w' := sI w k i.toNatClampNeg x) hk (by simp [yC, sI]) yC_sI] at hP1
    exact kk _ e r hr H1 locs1 la hP1 hS1 hl'
theorem y_cast (C : CC g E cc nL own nf nl) {k q : Nat} {i x : Int32} {K : Wd → Option ρ} (hk : E.2.2.2.2.2.1[k]? = some (1, q)) (hd : decode cc pc = .ok (.castore, 1)) (hn : pc + 1 = n) (kk : ∀ w', stC q w k i x = some w' → YO g E nL QQ (K w') w' n ls st) : YO g E nL QQ ((stC q w k i x).bind K) w pc ls (.int x :: .int i :: .ref (E.2.2.2.2.1 + k) :: st) := by
  subst hn
  by_cases h : i < 0 ∨ q ≤ i.toNatClampNeg
  · rw [stC, if_pos h]; exact y_no
  · have e : stC q w k i x = some (sI w k i.toNatClampNeg (vp_nar .char x)) := by rw [stC, if_neg h]
    rw [e]
    refine fun r hr H locs la hP hS hl' => va_cast C.1 C.2.1 C.2.2.2.2.2.1.1 hP (yW_D E w) hS k 1 (yW_get hk) rfl h hd (fun H1 locs1 hP1 hD1 hS1 => ?_)
    rw [yW_set (w' := sI w k i.toNatClampNeg (vp_nar .char x)) hk (by simp [yC, sI]) yC_sI] at hP1
    exact kk _ e r hr H1 locs1 la hP1 hS1 hl'
theorem y_aast (C : CC g E cc nL own nf nl) {k q x : Nat} {i : Int32} {K : Wd → Option ρ} (hk : E.2.2.2.2.2.1[k]? = some (2, q)) (hx : E.2.2.2.2.2.1[x]? = some (3 + 3, 0)) (hd : decode cc pc = .ok (.aastore, 1)) (hn : pc + 1 = n) (kk : ∀ w', stR q w k i x = some w' → YO g E nL QQ (K w') w' n ls st) : YO g E nL QQ ((stR q w k i x).bind K) w pc ls (.ref (E.2.2.2.2.1 + x) :: .int i :: .ref (E.2.2.2.2.1 + k) :: st) := by
  subst hn
  by_cases h : i < 0 ∨ q ≤ i.toNatClampNeg
  · rw [stR, if_pos h]; exact y_no
  · have e : stR q w k i x = some (sR w k i.toNatClampNeg x) := by rw [stR, if_neg h]
    rw [e]
    refine fun r hr H locs la hP hS hl' => va_astq C.1 C.2.1 C.2.2.2.2.2.1.1 hP (yW_D E w) hS k 2 x 3 (yW_get hk) rfl (yW_get hx) rfl h hd (fun H1 locs1 hP1 hD1 hS1 => ?_)
    rw [yW_set (w' := sR w k i.toNatClampNeg x) hk (by
      have hfun : va_up (fun j => some (E.2.2.2.2.1 + w.2.2 k j)) i.toNatClampNeg (some (E.2.2.2.2.1 + x)) = fun j => some (E.2.2.2.2.1 + va_up (w.2.2 k) i.toNatClampNeg x j) := by
        funext j
        simp only [va_up]
        split <;> rfl
      simp only [yC, sR, if_true]
      rw [hfun]) yC_sR] at hP1
    exact kk _ e r hr H1 locs1 la hP1 hS1 hl'
end YM
end
section
section YC
variable {ρ : Type} {g : Gx} {E : Ex} {cc : ByteArray} {nL nf nl : Nat} {own : String} {QQ : ρ → State → Prop} {o : Option ρ} {w w' : Wd} {pc n : Nat} {ls ls' : List (Nat × Value)} {st : List Value}
/-! returns -/
abbrev QI (g : Gx) (E : Ex) : Int32 × Wd → State → Prop := fun r => MQ g.2.2.2.2.2.2.2.1 (yQi E r) g.2.2.2.2.2.2.1 g.2.2.2.2.1 g.2.2.2.2.2.2.2.2.2.2.1 g.2.2.2.2.2.2.2.2.2.2.2 (yA E)
abbrev QP (g : Gx) (E : Ex) (w : Wd) : Int32 → State → Prop := fun r => MQ g.2.2.2.2.2.2.2.1 (yQi E (r, w)) g.2.2.2.2.2.2.1 g.2.2.2.2.1 g.2.2.2.2.2.2.2.2.2.2.1 g.2.2.2.2.2.2.2.2.2.2.2 (yA E)
abbrev QV (g : Gx) (E : Ex) : Wd → State → Prop := fun r => MQ g.2.2.2.2.2.2.2.1 (yQv E r) g.2.2.2.2.2.2.1 g.2.2.2.2.1 g.2.2.2.2.2.2.2.2.2.2.1 g.2.2.2.2.2.2.2.2.2.2.2 (yA E)
abbrev QQ0 (g : Gx) (E : Ex) (w : Wd) : Option Nat → State → Prop := fun r => MQ g.2.2.2.2.2.2.2.1 (yQq E r w) g.2.2.2.2.2.2.1 g.2.2.2.2.1 g.2.2.2.2.2.2.2.2.2.2.1 g.2.2.2.2.2.2.2.2.2.2.2 (yA E)
abbrev RT (g : Gx) (rt : Option FieldType) : Prop := g.2.2.2.2.2.2.2.2.1.sig.returnType = rt
theorem y_ri (C : CC g E cc nL own nf nl) {x : Int32} (hr : RT g (some .int)) (hd : decode cc pc = .ok (.ireturn, 1)) : YO g E nL (QI g E) (some (x, w)) w pc ls [.int x] := by
  intro r hr' H locs la hP hS hl
  cases hr'
  exact W.iret C.1 C.2.1 hr (fun t ht _ => ⟨⟨x, (), rfl, rfl, by subst ht; exact hP⟩, hS.F ht⟩) hS.2.2 hd C.2.2.2.2.2.2.1
theorem y_rp (C : CC g E cc nL own nf nl) {x : Int32} (hr : RT g (some .int)) (hd : decode cc pc = .ok (.ireturn, 1)) : YO g E nL (QP g E w) (some x) w pc ls [.int x] := by
  intro r hr' H locs la hP hS hl
  cases hr'
  exact W.iret C.1 C.2.1 hr (fun t ht _ => ⟨⟨x, (), rfl, rfl, by subst ht; exact hP⟩, hS.F ht⟩) hS.2.2 hd C.2.2.2.2.2.2.1
theorem y_rz (C : CC g E cc nL own nf nl) {x : Int32} (hr : RT g (some .boolean)) (hd : decode cc pc = .ok (.ireturn, 1)) : YO g E nL (QP g E w) (rtZ x) w pc ls [.int x] := by
  intro r hr' H locs la hP hS hl
  by_cases h : x = 0 ∨ x = 1
  · rw [rtZ, if_pos h] at hr'
    cases hr'
    have hn : narrow .boolean (.int x) = .int x := by rcases h with rfl | rfl <;> decide +kernel
    exact W.zret C.1 C.2.1 hr hn (fun t ht _ => ⟨⟨x, (), rfl, rfl, by subst ht; exact hP⟩, hS.F ht⟩) hS.2.2 hd C.2.2.2.2.2.2.1
  · rw [rtZ, if_neg h] at hr'
    cases hr'
theorem y_rzi (C : CC g E cc nL own nf nl) {x : Int32} (hr : RT g (some .boolean)) (hd : decode cc pc = .ok (.ireturn, 1)) : YO g E nL (QI g E) ((rtZ x).bind fun x => some (x, w)) w pc ls [.int x] := by
  intro r hr' H locs la hP hS hl
  by_cases h : x = 0 ∨ x = 1
  · rw [rtZ, if_pos h] at hr'
    cases hr'
    have hn : narrow .boolean (.int x) = .int x := by rcases h with rfl | rfl <;> decide +kernel
    exact W.zret C.1 C.2.1 hr hn (fun t ht _ => ⟨⟨x, (), rfl, rfl, by subst ht; exact hP⟩, hS.F ht⟩) hS.2.2 hd C.2.2.2.2.2.2.1
  · rw [rtZ, if_neg h] at hr'
    cases hr'
theorem y_rc (C : CC g E cc nL own nf nl) {x : Int32} (hr : RT g (some .char)) (hd : decode cc pc = .ok (.ireturn, 1)) : YO g E nL (QP g E w) (rtC x) w pc ls [.int x] := by
  intro r hr' H locs la hP hS hl
  by_cases h : narrow .char (.int x) = .int x
  · rw [rtC, if_pos h] at hr'
    cases hr'
    exact W.zret C.1 C.2.1 hr h (fun t ht _ => ⟨⟨x, (), rfl, rfl, by subst ht; exact hP⟩, hS.F ht⟩) hS.2.2 hd C.2.2.2.2.2.2.1
  · rw [rtC, if_neg h] at hr'
    cases hr'
theorem y_rv (C : CC g E cc nL own nf nl) (hr : RT g none) (hd : decode cc pc = .ok (.return_, 1)) : YO g E nL (QV g E) (some w) w pc ls [] := by
  intro r hr' H locs la hP hS hl
  cases hr'
  exact W.vret C.1 C.2.1 hr (fun t ht _ => ⟨⟨(), rfl, trivial, by subst ht; exact hP⟩, hS.F ht⟩) hS.2.2 hd C.2.2.2.2.2.2.1
theorem y_rqS (C : CC g E cc nL own nf nl) {k : Nat} {c : String} (hr : RT g (some (.object c))) (hd : decode cc pc = .ok (.areturn, 1)) : YO g E nL (QQ0 g E w) (some (some k)) w pc ls [.ref (E.2.2.2.2.1 + k)] := by
  intro r hr' H locs la hP hS hl
  cases hr'
  exact W.aret C.1 C.2.1 hr (Or.inl ⟨_, rfl⟩) (Or.inr ⟨_, rfl⟩) (fun t ht _ => ⟨⟨some (E.2.2.2.2.1 + k), (), rfl, rfl, by subst ht; exact hP⟩, hS.F ht⟩) hS.2.2 hd C.2.2.2.2.2.2.1
theorem y_rqN (C : CC g E cc nL own nf nl) {c : String} (hr : RT g (some (.object c))) (hd : decode cc pc = .ok (.areturn, 1)) : YO g E nL (QQ0 g E w) (some none) w pc ls [.null] := by
  intro r hr' H locs la hP hS hl
  cases hr'
  exact W.aret C.1 C.2.1 hr (Or.inl ⟨_, rfl⟩) (Or.inl rfl) (fun t ht _ => ⟨⟨none, (), rfl, rfl, by subst ht; exact hP⟩, hS.F ht⟩) hS.2.2 hd C.2.2.2.2.2.2.1
/-- a method, from its walk -/
theorem y_met {y : MethodName} {maxL : Nat} {rt : Option FieldType} {nf nl : Nat} {av : List Value} {f : Option ρ} {Qc : ρ → Array Value → State → Outcome → State → Prop} (hy : plainName y.cls = true) (hav : (lg_sl av).length ≤ maxL)
    (body : ∀ g : Gx, CC g E cc maxL y.cls nf nl → RT g rt → YO g E maxL (fun r => MQ g.2.2.2.2.2.2.2.1 (Qc r) g.2.2.2.2.2.2.1 g.2.2.2.2.1 g.2.2.2.2.2.2.2.2.2.2.1 g.2.2.2.2.2.2.2.2.2.2.2 (yA E)) f w 0 (lv_args 0 av) []) :
    ∀ (l : Launch) r, f = some r → MZ l y cc maxL rt { frames := nf, cells := 0, slots := 0, locals := nl } E av w (Qc r) := by
  intro l r hr
  refine Met.ofW (cc := cc) (maxL := maxL) (ret := rt) hy rfl ?_
  intro p e s m args below meth c s₁ B hml hv
  obtain ⟨rfl, hP, hK, hST⟩ := hv
  have hts := atoms_spec (ws := yws y cc maxL rt) B.pre
  have hown : s.vm.findClass y.cls = some m.cls := findClass_of_methodNamed B.named
  have hl := lv_entry av hav
  rw [lg_entry_eq]
  exact body (p, l, e, (headSpec (yws y cc maxL rt) { frames := nf, cells := 0, slots := 0, locals := nl }).room, s, m, av.toArray, below, meth, c, 0, 0) ⟨B.exec, B.bytes, hml, hown, fun w hw => hts w (List.mem_cons_of_mem _ hw), hK, B.notSynchronized, Nat.le_refl _, Nat.le_refl _, hST, Nat.zero_le _, Nat.zero_le _⟩ B.returns r hr s.heap [] _ hP va_S.rf hl
theorem yRoom (C : CC g E cc nL own nf nl) : g.2.2.2.2.2.2.2.2.2.2.1 + 0 ≤ g.2.2.2.1.cells ∧ g.2.2.2.2.2.2.2.2.2.2.2 + 0 ≤ g.2.2.2.1.slots := C.2.2.2.2.2.2.2.2.2.2
/-! calls: what the words give -/
def KY (y : MethodName) (cc : ByteArray) (maxL : Nat) (rt : Option FieldType) (n : Nat) : Prop := Cond.code y cc maxL rt ∈ TB ∧ Cond.initialized y.cls ∈ TB ∧ (y.cls ≠ "java/lang/invoke/MethodHandle" ∧ y.cls ≠ "java/lang/invoke/VarHandle" ∧ (parseMethodDescriptor y.desc).map (fun d => d.parameters.length) = some n)
def KYV (y : MethodName) (cc : ByteArray) (maxL : Nat) (rt : Option FieldType) (n : Nat) : Prop := KY y cc maxL rt n ∧ Cond.instanceMethod y ∈ TB ∧ Cond.selects y.cls y y ∈ TB
def KYS (y : MethodName) (cc : ByteArray) (maxL : Nat) (rt : Option FieldType) (n : Nat) : Prop := KY y cc maxL rt n ∧ Cond.static y ∈ TB
abbrev yRun (g : Gx) (H : Heap) (locs : List Loc) (f : JFrame) (rest : List Value) (Qa : State → Outcome → State → Prop) (free : Addr → Prop) : Prop := va_Run g.1 g.2.1 g.2.2.1 g.2.2.2.1 g.2.2.2.2.1 g.2.2.2.2.2.1 g.2.2.2.2.2.2.1 g.2.2.2.2.2.2.2.1 g.2.2.2.2.2.2.2.2.1 g.2.2.2.2.2.2.2.2.2.1 H locs g.2.2.2.2.2.2.2.2.2.2.1 g.2.2.2.2.2.2.2.2.2.2.2 0 0 f rest Qa free
variable {y : MethodName} {bytes : ByteArray} {maxL idx n0 n1 ci N : Nat} {rt : Option FieldType} {Qc : Array Value → State → Outcome → State → Prop} {T : u_T} {b : Nat} {As st0 : List Value}
theorem y_blind {av : List Value} : FrameBlind (va_Pc av (yP E w)) := fun a U f mk q => ⟨q.1, q.2.1, yKK.same q.2.2.1 rfl, yST.same q.2.2.2 rfl⟩
theorem y_pre (C : CC g E cc nL own nf nl) {av : List Value} {H : Heap} {locs : List Loc} (hP : va_P E.1 vwCl (yW E w) H) (hS : va_S (yA E) g.2.2.2.2.1.heap H locs) : ∀ U : State, U.heap = H → g.2.2.2.2.1.WarmedH U.vm → va_Pc av (yP E w) av.toArray U := fun U hU hW => ⟨rfl, by rw [hU]; exact hP, yKK.warm C.2.2.2.2.2.1 hW, by rw [hU]; exact yST.warm (yST.kept C.2.2.2.2.2.2.2.2.2.1 hS.2.1) hW⟩
theorem y_runV (C : CC g E cc nL own nf nl) (ky : KYV y bytes maxL rt n) (hl : Cond.methodLink own idx y ∈ TB) (hR : n0 + 1 ≤ nf ∧ 8 + (maxL + 11) + n1 ≤ nl) (hb : E.2.2.2.2.2.1[b]? = some (ci + 3, 0)) (hc : vwCl[ci]? = some (y.cls, T, N)) (hM : MZ g.2.1 y bytes maxL rt { frames := n0, cells := 0, slots := 0, locals := n1 } E (.ref (E.2.2.2.2.1 + b) :: As) w Qc) (hn : As.length = n) (hcat : (st.map fun v => v.category).sum ≤ 8) (hst : st0 = As.reverse ++ .ref (E.2.2.2.2.1 + b) :: st) (hd : decode cc pc = .ok (.invokevirtual idx, 3))
    {H : Heap} {locs : List Loc} {la : Array Slot} (hP : va_P E.1 vwCl (yW E w) H) (hS : va_S (yA E) g.2.2.2.2.1.heap H locs) (hla : lv_has la nL ls) : yRun g H locs (F0 g.2.2.2.2.2.1 pc la st0) st (Qc (Value.ref (E.2.2.2.2.1 + b) :: As).toArray) (yA E) := by
  obtain ⟨⟨k1, k2, k3⟩, k4, k5⟩ := ky
  have ht := C.2.2.2.2.1
  exact va_runV (Ts := TB) ⟨C.1, C.2.1, C.2.2.1, C.2.2.2.1, ht⟩ hM ⟨callB_of n ht (yws_good k1) rfl rfl rfl (ht _ k2) (ht _ hl) k3 ⟨Nat.le_trans hR.1 C.2.2.2.2.2.2.2.1, Nat.le_trans hR.2 C.2.2.2.2.2.2.2.2.1⟩, ht _ k4, ht _ k5⟩ ⟨y_blind, va_recv C.2.2.2.2.2.1.1 hP hc (yW_get hb), y_pre C hP hS⟩ rfl hn hla.1 hst (lv_room hcat) hd (yRoom C)
theorem y_runVN (C : CC g E cc nL own nf nl) {host : String} (ky : KYV y bytes maxL rt n) (hl : Cond.methodLinkNest own idx y host ∈ NWs) (hR : n0 + 1 ≤ nf ∧ 8 + (maxL + 11) + n1 ≤ nl) (hb : E.2.2.2.2.2.1[b]? = some (ci + 3, 0)) (hc : vwCl[ci]? = some (y.cls, T, N)) (hM : MZ g.2.1 y bytes maxL rt { frames := n0, cells := 0, slots := 0, locals := n1 } E (.ref (E.2.2.2.2.1 + b) :: As) w Qc) (hn : As.length = n) (hcat : (st.map fun v => v.category).sum ≤ 8) (hst : st0 = As.reverse ++ .ref (E.2.2.2.2.1 + b) :: st) (hd : decode cc pc = .ok (.invokevirtual idx, 3))
    {H : Heap} {locs : List Loc} {la : Array Slot} (hP : va_P E.1 vwCl (yW E w) H) (hS : va_S (yA E) g.2.2.2.2.1.heap H locs) (hla : lv_has la nL ls) : yRun g H locs (F0 g.2.2.2.2.2.1 pc la st0) st (Qc (Value.ref (E.2.2.2.2.1 + b) :: As).toArray) (yA E) := by
  obtain ⟨⟨k1, k2, k3⟩, k4, k5⟩ := ky
  have ht := C.2.2.2.2.1
  exact va_runVN (Ts := TB) ⟨C.1, C.2.1, C.2.2.1, C.2.2.2.1, ht⟩ hM ⟨va_cnB n ht (yws_good k1) rfl rfl rfl (C.2.2.2.2.2.1.2 _ hl) (ht _ k2) k3 ⟨Nat.le_trans hR.1 C.2.2.2.2.2.2.2.1, Nat.le_trans hR.2 C.2.2.2.2.2.2.2.2.1⟩, ht _ k4, ht _ k5⟩ ⟨y_blind, va_recv C.2.2.2.2.2.1.1 hP hc (yW_get hb), y_pre C hP hS⟩ rfl hn hla.1 hst (lv_room hcat) hd (yRoom C)
theorem y_runS (C : CC g E cc nL own nf nl) (ky : KYS y bytes maxL rt n) (hl : Cond.methodLink own idx y ∈ TB) (hR : n0 + 1 ≤ nf ∧ 8 + (maxL + 11) + n1 ≤ nl) (hM : MZ g.2.1 y bytes maxL rt { frames := n0, cells := 0, slots := 0, locals := n1 } E As w Qc) (hn : As.length = n) (hcat : (st.map fun v => v.category).sum ≤ 8) (hst : st0 = As.reverse ++ st) (hd : decode cc pc = .ok (.invokestatic idx, 3))
    {H : Heap} {locs : List Loc} {la : Array Slot} (hP : va_P E.1 vwCl (yW E w) H) (hS : va_S (yA E) g.2.2.2.2.1.heap H locs) (hla : lv_has la nL ls) : yRun g H locs (F0 g.2.2.2.2.2.1 pc la st0) st (Qc As.toArray) (yA E) := by
  obtain ⟨⟨k1, k2, k3⟩, k4⟩ := ky
  have ht := C.2.2.2.2.1
  exact va_runS (Ts := TB) ⟨C.1, C.2.1, C.2.2.1, C.2.2.2.1, ht⟩ hM ⟨callB_of n ht (yws_good k1) rfl rfl rfl (ht _ k2) (ht _ hl) k3 ⟨Nat.le_trans hR.1 C.2.2.2.2.2.2.2.1, Nat.le_trans hR.2 C.2.2.2.2.2.2.2.2.1⟩, ht _ k4⟩ ⟨y_blind, y_pre C hP hS⟩ rfl hn hla.1 hst (lv_room hcat) hd (yRoom C)
theorem y_runSN (C : CC g E cc nL own nf nl) {host : String} (ky : KYS y bytes maxL rt n) (hl : Cond.methodLinkNest own idx y host ∈ NWs) (hR : n0 + 1 ≤ nf ∧ 8 + (maxL + 11) + n1 ≤ nl) (hM : MZ g.2.1 y bytes maxL rt { frames := n0, cells := 0, slots := 0, locals := n1 } E As w Qc) (hn : As.length = n) (hcat : (st.map fun v => v.category).sum ≤ 8) (hst : st0 = As.reverse ++ st) (hd : decode cc pc = .ok (.invokestatic idx, 3))
    {H : Heap} {locs : List Loc} {la : Array Slot} (hP : va_P E.1 vwCl (yW E w) H) (hS : va_S (yA E) g.2.2.2.2.1.heap H locs) (hla : lv_has la nL ls) : yRun g H locs (F0 g.2.2.2.2.2.1 pc la st0) st (Qc As.toArray) (yA E) := by
  obtain ⟨⟨k1, k2, k3⟩, k4⟩ := ky
  have ht := C.2.2.2.2.1
  exact va_runSN (Ts := TB) ⟨C.1, C.2.1, C.2.2.1, C.2.2.2.1, ht⟩ hM ⟨va_cnB n ht (yws_good k1) rfl rfl rfl (C.2.2.2.2.2.1.2 _ hl) (ht _ k2) k3 ⟨Nat.le_trans hR.1 C.2.2.2.2.2.2.2.1, Nat.le_trans hR.2 C.2.2.2.2.2.2.2.2.1⟩, ht _ k4, trivial⟩ ⟨y_blind, y_pre C hP hS⟩ rfl hn hla.1 hst (lv_room hcat) hd (yRoom C)
/-! calls: what the answer is -/
theorem y_ci (C : CC g E cc nL own nf nl) {f : Option (Int32 × Wd)} {K : Int32 × Wd → Option ρ} {a : Array Value} (hrun : ∀ r, f = some r → ∀ (H : Heap) (locs : List Loc) (la : Array Slot), va_P E.1 vwCl (yW E w) H → va_S (yA E) g.2.2.2.2.1.heap H locs → lv_has la nL ls → yRun g H locs (F0 g.2.2.2.2.2.1 pc la st0) st (yQi E r a) (yA E)) (hn : pc + 3 = n)
    (kk : ∀ x w1, f = some (x, w1) → YO g E nL QQ (K (x, w1)) w1 n ls (.int x :: st)) : YO g E nL QQ (f.bind K) w pc ls st0 := by
  subst hn
  intro r hr H locs la hP hS hl
  cases hf : f with
  | none => rw [hf] at hr; cases hr
  | some q =>
    rw [hf] at hr
    refine va_calli (hrun q hf H locs la hP hS hl) hS (fun _ _ h => h) (fun _ h => h) (fun x u t H1 locs1 ht hvm hw hB _ _ hS1 => ?_)
    subst ht
    subst hw
    exact kk q.1 q.2 hf r hr _ locs1 la hB hS1 hl
theorem y_cp (C : CC g E cc nL own nf nl) {f : Option Int32} {K : Int32 → Option ρ} {a : Array Value} (hrun : ∀ r, f = some r → ∀ (H : Heap) (locs : List Loc) (la : Array Slot), va_P E.1 vwCl (yW E w) H → va_S (yA E) g.2.2.2.2.1.heap H locs → lv_has la nL ls → yRun g H locs (F0 g.2.2.2.2.2.1 pc la st0) st (yQi E (r, w) a) (yA E)) (hn : pc + 3 = n)
    (kk : ∀ x, f = some x → YO g E nL QQ (K x) w n ls (.int x :: st)) : YO g E nL QQ (f.bind K) w pc ls st0 := by
  subst hn
  intro r hr H locs la hP hS hl
  cases hf : f with
  | none => rw [hf] at hr; cases hr
  | some q =>
    rw [hf] at hr
    refine va_calli (hrun q hf H locs la hP hS hl) hS (fun _ _ h => h) (fun _ h => h) (fun x u t H1 locs1 ht hvm hw hB _ _ hS1 => ?_)
    subst ht
    subst hw
    exact kk _ hf r hr _ locs1 la hB hS1 hl
theorem y_cv (C : CC g E cc nL own nf nl) {f : Option Wd} {K : Wd → Option ρ} {a : Array Value} (hrun : ∀ r, f = some r → ∀ (H : Heap) (locs : List Loc) (la : Array Slot), va_P E.1 vwCl (yW E w) H → va_S (yA E) g.2.2.2.2.1.heap H locs → lv_has la nL ls → yRun g H locs (F0 g.2.2.2.2.2.1 pc la st0) st (yQv E r a) (yA E)) (hn : pc + 3 = n)
    (kk : ∀ w1, f = some w1 → YO g E nL QQ (K w1) w1 n ls st) : YO g E nL QQ (f.bind K) w pc ls st0 := by
  subst hn
  intro r hr H locs la hP hS hl
  cases hf : f with
  | none => rw [hf] at hr; cases hr
  | some q =>
    rw [hf] at hr
    refine va_callv (hrun q hf H locs la hP hS hl) hS (fun _ _ h => h) (fun _ h => h) (fun u t H1 locs1 ht hvm hw hB _ _ hS1 => ?_)
    subst ht
    exact kk _ hf r hr _ locs1 la hB hS1 hl
theorem y_cq (C : CC g E cc nL own nf nl) {f : Option (Option Nat)} {o1 : Option ρ} {o2 : Nat → Option ρ} {a : Array Value} (hrun : ∀ r, f = some r → ∀ (H : Heap) (locs : List Loc) (la : Array Slot), va_P E.1 vwCl (yW E w) H → va_S (yA E) g.2.2.2.2.1.heap H locs → lv_has la nL ls → yRun g H locs (F0 g.2.2.2.2.2.1 pc la st0) st (yQq E r w a) (yA E)) (hn : pc + 3 = n)
    (k1 : f = some none → YO g E nL QQ o1 w n ls (.null :: st)) (k2 : ∀ x, f = some (some x) → YO g E nL QQ (o2 x) w n ls (.ref (E.2.2.2.2.1 + x) :: st)) : YO g E nL QQ (f.bind fun q => q.elim o1 o2) w pc ls st0 := by
  subst hn
  intro r hr H locs la hP hS hl
  cases hf : f with
  | none => rw [hf] at hr; cases hr
  | some q =>
    rw [hf] at hr
    refine va_callq (hrun q hf H locs la hP hS hl) hS (fun _ _ h => h) (fun _ h => h) (fun x u t H1 locs1 ht hvm hw hB _ _ hS1 => ?_)
    subst ht
    subst hw
    cases q with
    | none => exact k1 hf r hr _ locs1 la hB hS1 hl
    | some q => exact k2 q hf r hr _ locs1 la hB hS1 hl
def ob2 {ρ : Type} (f : Option (Int32 × Wd)) (K : Int32 → Wd → Option ρ) : Option ρ := f.bind fun p => K p.1 p.2
theorem y_ci2 (C : CC g E cc nL own nf nl) {f : Option (Int32 × Wd)} {K : Int32 → Wd → Option ρ} {a : Array Value} (hrun : ∀ r, f = some r → ∀ (H : Heap) (locs : List Loc) (la : Array Slot), va_P E.1 vwCl (yW E w) H → va_S (yA E) g.2.2.2.2.1.heap H locs → lv_has la nL ls → yRun g H locs (F0 g.2.2.2.2.2.1 pc la st0) st (yQi E r a) (yA E)) (hn : pc + 3 = n)
    (kk : ∀ x w1, f = some (x, w1) → YO g E nL QQ (K x w1) w1 n ls (.int x :: st)) : YO g E nL QQ (ob2 f K) w pc ls st0 := y_ci (K := fun p => K p.1 p.2) C hrun hn kk
/-- a name for what is on top -/
theorem y_nm {x : Int32} {K : Int32 → Option ρ} (kk : ∀ z, z = x → YO g E nL QQ (K z) w pc ls (.int z :: st)) : YO g E nL QQ ((some x).bind K) w pc ls (.int x :: st) := kk x rfl
theorem y_nmL {x : Int64} {K : Int64 → Option ρ} (kk : ∀ z, z = x → YO g E nL QQ (K z) w pc ls (.long z :: st)) : YO g E nL QQ ((some x).bind K) w pc ls (.long x :: st) := kk x rfl
/-- a guard -/
theorem y_gd {c : Prop} {_ : Decidable c} (h : c → YO g E nL QQ o w pc ls st) : YO g E nL QQ (if c then o else none) w pc ls st := by
  by_cases hc : c
  · rw [if_pos hc]; exact h hc
  · rw [if_neg hc]; exact y_no
theorem y_mmin (C : CC g E cc nL own nf nl) {index : Nat} {x y : Int32} (hl : Cond.methodLink own index Lib.Math.min.name ∈ TB) (hs : Cond.static Lib.Math.min.name ∈ TB) (hi : Cond.initialized "java/lang/Math" ∈ TB) (hc : Cond.code Lib.Math.min.name Lib.Math.min.code 2 (some .int) ∈ TB) (hf : 1 ≤ nf) (hlo : (st.map fun v => v.category).sum + 13 ≤ nl) (hd : decode cc pc = .ok (.invokestatic index, 3)) (hn : pc + 3 = n) (kk : YO g E nL QQ o w n ls (.int (imin x y) :: st)) : YO g E nL QQ o w pc ls (.int y :: .int x :: st) := by
  subst hn
  have ht := C.2.2.2.2.1
  exact fun r hr H locs la hP hS hla => va_mmin C.1 C.2.1 (C.2.2.1.trans hla.1.symm) C.2.2.2.1 (ht _ hl) (ht _ hs) (ht _ hi) (ht _ hc) (Nat.le_trans hf C.2.2.2.2.2.2.2.1) (Nat.le_trans hlo C.2.2.2.2.2.2.2.2.1) (yRoom C).1 (yRoom C).2 hd (kk r hr H locs la hP hS hla)
theorem y_mmax (C : CC g E cc nL own nf nl) {index : Nat} {x y : Int32} (hl : Cond.methodLink own index Lib.Math.max.name ∈ TB) (hs : Cond.static Lib.Math.max.name ∈ TB) (hi : Cond.initialized "java/lang/Math" ∈ TB) (hc : Cond.code Lib.Math.max.name Lib.Math.max.code 2 (some .int) ∈ TB) (hf : 1 ≤ nf) (hlo : (st.map fun v => v.category).sum + 13 ≤ nl) (hd : decode cc pc = .ok (.invokestatic index, 3)) (hn : pc + 3 = n) (kk : YO g E nL QQ o w n ls (.int (imax x y) :: st)) : YO g E nL QQ o w pc ls (.int y :: .int x :: st) := by
  subst hn
  have ht := C.2.2.2.2.1
  exact fun r hr H locs la hP hS hla => va_mmax C.1 C.2.1 (C.2.2.1.trans hla.1.symm) C.2.2.2.1 (ht _ hl) (ht _ hs) (ht _ hi) (ht _ hc) (Nat.le_trans hf C.2.2.2.2.2.2.2.1) (Nat.le_trans hlo C.2.2.2.2.2.2.2.2.1) (yRoom C).1 (yRoom C).2 hd (kk r hr H locs la hP hS hla)
theorem y_copy (C : CC g E cc nL own nf nl) {index k0 q0 k1 q1 : Nat} {sp dp m : Int32} {K : Wd → Option ρ} (hl : Cond.methodLink own index arraycopyName ∈ TB) (hna : Cond.native arraycopyName ∈ TB) (hs : Cond.static arraycopyName ∈ TB) (hi : Cond.initialized "java/lang/System" ∈ TB) (h0 : E.2.2.2.2.2.1[k0]? = some (0, q0)) (h1 : E.2.2.2.2.2.1[k1]? = some (0, q1)) (hf : 1 ≤ nf) (hlo : (st.map fun v => v.category).sum + (nativeFrameWords "java/lang/System" "arraycopy" 5 + 11) ≤ nl) (hd : decode cc pc = .ok (.invokestatic index, 3)) (hn : pc + 3 = n)
    (kk : ∀ w', cpy w k0 q0 k1 q1 sp dp m = some w' → YO g E nL QQ (K w') w' n ls st) : YO g E nL QQ ((cpy w k0 q0 k1 q1 sp dp m).bind K) w pc ls (.int m :: .int dp :: .ref (E.2.2.2.2.1 + k1) :: .int sp :: .ref (E.2.2.2.2.1 + k0) :: st) := by
  subst hn
  have ht := C.2.2.2.2.1
  by_cases h : sp < 0 ∨ dp < 0 ∨ m < 0 ∨ q0 < sp.toNatClampNeg + m.toNatClampNeg ∨ q1 < dp.toNatClampNeg + m.toNatClampNeg
  · rw [cpy, if_pos h]; exact y_no
  · have e : cpy w k0 q0 k1 q1 sp dp m = some (sA w k1 (va_cpy (w.1 k0) (w.1 k1) sp.toNatClampNeg dp.toNatClampNeg m.toNatClampNeg)) := by rw [cpy, if_neg h]
    rw [e]
    simp only [not_or] at h
    refine fun r hr H locs la hP hS hla => va_copyi C.1 C.2.1 (C.2.2.1.trans hla.1.symm) C.2.2.2.1 (ht _ hl) (ht _ hna) (ht _ hs) (ht _ hi) C.2.2.2.2.2.1.1 hP (yW_D E w) hS k0 k1 0 0 (yW_get h0) (yW_get h1) rfl rfl rfl h.1 h.2.1 h.2.2.1 (Nat.not_lt.mp h.2.2.2.1) (Nat.not_lt.mp h.2.2.2.2) (fun _ _ => rfl) (Nat.le_trans hf C.2.2.2.2.2.2.2.1) (Nat.le_trans hlo C.2.2.2.2.2.2.2.2.1) hd (fun H1 locs1 hP1 hD1 hS1 => ?_)
    rw [yW_set (w' := sA w k1 (va_cpy (w.1 k0) (w.1 k1) sp.toNatClampNeg dp.toNatClampNeg m.toNatClampNeg)) h1 (by simp [yC, sA]) yC_sA] at hP1
    exact kk _ e r hr H1 locs1 la hP1 hS1 hla
theorem y_null (C : CC g E cc nL own nf nl) (hd : decode cc pc = .ok (.aconst_null, 1)) (hn : pc + 1 = n) (kk : YO g E nL QQ o w n ls (.null :: st)) : YO g E nL QQ o w pc ls st := by
  subst hn
  exact fun r hr H locs la hP hS hl => lv_null C.1 C.2.1 hd (kk r hr H locs la hP hS hl)
theorem y_ifnull (C : CC g E cc nL own nf nl) {x : Nat} {off : Int} (hd : decode cc pc = .ok (.ifnull off, 3)) (hn : pc + 3 = n) (kk : YO g E nL QQ o w n ls st) : YO g E nL QQ o w pc ls (.ref x :: st) := by
  subst hn
  exact fun r hr H locs la hP hS hl => lv_ifnull C.1 C.2.1 hd (kk r hr H locs la hP hS hl)
theorem y_ifnullN (C : CC g E cc nL own nf nl) {off : Int} {tgt : Nat} (hd : decode cc pc = .ok (.ifnull off, 3)) (ht : (pc : Int) + off = (tgt : Int)) (kk : YO g E nL QQ o w tgt ls st) : YO g E nL QQ o w pc ls (.null :: st) :=
  fun r hr H locs la hP hS hl => lv_ifnullN C.1 C.2.1 hd ht (kk r hr H locs la hP hS hl)
theorem y_astore_nN (C : CC g E cc nL own nf nl) {k : Fin 4} (hd : decode cc pc = .ok (.astore_n k, 1)) (hi : (k : Nat) < nL) (hq : ((k : Nat), Value.null) :: ls.filter (fun q => !(q.1 == (k : Nat)) && !(q.1 + 1 == (k : Nat) && q.2.category == 2)) = ls') (hn : pc + 1 = n) (kk : YO g E nL QQ o w n ls' st) : YO g E nL QQ o w pc ls (.null :: st) := by
  subst hn
  exact fun r hr H locs la hP hS hl => lv_astore_nN C.1 C.2.1 hd rfl hl hi hq (fun la' hl' => kk r hr H locs la' hP hS hl')
theorem y_aload_nN (C : CC g E cc nL own nf nl) {k : Fin 4} (hd : decode cc pc = .ok (.aload_n k, 1)) (q : Nat) (hq : ls[q]? = some ((k : Nat), .null)) (hn : pc + 1 = n) (kk : YO g E nL QQ o w n ls (.null :: st)) : YO g E nL QQ o w pc ls st := by
  subst hn
  exact fun r hr H locs la hP hS hl => lv_aload_nN C.1 C.2.1 hd rfl (lv_at hl q hq) (kk r hr H locs la hP hS hl)
/-! switches -/
theorem y_swIn (C : CC g E cc nL own nf nl) {dflt lo hi : Int} {offs : Array Int} {len : Nat} {x : Int32} (off : Int) {tgt : Nat} (hd : decode cc pc = .ok (.tableswitch dflt lo hi offs, len)) (h1 : ¬ x.toInt < lo) (h2 : ¬ hi < x.toInt) (ho : offs[(x.toInt - lo).toNat]? = some off) (ht : (pc : Int) + off = (tgt : Int)) (kk : YO g E nL QQ o w tgt ls st) : YO g E nL QQ o w pc ls (.int x :: st) :=
  fun r hr H locs la hP hS hl => lv_tableIn C.1 C.2.1 hd h1 h2 ho ht (kk r hr H locs la hP hS hl)
theorem y_swOut (C : CC g E cc nL own nf nl) {dflt lo hi : Int} {offs : Array Int} {len : Nat} {x : Int32} {tgt : Nat} (hd : decode cc pc = .ok (.tableswitch dflt lo hi offs, len)) (h : x.toInt < lo ∨ hi < x.toInt) (ht : (pc : Int) + dflt = (tgt : Int)) (kk : YO g E nL QQ o w tgt ls st) : YO g E nL QQ o w pc ls (.int x :: st) :=
  fun r hr H locs la hP hS hl => lv_tableOut C.1 C.2.1 hd h ht (kk r hr H locs la hP hS hl)
theorem y_if {c : Prop} {_ : Decidable c} {o1 o2 : Option ρ} (h1 : c → YO g E nL QQ o1 w pc ls st) (h2 : ¬ c → YO g E nL QQ o2 w pc ls st) : YO g E nL QQ (if c then o1 else o2) w pc ls st := by
  by_cases h : c
  · rw [if_pos h]; exact h1 h
  · rw [if_neg h]; exact h2 h
/-! longs -/
theorem y_lcmp (C : CC g E cc nL own nf nl) {x y : Int64} (hd : decode cc pc = .ok (.lcmp, 1)) (hn : pc + 1 = n) (kk : YO g E nL QQ o w n ls (.int (lg_cmp x y) :: st)) : YO g E nL QQ o w pc ls (.long y :: .long x :: st) := by
  subst hn
  exact fun r hr H locs la hP hS hl => W.lcmp C.1 C.2.1 hd (kk r hr H locs la hP hS hl)
theorem y_ladd (C : CC g E cc nL own nf nl) {x y : Int64} (hd : decode cc pc = .ok (.ladd, 1)) (hn : pc + 1 = n) (kk : YO g E nL QQ o w n ls (.long (x + y) :: st)) : YO g E nL QQ o w pc ls (.long y :: .long x :: st) := by
  subst hn
  exact fun r hr H locs la hP hS hl => lv_ladd C.1 C.2.1 hd (kk r hr H locs la hP hS hl)
theorem y_lsub (C : CC g E cc nL own nf nl) {x y : Int64} (hd : decode cc pc = .ok (.lsub, 1)) (hn : pc + 1 = n) (kk : YO g E nL QQ o w n ls (.long (x - y) :: st)) : YO g E nL QQ o w pc ls (.long y :: .long x :: st) := by
  subst hn
  exact fun r hr H locs la hP hS hl => lv_lsub C.1 C.2.1 hd (kk r hr H locs la hP hS hl)
theorem y_lushr (C : CC g E cc nL own nf nl) {x : Int64} {y : Int32} (hd : decode cc pc = .ok (.lushr, 1)) (hn : pc + 1 = n) (kk : YO g E nL QQ o w n ls (.long (x.toUInt64 >>> (y.toInt64.toUInt64 &&& Int64.toUInt64 63)).toInt64 :: st)) : YO g E nL QQ o w pc ls (.int y :: .long x :: st) := by
  subst hn
  exact fun r hr H locs la hP hS hl => lv_lushr C.1 C.2.1 hd rfl (kk r hr H locs la hP hS hl)
theorem y_iushr (C : CC g E cc nL own nf nl) {x y : Int32} (hd : decode cc pc = .ok (.iushr, 1)) (hn : pc + 1 = n) (kk : YO g E nL QQ o w n ls (.int (x.toUInt32 >>> (y.toUInt32 &&& Int32.toUInt32 31)).toInt32 :: st)) : YO g E nL QQ o w pc ls (.int y :: .int x :: st) := by
  subst hn
  exact fun r hr H locs la hP hS hl => lv_iushr C.1 C.2.1 hd rfl (kk r hr H locs la hP hS hl)
theorem y_l2i (C : CC g E cc nL own nf nl) {x : Int64} (hd : decode cc pc = .ok (.l2i, 1)) (hn : pc + 1 = n) (kk : YO g E nL QQ o w n ls (.int x.toInt32 :: st)) : YO g E nL QQ o w pc ls (.long x :: st) := by
  subst hn
  exact fun r hr H locs la hP hS hl => lv_l2i C.1 C.2.1 hd rfl (kk r hr H locs la hP hS hl)
theorem y_lload_n (C : CC g E cc nL own nf nl) {k : Fin 4} {x : Int64} (hd : decode cc pc = .ok (.lload_n k, 1)) (q : Nat) (hq : ls[q]? = some ((k : Nat), .long x)) (hn : pc + 1 = n) (kk : YO g E nL QQ o w n ls (.long x :: st)) : YO g E nL QQ o w pc ls st := by
  subst hn
  exact fun r hr H locs la hP hS hl => lv_lload_n C.1 C.2.1 hd rfl (lv_at hl q hq) (kk r hr H locs la hP hS hl)
theorem y_lstore_n (C : CC g E cc nL own nf nl) {k : Fin 4} {x : Int64} (hd : decode cc pc = .ok (.lstore_n k, 1)) (hi : (k : Nat) + 1 < nL) (hq : ((k : Nat), Value.long x) :: ls.filter (fun q => !(q.1 == (k : Nat)) && (!(q.1 == (k : Nat) + 1) && !(q.1 + 1 == (k : Nat) && q.2.category == 2))) = ls') (hn : pc + 1 = n) (kk : YO g E nL QQ o w n ls' st) : YO g E nL QQ o w pc ls (.long x :: st) := by
  subst hn
  exact fun r hr H locs la hP hS hl => lv_lstore_n C.1 C.2.1 hd rfl hl hi hq (fun la' hl' => kk r hr H locs la' hP hS hl')
theorem y_ldcw (C : CC g E cc nL own nf nl) {index : Nat} (v : Int32) (hw : Cond.constant own index v ∈ TB) (hd : decode cc pc = .ok (.ldc_w index, 3)) (hn : pc + 3 = n) (kk : YO g E nL QQ o w n ls (.int v :: st)) : YO g E nL QQ o w pc ls st := by
  subst hn
  exact fun r hr H locs la hP hS hl => lv_ldcw C.1 C.2.1 C.2.2.2.1 (C.2.2.2.2.1 _ hw) hd (kk r hr H locs la hP hS hl)
theorem y_ldc2 (C : CC g E cc nL own nf nl) {index : Nat} (v : Int64) (hw : Cond.constantLong own index v ∈ TB) (hd : decode cc pc = .ok (.ldc2_w index, 3)) (hn : pc + 3 = n) (kk : YO g E nL QQ o w n ls (.long v :: st)) : YO g E nL QQ o w pc ls st := by
  subst hn
  exact fun r hr H locs la hP hS hl => lv_ldc2 C.1 C.2.1 C.2.2.2.1 (C.2.2.2.2.1 _ hw) hd (kk r hr H locs la hP hS hl)
theorem y_lookup (C : CC g E cc nL own nf nl) {dflt : Int} {ps : Array (Int × Int)} {len : Nat} {x : Int32} (off : Int) {tgt : Nat} (hd : decode cc pc = .ok (.lookupswitch dflt ps, len)) (hp : (ps.toList.zip (ps.toList.drop 1)).all (fun (a, next) => a.1 < next.1) = true) (ho : Op.lookupswitch.offset ps.toList dflt x.toInt = off) (ht : (pc : Int) + off = (tgt : Int)) (kk : YO g E nL QQ o w tgt ls st) : YO g E nL QQ o w pc ls (.int x :: st) :=
  fun r hr H locs la hP hS hl => lv_lookup C.1 C.2.1 hd hp ho ht (kk r hr H locs la hP hS hl)
end YC
/-- out of a switch -/
theorem sw_ne {x : Int32} {k : Nat} (hk : k < 2 ^ 31) (h : ¬ x = nI k) : ¬ x.toInt = (k : Int) := fun q => h (Int32.toInt_inj.mp (q.trans (nI_toInt hk).symm))
end
section
def pI (w : Wd) (k j : Nat) (x : Int32) : Option Wd := some (sI w k j x)
def pL (w : Wd) (k : Nat) (x : Int64) : Option Wd := some (sL w k x)
def gd {ρ : Type} (b : Bool) (o : Option ρ) : Option ρ := if b = true then o else none
section YP
variable {ρ : Type} {g : Gx} {E : Ex} {cc : ByteArray} {nL nf nl : Nat} {own : String} {QQ : ρ → State → Prop} {o : Option ρ} {w w' : Wd} {pc n : Nat} {ls ls' : List (Nat × Value)} {st : List Value}
theorem y_gd2 {c : Prop} {_ : Decidable c} (h : c → YO g E nL QQ o w pc ls st) : YO g E nL QQ (gd (decide c) o) w pc ls st := by
  by_cases hc : c
  · rw [gd, if_pos (decide_eq_true hc)]; exact h hc
  · rw [gd, if_neg (by simp [hc])]; exact y_no
theorem y_putI (C : CC g E cc nL own nf nl) {k ci f N index : Nat} {Cn ref : String} {T : u_T} {x : Int32} {K : Wd → Option ρ} (hin : ∀ c ∈ u_ws Cn T N, c ∈ TB) (ty0 : Nat → FieldType) (hty : ∀ k, k < N → parseFieldDescriptor (T k).2.2.1 = some (ty0 k)) (hnm : ∀ a, a < N → ∀ b, b < N → a ≠ b → (T a).2.1 ≠ (T b).2.1) (ho : E.2.2.2.2.2.1[k]? = some (ci + 3, 0)) (hc : vwCl[ci]? = some (Cn, T, N)) (hf : f < N) (hl : Cond.fieldLink own index ref (T f).2.1 (T f).2.2.1 ∈ TB) (hr : ref = (T f).1) (hfin : (T f).2.2.2 = false) (hpd : parseFieldDescriptor (T f).2.2.1 = some .int) (hlen : f < (yF E.2.2.2.2.1 w k ci).length) (hst : ∀ (B : Nat) (w : Wd) (k : Nat) (x : Int32), (yF B w k ci).set f (.int x) = yF B (sI w k f x) k ci) (hd : decode cc pc = .ok (.putfield index, 3)) (hn : pc + 3 = n)
    (kk : ∀ w', pI w k f x = some w' → YO g E nL QQ (K w') w' n ls st) : YO g E nL QQ ((pI w k f x).bind K) w pc ls (.int x :: .ref (E.2.2.2.2.1 + k) :: st) :=
  y_put C hin ty0 hty hnm ho hc hf hl hr hfin hpd rfl rfl hlen (hst _ _ _ _) yC_sI hd hn (kk _ rfl)
theorem y_putL (C : CC g E cc nL own nf nl) {k ci f N index : Nat} {Cn ref : String} {T : u_T} {x : Int64} {K : Wd → Option ρ} (hin : ∀ c ∈ u_ws Cn T N, c ∈ TB) (ty0 : Nat → FieldType) (hty : ∀ k, k < N → parseFieldDescriptor (T k).2.2.1 = some (ty0 k)) (hnm : ∀ a, a < N → ∀ b, b < N → a ≠ b → (T a).2.1 ≠ (T b).2.1) (ho : E.2.2.2.2.2.1[k]? = some (ci + 3, 0)) (hc : vwCl[ci]? = some (Cn, T, N)) (hf : f < N) (hl : Cond.fieldLink own index ref (T f).2.1 (T f).2.2.1 ∈ TB) (hr : ref = (T f).1) (hfin : (T f).2.2.2 = false) (hpd : parseFieldDescriptor (T f).2.2.1 = some .long) (hlen : f < (yF E.2.2.2.2.1 w k ci).length) (hst : ∀ (B : Nat) (w : Wd) (k : Nat) (x : Int64), (yF B w k ci).set f (.long x) = yF B (sL w k x) k ci) (hd : decode cc pc = .ok (.putfield index, 3)) (hn : pc + 3 = n)
    (kk : ∀ w', pL w k x = some w' → YO g E nL QQ (K w') w' n ls st) : YO g E nL QQ ((pL w k x).bind K) w pc ls (.long x :: .ref (E.2.2.2.2.1 + k) :: st) :=
  y_put C hin ty0 hty hnm ho hc hf hl hr hfin hpd rfl rfl hlen (hst _ _ _ _) yC_sL hd hn (kk _ rfl)
theorem y_putZ (C : CC g E cc nL own nf nl) {k ci f N index : Nat} {Cn ref : String} {T : u_T} {x : Int32} {K : Wd → Option ρ} (hin : ∀ c ∈ u_ws Cn T N, c ∈ TB) (ty0 : Nat → FieldType) (hty : ∀ k, k < N → parseFieldDescriptor (T k).2.2.1 = some (ty0 k)) (hnm : ∀ a, a < N → ∀ b, b < N → a ≠ b → (T a).2.1 ≠ (T b).2.1) (ho : E.2.2.2.2.2.1[k]? = some (ci + 3, 0)) (hc : vwCl[ci]? = some (Cn, T, N)) (hf : f < N) (hl : Cond.fieldLink own index ref (T f).2.1 (T f).2.2.1 ∈ TB) (hr : ref = (T f).1) (hfin : (T f).2.2.2 = false) (hpd : parseFieldDescriptor (T f).2.2.1 = some .boolean) (hlen : f < (yF E.2.2.2.2.1 w k ci).length) (hst : ∀ (B : Nat) (w : Wd) (k : Nat) (x : Int32), x = 0 ∨ x = 1 → (yF B w k ci).set f (.int x) = yF B (sI w k f x) k ci) (hd : decode cc pc = .ok (.putfield index, 3)) (hn : pc + 3 = n)
    (kk : ∀ w', stZ w k f x = some w' → YO g E nL QQ (K w') w' n ls st) : YO g E nL QQ ((stZ w k f x).bind K) w pc ls (.int x :: .ref (E.2.2.2.2.1 + k) :: st) := by
  by_cases h : x = 0 ∨ x = 1
  · have e : stZ w k f x = some (sI w k f x) := by rw [stZ, if_pos h]
    rw [e]
    have hn1 : narrow .boolean (.int x) = .int x := by rcases h with rfl | rfl <;> decide +kernel
    exact y_put C hin ty0 hty hnm ho hc hf hl hr hfin hpd hn1 (by rcases h with rfl | rfl <;> rfl) hlen (hst _ _ _ _ h) yC_sI hd hn (kk _ e)
  · rw [stZ, if_neg h]; exact y_no
theorem y_putIN (C : CC g E cc nL own nf nl) {k ci f N index : Nat} {Cn ref : String} {host : String} {T : u_T} {x : Int32} {K : Wd → Option ρ} (hin : ∀ c ∈ u_ws Cn T N, c ∈ TB) (ty0 : Nat → FieldType) (hty : ∀ k, k < N → parseFieldDescriptor (T k).2.2.1 = some (ty0 k)) (hnm : ∀ a, a < N → ∀ b, b < N → a ≠ b → (T a).2.1 ≠ (T b).2.1) (ho : E.2.2.2.2.2.1[k]? = some (ci + 3, 0)) (hc : vwCl[ci]? = some (Cn, T, N)) (hf : f < N) (hl : Cond.fieldLinkNest own index ref (T f).2.1 (T f).2.2.1 host ∈ NWs) (hr : ref = (T f).1) (hfin : (T f).2.2.2 = false) (hpd : parseFieldDescriptor (T f).2.2.1 = some .int) (hlen : f < (yF E.2.2.2.2.1 w k ci).length) (hst : ∀ (B : Nat) (w : Wd) (k : Nat) (x : Int32), (yF B w k ci).set f (.int x) = yF B (sI w k f x) k ci) (hd : decode cc pc = .ok (.putfield index, 3)) (hn : pc + 3 = n)
    (kk : ∀ w', pI w k f x = some w' → YO g E nL QQ (K w') w' n ls st) : YO g E nL QQ ((pI w k f x).bind K) w pc ls (.int x :: .ref (E.2.2.2.2.1 + k) :: st) :=
  y_putN C hin ty0 hty hnm ho hc hf hl hr hfin hpd rfl rfl hlen (hst _ _ _ _) yC_sI hd hn (kk _ rfl)
theorem y_putLN (C : CC g E cc nL own nf nl) {k ci f N index : Nat} {Cn ref : String} {host : String} {T : u_T} {x : Int64} {K : Wd → Option ρ} (hin : ∀ c ∈ u_ws Cn T N, c ∈ TB) (ty0 : Nat → FieldType) (hty : ∀ k, k < N → parseFieldDescriptor (T k).2.2.1 = some (ty0 k)) (hnm : ∀ a, a < N → ∀ b, b < N → a ≠ b → (T a).2.1 ≠ (T b).2.1) (ho : E.2.2.2.2.2.1[k]? = some (ci + 3, 0)) (hc : vwCl[ci]? = some (Cn, T, N)) (hf : f < N) (hl : Cond.fieldLinkNest own index ref (T f).2.1 (T f).2.2.1 host ∈ NWs) (hr : ref = (T f).1) (hfin : (T f).2.2.2 = false) (hpd : parseFieldDescriptor (T f).2.2.1 = some .long) (hlen : f < (yF E.2.2.2.2.1 w k ci).length) (hst : ∀ (B : Nat) (w : Wd) (k : Nat) (x : Int64), (yF B w k ci).set f (.long x) = yF B (sL w k x) k ci) (hd : decode cc pc = .ok (.putfield index, 3)) (hn : pc + 3 = n)
    (kk : ∀ w', pL w k x = some w' → YO g E nL QQ (K w') w' n ls st) : YO g E nL QQ ((pL w k x).bind K) w pc ls (.long x :: .ref (E.2.2.2.2.1 + k) :: st) :=
  y_putN C hin ty0 hty hnm ho hc hf hl hr hfin hpd rfl rfl hlen (hst _ _ _ _) yC_sL hd hn (kk _ rfl)
theorem y_putZN (C : CC g E cc nL own nf nl) {k ci f N index : Nat} {Cn ref : String} {host : String} {T : u_T} {x : Int32} {K : Wd → Option ρ} (hin : ∀ c ∈ u_ws Cn T N, c ∈ TB) (ty0 : Nat → FieldType) (hty : ∀ k, k < N → parseFieldDescriptor (T k).2.2.1 = some (ty0 k)) (hnm : ∀ a, a < N → ∀ b, b < N → a ≠ b → (T a).2.1 ≠ (T b).2.1) (ho : E.2.2.2.2.2.1[k]? = some (ci + 3, 0)) (hc : vwCl[ci]? = some (Cn, T, N)) (hf : f < N) (hl : Cond.fieldLinkNest own index ref (T f).2.1 (T f).2.2.1 host ∈ NWs) (hr : ref = (T f).1) (hfin : (T f).2.2.2 = false) (hpd : parseFieldDescriptor (T f).2.2.1 = some .boolean) (hlen : f < (yF E.2.2.2.2.1 w k ci).length) (hst : ∀ (B : Nat) (w : Wd) (k : Nat) (x : Int32), x = 0 ∨ x = 1 → (yF B w k ci).set f (.int x) = yF B (sI w k f x) k ci) (hd : decode cc pc = .ok (.putfield index, 3)) (hn : pc + 3 = n)
    (kk : ∀ w', stZ w k f x = some w' → YO g E nL QQ (K w') w' n ls st) : YO g E nL QQ ((stZ w k f x).bind K) w pc ls (.int x :: .ref (E.2.2.2.2.1 + k) :: st) := by
  by_cases h : x = 0 ∨ x = 1
  · have e : stZ w k f x = some (sI w k f x) := by rw [stZ, if_pos h]
    rw [e]
    have hn1 : narrow .boolean (.int x) = .int x := by rcases h with rfl | rfl <;> decide +kernel
    exact y_putN C hin ty0 hty hnm ho hc hf hl hr hfin hpd hn1 (by rcases h with rfl | rfl <;> rfl) hlen (hst _ _ _ _ h) yC_sI hd hn (kk _ e)
  · rw [stZ, if_neg h]; exact y_no
end YP
theorem sw_look {dflt : Int} {a b oa ob : Int} {x : Int} (h1 : ¬ x = a) (h2 : ¬ x = b) : Op.lookupswitch.offset [(a, oa), (b, ob)] dflt x = dflt := by
  simp [Op.lookupswitch.offset, Ne.symm h1, Ne.symm h2, h1, h2]
theorem NW_m {w : Cond} (i : Nat) (h : tables_1[i]? = some w) (hg : isNest w = true) : w ∈ NWs := List.mem_filter.mpr ⟨List.mem_of_getElem? h, hg⟩
section YK
variable {ρ : Type} {g : Gx} {E : Ex} {cc : ByteArray} {nL nf nl : Nat} {own : String} {QQ : ρ → State → Prop} {o : Option ρ} {w : Wd} {pc n : Nat} {ls : List (Nat × Value)} {st : List Value}
theorem y_if_eq_T (C : CC g E cc nL own nf nl) {x : Int32} {off : Int} {tgt : Nat} (hd : decode cc pc = .ok (.ifCond .eq off, 3)) (ht : (pc : Int) + off = (tgt : Int)) (h : x = 0) (kk : YO g E nL QQ o w tgt ls st) : YO g E nL QQ o w pc ls (.int x :: st) := y_eq (if_pos h).symm (y_if_eq (o1 := o) (o2 := none) C hd ht rfl (fun _ => kk) (fun z => absurd h z))
theorem y_if_eq_F (C : CC g E cc nL own nf nl) {x : Int32} {off : Int} {tgt : Nat} (hd : decode cc pc = .ok (.ifCond .eq off, 3)) (ht : (pc : Int) + off = (tgt : Int)) (hn : pc + 3 = n) (h : ¬ x = 0) (kk : YO g E nL QQ o w n ls st) : YO g E nL QQ o w pc ls (.int x :: st) := y_eq (if_neg h).symm (y_if_eq (o1 := none) (o2 := o) C hd ht hn (fun z => absurd z h) (fun _ => kk))
theorem y_icmp_eq_T (C : CC g E cc nL own nf nl) {x y : Int32} {off : Int} {tgt : Nat} (hd : decode cc pc = .ok (.if_icmp .eq off, 3)) (ht : (pc : Int) + off = (tgt : Int)) (h : x = y) (kk : YO g E nL QQ o w tgt ls st) : YO g E nL QQ o w pc ls (.int y :: .int x :: st) := y_eq (if_pos h).symm (y_icmp_eq (o1 := o) (o2 := none) C hd ht rfl (fun _ => kk) (fun z => absurd h z))
theorem y_icmp_eq_F (C : CC g E cc nL own nf nl) {x y : Int32} {off : Int} {tgt : Nat} (hd : decode cc pc = .ok (.if_icmp .eq off, 3)) (ht : (pc : Int) + off = (tgt : Int)) (hn : pc + 3 = n) (h : ¬ x = y) (kk : YO g E nL QQ o w n ls st) : YO g E nL QQ o w pc ls (.int y :: .int x :: st) := y_eq (if_neg h).symm (y_icmp_eq (o1 := none) (o2 := o) C hd ht hn (fun z => absurd z h) (fun _ => kk))
theorem y_if_ne_T (C : CC g E cc nL own nf nl) {x : Int32} {off : Int} {tgt : Nat} (hd : decode cc pc = .ok (.ifCond .ne off, 3)) (ht : (pc : Int) + off = (tgt : Int)) (h : ¬ x = 0) (kk : YO g E nL QQ o w tgt ls st) : YO g E nL QQ o w pc ls (.int x :: st) := y_eq (if_neg h).symm (y_if_ne (o1 := none) (o2 := o) C hd ht rfl (fun _ => kk) (fun z => absurd z h))
theorem y_if_ne_F (C : CC g E cc nL own nf nl) {x : Int32} {off : Int} {tgt : Nat} (hd : decode cc pc = .ok (.ifCond .ne off, 3)) (ht : (pc : Int) + off = (tgt : Int)) (hn : pc + 3 = n) (h : x = 0) (kk : YO g E nL QQ o w n ls st) : YO g E nL QQ o w pc ls (.int x :: st) := y_eq (if_pos h).symm (y_if_ne (o1 := o) (o2 := none) C hd ht hn (fun z => absurd h z) (fun _ => kk))
theorem y_icmp_ne_T (C : CC g E cc nL own nf nl) {x y : Int32} {off : Int} {tgt : Nat} (hd : decode cc pc = .ok (.if_icmp .ne off, 3)) (ht : (pc : Int) + off = (tgt : Int)) (h : ¬ x = y) (kk : YO g E nL QQ o w tgt ls st) : YO g E nL QQ o w pc ls (.int y :: .int x :: st) := y_eq (if_neg h).symm (y_icmp_ne (o1 := none) (o2 := o) C hd ht rfl (fun _ => kk) (fun z => absurd z h))
theorem y_icmp_ne_F (C : CC g E cc nL own nf nl) {x y : Int32} {off : Int} {tgt : Nat} (hd : decode cc pc = .ok (.if_icmp .ne off, 3)) (ht : (pc : Int) + off = (tgt : Int)) (hn : pc + 3 = n) (h : x = y) (kk : YO g E nL QQ o w n ls st) : YO g E nL QQ o w pc ls (.int y :: .int x :: st) := y_eq (if_pos h).symm (y_icmp_ne (o1 := o) (o2 := none) C hd ht hn (fun z => absurd h z) (fun _ => kk))
theorem y_if_lt_T (C : CC g E cc nL own nf nl) {x : Int32} {off : Int} {tgt : Nat} (hd : decode cc pc = .ok (.ifCond .lt off, 3)) (ht : (pc : Int) + off = (tgt : Int)) (h : x < 0) (kk : YO g E nL QQ o w tgt ls st) : YO g E nL QQ o w pc ls (.int x :: st) := y_eq (if_pos h).symm (y_if_lt (o1 := o) (o2 := none) C hd ht rfl (fun _ => kk) (fun z => absurd h z))
theorem y_if_lt_F (C : CC g E cc nL own nf nl) {x : Int32} {off : Int} {tgt : Nat} (hd : decode cc pc = .ok (.ifCond .lt off, 3)) (ht : (pc : Int) + off = (tgt : Int)) (hn : pc + 3 = n) (h : ¬ x < 0) (kk : YO g E nL QQ o w n ls st) : YO g E nL QQ o w pc ls (.int x :: st) := y_eq (if_neg h).symm (y_if_lt (o1 := none) (o2 := o) C hd ht hn (fun z => absurd z h) (fun _ => kk))
theorem y_icmp_lt_T (C : CC g E cc nL own nf nl) {x y : Int32} {off : Int} {tgt : Nat} (hd : decode cc pc = .ok (.if_icmp .lt off, 3)) (ht : (pc : Int) + off = (tgt : Int)) (h : x < y) (kk : YO g E nL QQ o w tgt ls st) : YO g E nL QQ o w pc ls (.int y :: .int x :: st) := y_eq (if_pos h).symm (y_icmp_lt (o1 := o) (o2 := none) C hd ht rfl (fun _ => kk) (fun z => absurd h z))
theorem y_icmp_lt_F (C : CC g E cc nL own nf nl) {x y : Int32} {off : Int} {tgt : Nat} (hd : decode cc pc = .ok (.if_icmp .lt off, 3)) (ht : (pc : Int) + off = (tgt : Int)) (hn : pc + 3 = n) (h : ¬ x < y) (kk : YO g E nL QQ o w n ls st) : YO g E nL QQ o w pc ls (.int y :: .int x :: st) := y_eq (if_neg h).symm (y_icmp_lt (o1 := none) (o2 := o) C hd ht hn (fun z => absurd z h) (fun _ => kk))
theorem y_if_ge_T (C : CC g E cc nL own nf nl) {x : Int32} {off : Int} {tgt : Nat} (hd : decode cc pc = .ok (.ifCond .ge off, 3)) (ht : (pc : Int) + off = (tgt : Int)) (h : 0 ≤ x) (kk : YO g E nL QQ o w tgt ls st) : YO g E nL QQ o w pc ls (.int x :: st) := y_eq (if_pos h).symm (y_if_ge (o1 := o) (o2 := none) C hd ht rfl (fun _ => kk) (fun z => absurd h z))
theorem y_if_ge_F (C : CC g E cc nL own nf nl) {x : Int32} {off : Int} {tgt : Nat} (hd : decode cc pc = .ok (.ifCond .ge off, 3)) (ht : (pc : Int) + off = (tgt : Int)) (hn : pc + 3 = n) (h : ¬ 0 ≤ x) (kk : YO g E nL QQ o w n ls st) : YO g E nL QQ o w pc ls (.int x :: st) := y_eq (if_neg h).symm (y_if_ge (o1 := none) (o2 := o) C hd ht hn (fun z => absurd z h) (fun _ => kk))
theorem y_icmp_ge_T (C : CC g E cc nL own nf nl) {x y : Int32} {off : Int} {tgt : Nat} (hd : decode cc pc = .ok (.if_icmp .ge off, 3)) (ht : (pc : Int) + off = (tgt : Int)) (h : y ≤ x) (kk : YO g E nL QQ o w tgt ls st) : YO g E nL QQ o w pc ls (.int y :: .int x :: st) := y_eq (if_pos h).symm (y_icmp_ge (o1 := o) (o2 := none) C hd ht rfl (fun _ => kk) (fun z => absurd h z))
theorem y_icmp_ge_F (C : CC g E cc nL own nf nl) {x y : Int32} {off : Int} {tgt : Nat} (hd : decode cc pc = .ok (.if_icmp .ge off, 3)) (ht : (pc : Int) + off = (tgt : Int)) (hn : pc + 3 = n) (h : ¬ y ≤ x) (kk : YO g E nL QQ o w n ls st) : YO g E nL QQ o w pc ls (.int y :: .int x :: st) := y_eq (if_neg h).symm (y_icmp_ge (o1 := none) (o2 := o) C hd ht hn (fun z => absurd z h) (fun _ => kk))
theorem y_if_gt_T (C : CC g E cc nL own nf nl) {x : Int32} {off : Int} {tgt : Nat} (hd : decode cc pc = .ok (.ifCond .gt off, 3)) (ht : (pc : Int) + off = (tgt : Int)) (h : 0 < x) (kk : YO g E nL QQ o w tgt ls st) : YO g E nL QQ o w pc ls (.int x :: st) := y_eq (if_pos h).symm (y_if_gt (o1 := o) (o2 := none) C hd ht rfl (fun _ => kk) (fun z => absurd h z))
theorem y_if_gt_F (C : CC g E cc nL own nf nl) {x : Int32} {off : Int} {tgt : Nat} (hd : decode cc pc = .ok (.ifCond .gt off, 3)) (ht : (pc : Int) + off = (tgt : Int)) (hn : pc + 3 = n) (h : ¬ 0 < x) (kk : YO g E nL QQ o w n ls st) : YO g E nL QQ o w pc ls (.int x :: st) := y_eq (if_neg h).symm (y_if_gt (o1 := none) (o2 := o) C hd ht hn (fun z => absurd z h) (fun _ => kk))
theorem y_icmp_gt_T (C : CC g E cc nL own nf nl) {x y : Int32} {off : Int} {tgt : Nat} (hd : decode cc pc = .ok (.if_icmp .gt off, 3)) (ht : (pc : Int) + off = (tgt : Int)) (h : y < x) (kk : YO g E nL QQ o w tgt ls st) : YO g E nL QQ o w pc ls (.int y :: .int x :: st) := y_eq (if_pos h).symm (y_icmp_gt (o1 := o) (o2 := none) C hd ht rfl (fun _ => kk) (fun z => absurd h z))
theorem y_icmp_gt_F (C : CC g E cc nL own nf nl) {x y : Int32} {off : Int} {tgt : Nat} (hd : decode cc pc = .ok (.if_icmp .gt off, 3)) (ht : (pc : Int) + off = (tgt : Int)) (hn : pc + 3 = n) (h : ¬ y < x) (kk : YO g E nL QQ o w n ls st) : YO g E nL QQ o w pc ls (.int y :: .int x :: st) := y_eq (if_neg h).symm (y_icmp_gt (o1 := none) (o2 := o) C hd ht hn (fun z => absurd z h) (fun _ => kk))
theorem y_if_le_T (C : CC g E cc nL own nf nl) {x : Int32} {off : Int} {tgt : Nat} (hd : decode cc pc = .ok (.ifCond .le off, 3)) (ht : (pc : Int) + off = (tgt : Int)) (h : x ≤ 0) (kk : YO g E nL QQ o w tgt ls st) : YO g E nL QQ o w pc ls (.int x :: st) := y_eq (if_pos h).symm (y_if_le (o1 := o) (o2 := none) C hd ht rfl (fun _ => kk) (fun z => absurd h z))
theorem y_if_le_F (C : CC g E cc nL own nf nl) {x : Int32} {off : Int} {tgt : Nat} (hd : decode cc pc = .ok (.ifCond .le off, 3)) (ht : (pc : Int) + off = (tgt : Int)) (hn : pc + 3 = n) (h : ¬ x ≤ 0) (kk : YO g E nL QQ o w n ls st) : YO g E nL QQ o w pc ls (.int x :: st) := y_eq (if_neg h).symm (y_if_le (o1 := none) (o2 := o) C hd ht hn (fun z => absurd z h) (fun _ => kk))
theorem y_icmp_le_T (C : CC g E cc nL own nf nl) {x y : Int32} {off : Int} {tgt : Nat} (hd : decode cc pc = .ok (.if_icmp .le off, 3)) (ht : (pc : Int) + off = (tgt : Int)) (h : x ≤ y) (kk : YO g E nL QQ o w tgt ls st) : YO g E nL QQ o w pc ls (.int y :: .int x :: st) := y_eq (if_pos h).symm (y_icmp_le (o1 := o) (o2 := none) C hd ht rfl (fun _ => kk) (fun z => absurd h z))
theorem y_icmp_le_F (C : CC g E cc nL own nf nl) {x y : Int32} {off : Int} {tgt : Nat} (hd : decode cc pc = .ok (.if_icmp .le off, 3)) (ht : (pc : Int) + off = (tgt : Int)) (hn : pc + 3 = n) (h : ¬ x ≤ y) (kk : YO g E nL QQ o w n ls st) : YO g E nL QQ o w pc ls (.int y :: .int x :: st) := y_eq (if_neg h).symm (y_icmp_le (o1 := none) (o2 := o) C hd ht hn (fun z => absurd z h) (fun _ => kk))
end YK
end
section
abbrev shO (y : Ly) (o : Nat) : Prop := y[o]? = some (4, 0) ∧ y[o + 1]? = some (0, 360) ∧ y[o + 2]? = some (0, 240) ∧ y[o + 3]? = some (0, 6) ∧ y[o + 4]? = some (0, 6) ∧ y[o + 5]? = some (0, 6)
abbrev shR (y : Ly) (o : Nat) : Prop := y[o]? = some (5, 0) ∧ y[o + 1]? = some (0, 6) ∧ y[o + 2]? = some (0, 6) ∧ y[o + 3]? = some (0, 6) ∧ y[o + 4]? = some (0, 6) ∧ y[o + 5]? = some (0, 60) ∧ y[o + 6]? = some (0, 60) ∧ y[o + 7]? = some (0, 60) ∧ y[o + 8]? = some (0, 60)
abbrev shS (y : Ly) (o : Nat) : Prop := y[o]? = some (6, 0) ∧ shO y (o + 1) ∧ shR y (o + 7)
abbrev shT (y : Ly) (o : Nat) : Prop := y[o]? = some (7, 0) ∧ y[o + 1]? = some (1, 40) ∧ y[o + 2]? = some (0, 3)
abbrev shH (y : Ly) (o : Nat) : Prop := y[o]? = some (3, 0) ∧ y[o + 1]? = some (2, 4)
abbrev shB (y : Ly) (o : Nat) : Prop := y[o]? = some (8, 0) ∧ shS y (o + 1) ∧ shH y (o + 17) ∧ shS y (o + 83) ∧ shT y (o + 99) ∧ shR y (o + 102)
abbrev shM (y : Ly) (o : Nat) : Prop := y[o]? = some (9, 0) ∧ y[o + 1]? = some (0, 706) ∧ y[o + 2]? = some (0, 2824) ∧ y[o + 3]? = some (0, 706) ∧ y[o + 4]? = some (0, 706) ∧ y[o + 5]? = some (0, 60) ∧ y[o + 6]? = some (1, 40) ∧ y[o + 7]? = some (0, 3)
theorem in_X0 : ∀ c ∈ u_ws RX0 TX0 2, c ∈ TB := by decide +kernel
theorem st_X0_1 (B : Nat) (w : Wd) (k : Nat) (x : Int32) : (yF B w k 0).set 1 (.int x) = yF B (sI w k 1 x) k 0 := by simp [yF, sI, upd]
theorem in_X1 : ∀ c ∈ u_ws RX1 TX1 7, c ∈ TB := by decide +kernel
theorem st_X1_5 (B : Nat) (w : Wd) (k : Nat) (x : Int64) : (yF B w k 1).set 5 (.long x) = yF B (sL w k x) k 1 := by simp [yF, sL]
theorem st_X1_6 (B : Nat) (w : Wd) (k : Nat) (x : Int32) : (yF B w k 1).set 6 (.int x) = yF B (sI w k 6 x) k 1 := by simp [yF, sI, upd]
theorem in_X2 : ∀ c ∈ u_ws RX2 TX2 16, c ∈ TB := by decide +kernel
theorem st_X2_0 (B : Nat) (w : Wd) (k : Nat) (x : Int32) (h : x = 0 ∨ x = 1) : (yF B w k 2).set 0 (.int x) = yF B (sI w k 0 x) k 2 := by rcases h with rfl | rfl <;> simp [yF, sI, upd, bz]
theorem st_X2_1 (B : Nat) (w : Wd) (k : Nat) (x : Int32) : (yF B w k 2).set 1 (.int x) = yF B (sI w k 1 x) k 2 := by simp [yF, sI, upd]
theorem st_X2_2 (B : Nat) (w : Wd) (k : Nat) (x : Int32) (h : x = 0 ∨ x = 1) : (yF B w k 2).set 2 (.int x) = yF B (sI w k 2 x) k 2 := by rcases h with rfl | rfl <;> simp [yF, sI, upd, bz]
theorem st_X2_3 (B : Nat) (w : Wd) (k : Nat) (x : Int32) : (yF B w k 2).set 3 (.int x) = yF B (sI w k 3 x) k 2 := by simp [yF, sI, upd]
theorem st_X2_4 (B : Nat) (w : Wd) (k : Nat) (x : Int32) : (yF B w k 2).set 4 (.int x) = yF B (sI w k 4 x) k 2 := by simp [yF, sI, upd]
theorem st_X2_5 (B : Nat) (w : Wd) (k : Nat) (x : Int32) : (yF B w k 2).set 5 (.int x) = yF B (sI w k 5 x) k 2 := by simp [yF, sI, upd]
theorem st_X2_6 (B : Nat) (w : Wd) (k : Nat) (x : Int32) : (yF B w k 2).set 6 (.int x) = yF B (sI w k 6 x) k 2 := by simp [yF, sI, upd]
theorem st_X2_15 (B : Nat) (w : Wd) (k : Nat) (x : Int32) : (yF B w k 2).set 15 (.int x) = yF B (sI w k 15 x) k 2 := by simp [yF, sI, upd]
theorem in_X3 : ∀ c ∈ u_ws RX3 TX3 4, c ∈ TB := by decide +kernel
theorem st_X3_2 (B : Nat) (w : Wd) (k : Nat) (x : Int32) : (yF B w k 3).set 2 (.int x) = yF B (sI w k 2 x) k 3 := by simp [yF, sI, upd]
theorem st_X3_3 (B : Nat) (w : Wd) (k : Nat) (x : Int32) : (yF B w k 3).set 3 (.int x) = yF B (sI w k 3 x) k 3 := by simp [yF, sI, upd]
theorem in_X4 : ∀ c ∈ u_ws RX4 TX4 4, c ∈ TB := by decide +kernel
theorem st_X4_1 (B : Nat) (w : Wd) (k : Nat) (x : Int32) : (yF B w k 4).set 1 (.int x) = yF B (sI w k 1 x) k 4 := by simp [yF, sI, upd]
theorem st_X4_2 (B : Nat) (w : Wd) (k : Nat) (x : Int32) : (yF B w k 4).set 2 (.int x) = yF B (sI w k 2 x) k 4 := by simp [yF, sI, upd]
theorem in_X5 : ∀ c ∈ u_ws RX5 TX5 6, c ∈ TB := by decide +kernel
theorem st_X5_3 (B : Nat) (w : Wd) (k : Nat) (x : Int32) (h : x = 0 ∨ x = 1) : (yF B w k 5).set 3 (.int x) = yF B (sI w k 3 x) k 5 := by rcases h with rfl | rfl <;> simp [yF, sI, upd, bz]
theorem in_X6 : ∀ c ∈ u_ws RX6 TX6 12, c ∈ TB := by decide +kernel
theorem st_X6_5 (B : Nat) (w : Wd) (k : Nat) (x : Int32) : (yF B w k 6).set 5 (.int x) = yF B (sI w k 5 x) k 6 := by simp [yF, sI, upd]
theorem st_X6_6 (B : Nat) (w : Wd) (k : Nat) (x : Int32) (h : x = 0 ∨ x = 1) : (yF B w k 6).set 6 (.int x) = yF B (sI w k 6 x) k 6 := by rcases h with rfl | rfl <;> simp [yF, sI, upd, bz]
theorem st_X6_8 (B : Nat) (w : Wd) (k : Nat) (x : Int32) : (yF B w k 6).set 8 (.int x) = yF B (sI w k 8 x) k 6 := by simp [yF, sI, upd]
theorem st_X6_9 (B : Nat) (w : Wd) (k : Nat) (x : Int32) : (yF B w k 6).set 9 (.int x) = yF B (sI w k 9 x) k 6 := by simp [yF, sI, upd]
theorem st_X6_10 (B : Nat) (w : Wd) (k : Nat) (x : Int32) (h : x = 0 ∨ x = 1) : (yF B w k 6).set 10 (.int x) = yF B (sI w k 10 x) k 6 := by rcases h with rfl | rfl <;> simp [yF, sI, upd, bz]
theorem wd_525 : Cond.fieldLink RJ0 38 "java/lang/String" "COMPACT_STRINGS" "Z" ∈ TB := TB_m 525 (by decide +kernel) (by decide +kernel)
theorem wd_1083 : Cond.fieldLink RJ0 15 "java/lang/String" "coder" "B" ∈ TB := TB_m 1083 (by decide +kernel) (by decide +kernel)
theorem wd_1082 : Cond.fieldLink RJ0 9 "java/lang/String" "value" "[B" ∈ TB := TB_m 1082 (by decide +kernel) (by decide +kernel)
theorem wd_541 : Cond.fieldLink RJ0 1053 "jdk/internal/util/Preconditions" "SIOOBE_FORMATTER" "Ljava/util/function/BiFunction;" ∈ TB := TB_m 541 (by decide +kernel) (by decide +kernel)
theorem wd_524 : Cond.code yJ0_coder_7d493 cJ0_coder_7d493 1 (some .byte) ∈ TB := TB_m 524 (by decide +kernel) (by decide +kernel)
theorem wd_12 : Cond.initialized RJ0 ∈ TB := TB_m 12 (by decide +kernel) (by decide +kernel)
theorem wd_522 : Cond.instanceMethod yJ0_coder_7d493 ∈ TB := TB_m 522 (by decide +kernel) (by decide +kernel)
theorem wd_523 : Cond.selects yJ0_coder_7d493.cls yJ0_coder_7d493 yJ0_coder_7d493 ∈ TB := TB_m 523 (by decide +kernel) (by decide +kernel)
theorem ky_J0_coder_7d493 : KYV yJ0_coder_7d493 cJ0_coder_7d493 1 (some .byte) 0 := ⟨⟨wd_524, wd_12, by decide +kernel⟩, wd_522, wd_523⟩
theorem wd_534 : Cond.code yJ0_isLatin1_aae02 cJ0_isLatin1_aae02 1 (some .boolean) ∈ TB := TB_m 534 (by decide +kernel) (by decide +kernel)
theorem wd_532 : Cond.instanceMethod yJ0_isLatin1_aae02 ∈ TB := TB_m 532 (by decide +kernel) (by decide +kernel)
theorem wd_533 : Cond.selects yJ0_isLatin1_aae02.cls yJ0_isLatin1_aae02 yJ0_isLatin1_aae02 ∈ TB := TB_m 533 (by decide +kernel) (by decide +kernel)
theorem ky_J0_isLatin1_aae02 : KYV yJ0_isLatin1_aae02 cJ0_isLatin1_aae02 1 (some .boolean) 0 := ⟨⟨wd_534, wd_12, by decide +kernel⟩, wd_532, wd_533⟩
theorem wd_540 : Cond.code yJ0_checkIndex_df160 cJ0_checkIndex_df160 2 none ∈ TB := TB_m 540 (by decide +kernel) (by decide +kernel)
theorem wd_539 : Cond.static yJ0_checkIndex_df160 ∈ TB := TB_m 539 (by decide +kernel) (by decide +kernel)
theorem ky_J0_checkIndex_df160 : KYS yJ0_checkIndex_df160 cJ0_checkIndex_df160 2 none 2 := ⟨⟨wd_540, wd_12, by decide +kernel⟩, wd_539⟩
theorem wd_537 : Cond.code yJ1_charAt_3b067 cJ1_charAt_3b067 2 (some .char) ∈ TB := TB_m 537 (by decide +kernel) (by decide +kernel)
theorem wd_13 : Cond.initialized RJ1 ∈ TB := TB_m 13 (by decide +kernel) (by decide +kernel)
theorem wd_536 : Cond.static yJ1_charAt_3b067 ∈ TB := TB_m 536 (by decide +kernel) (by decide +kernel)
theorem ky_J1_charAt_3b067 : KYS yJ1_charAt_3b067 cJ1_charAt_3b067 2 (some .char) 2 := ⟨⟨wd_537, wd_13, by decide +kernel⟩, wd_536⟩
theorem wd_545 : Cond.code yJ3_checkIndex_8e157 cJ3_checkIndex_8e157 3 (some .int) ∈ TB := TB_m 545 (by decide +kernel) (by decide +kernel)
theorem wd_14 : Cond.initialized RJ3 ∈ TB := TB_m 14 (by decide +kernel) (by decide +kernel)
theorem wd_544 : Cond.static yJ3_checkIndex_8e157 ∈ TB := TB_m 544 (by decide +kernel) (by decide +kernel)
theorem ky_J3_checkIndex_8e157 : KYS yJ3_checkIndex_8e157 cJ3_checkIndex_8e157 3 (some .int) 3 := ⟨⟨wd_545, wd_14, by decide +kernel⟩, wd_544⟩
theorem wd_521 : Cond.methodLink RJ0 335 yJ0_coder_7d493 ∈ TB := TB_m 521 (by decide +kernel) (by decide +kernel)
theorem wd_531 : Cond.methodLink RJ0 492 yJ0_isLatin1_aae02 ∈ TB := TB_m 531 (by decide +kernel) (by decide +kernel)
theorem wd_535 : Cond.methodLink RJ0 495 yJ1_charAt_3b067 ∈ TB := TB_m 535 (by decide +kernel) (by decide +kernel)
theorem wd_538 : Cond.methodLink RJ1 9 yJ0_checkIndex_df160 ∈ TB := TB_m 538 (by decide +kernel) (by decide +kernel)
theorem wd_543 : Cond.methodLink RJ0 1059 yJ3_checkIndex_8e157 ∈ TB := TB_m 543 (by decide +kernel) (by decide +kernel)
theorem wd_717 : Cond.constantLong RJ13 314 (6148914691236517205) ∈ TB := TB_m 717 (by decide +kernel) (by decide +kernel)
theorem wd_718 : Cond.constantLong RJ13 316 (3689348814741910323) ∈ TB := TB_m 718 (by decide +kernel) (by decide +kernel)
theorem wd_719 : Cond.constantLong RJ13 318 (1085102592571150095) ∈ TB := TB_m 719 (by decide +kernel) (by decide +kernel)
theorem wd_317 : Cond.constant RJ6 265 (1431655765) ∈ TB := TB_m 317 (by decide +kernel) (by decide +kernel)
theorem wd_318 : Cond.constant RJ6 266 (858993459) ∈ TB := TB_m 318 (by decide +kernel) (by decide +kernel)
theorem wd_319 : Cond.constant RJ6 267 (252645135) ∈ TB := TB_m 319 (by decide +kernel) (by decide +kernel)
theorem wd_158 : Cond.fieldLink RX0 11 (TX0 0).1 (TX0 0).2.1 (TX0 0).2.2.1 ∈ TB := TB_m 158 (by decide +kernel) (by decide +kernel)
theorem wd_255 : Cond.methodLink RX5 308 Lib.Math.min.name ∈ TB := TB_m 255 (by decide +kernel) (by decide +kernel)
theorem wd_256 : Cond.static Lib.Math.min.name ∈ TB := TB_m 256 (by decide +kernel) (by decide +kernel)
theorem wd_8 : Cond.initialized RJ9 ∈ TB := TB_m 8 (by decide +kernel) (by decide +kernel)
theorem wd_257 : Cond.code Lib.Math.min.name Lib.Math.min.code 2 (some .int) ∈ TB := TB_m 257 (by decide +kernel) (by decide +kernel)
theorem wd_258 : Cond.methodLink RX5 313 arraycopyName ∈ TB := TB_m 258 (by decide +kernel) (by decide +kernel)
theorem wd_260 : Cond.native arraycopyName ∈ TB := TB_m 260 (by decide +kernel) (by decide +kernel)
theorem wd_259 : Cond.static arraycopyName ∈ TB := TB_m 259 (by decide +kernel) (by decide +kernel)
theorem wd_9 : Cond.initialized RJ10 ∈ TB := TB_m 9 (by decide +kernel) (by decide +kernel)
theorem wd_37 : Cond.fieldLink RX1 9 (TX1 0).1 (TX1 0).2.1 (TX1 0).2.2.1 ∈ TB := TB_m 37 (by decide +kernel) (by decide +kernel)
theorem wd_254 : Cond.code yX5_copyRow cX5_copyRow 2 none ∈ TB := TB_m 254 (by decide +kernel) (by decide +kernel)
theorem wd_1 : Cond.initialized RX5 ∈ TB := TB_m 1 (by decide +kernel) (by decide +kernel)
theorem wd_253 : Cond.static yX5_copyRow ∈ TB := TB_m 253 (by decide +kernel) (by decide +kernel)
theorem ky_X5_copyRow : KYS yX5_copyRow cX5_copyRow 2 none 2 := ⟨⟨wd_254, wd_1, by decide +kernel⟩, wd_253⟩
theorem wd_252 : Cond.methodLinkNest RX1 35 yX5_copyRow RX5 ∈ NWs := NW_m 252 (by decide +kernel) (by decide +kernel)
theorem wd_38 : Cond.fieldLink RX1 15 (TX1 1).1 (TX1 1).2.1 (TX1 1).2.2.1 ∈ TB := TB_m 38 (by decide +kernel) (by decide +kernel)
theorem wd_39 : Cond.fieldLink RX1 18 (TX1 2).1 (TX1 2).2.1 (TX1 2).2.2.1 ∈ TB := TB_m 39 (by decide +kernel) (by decide +kernel)
theorem wd_40 : Cond.fieldLink RX1 21 (TX1 3).1 (TX1 3).2.1 (TX1 3).2.2.1 ∈ TB := TB_m 40 (by decide +kernel) (by decide +kernel)
theorem wd_42 : Cond.fieldLink RX1 24 (TX1 4).1 (TX1 4).2.1 (TX1 4).2.2.1 ∈ TB := TB_m 42 (by decide +kernel) (by decide +kernel)
theorem wd_45 : Cond.fieldLink RX1 27 (TX1 5).1 (TX1 5).2.1 (TX1 5).2.2.1 ∈ TB := TB_m 45 (by decide +kernel) (by decide +kernel)
theorem wd_47 : Cond.fieldLink RX1 31 (TX1 6).1 (TX1 6).2.1 (TX1 6).2.2.1 ∈ TB := TB_m 47 (by decide +kernel) (by decide +kernel)
theorem wd_72 : Cond.fieldLink RX2 9 (TX2 0).1 (TX2 0).2.1 (TX2 0).2.2.1 ∈ TB := TB_m 72 (by decide +kernel) (by decide +kernel)
theorem wd_74 : Cond.fieldLink RX2 15 (TX2 1).1 (TX2 1).2.1 (TX2 1).2.2.1 ∈ TB := TB_m 74 (by decide +kernel) (by decide +kernel)
theorem wd_75 : Cond.fieldLink RX2 19 (TX2 2).1 (TX2 2).2.1 (TX2 2).2.2.1 ∈ TB := TB_m 75 (by decide +kernel) (by decide +kernel)
theorem wd_76 : Cond.fieldLink RX2 22 (TX2 3).1 (TX2 3).2.1 (TX2 3).2.2.1 ∈ TB := TB_m 76 (by decide +kernel) (by decide +kernel)
theorem wd_77 : Cond.fieldLink RX2 25 (TX2 4).1 (TX2 4).2.1 (TX2 4).2.2.1 ∈ TB := TB_m 77 (by decide +kernel) (by decide +kernel)
theorem wd_79 : Cond.fieldLink RX2 28 (TX2 5).1 (TX2 5).2.1 (TX2 5).2.2.1 ∈ TB := TB_m 79 (by decide +kernel) (by decide +kernel)
theorem wd_81 : Cond.fieldLink RX2 31 (TX2 6).1 (TX2 6).2.1 (TX2 6).2.2.1 ∈ TB := TB_m 81 (by decide +kernel) (by decide +kernel)
theorem wd_82 : Cond.fieldLink RX2 34 (TX2 7).1 (TX2 7).2.1 (TX2 7).2.2.1 ∈ TB := TB_m 82 (by decide +kernel) (by decide +kernel)
theorem wd_265 : Cond.methodLinkNest RX2 62 yX5_copyRow RX5 ∈ NWs := NW_m 265 (by decide +kernel) (by decide +kernel)
theorem wd_84 : Cond.fieldLink RX2 38 (TX2 8).1 (TX2 8).2.1 (TX2 8).2.2.1 ∈ TB := TB_m 84 (by decide +kernel) (by decide +kernel)
theorem wd_86 : Cond.fieldLink RX2 41 (TX2 9).1 (TX2 9).2.1 (TX2 9).2.2.1 ∈ TB := TB_m 86 (by decide +kernel) (by decide +kernel)
theorem wd_88 : Cond.fieldLink RX2 44 (TX2 10).1 (TX2 10).2.1 (TX2 10).2.2.1 ∈ TB := TB_m 88 (by decide +kernel) (by decide +kernel)
theorem wd_90 : Cond.fieldLink RX2 47 (TX2 11).1 (TX2 11).2.1 (TX2 11).2.2.1 ∈ TB := TB_m 90 (by decide +kernel) (by decide +kernel)
theorem wd_91 : Cond.fieldLink RX2 50 (TX2 12).1 (TX2 12).2.1 (TX2 12).2.2.1 ∈ TB := TB_m 91 (by decide +kernel) (by decide +kernel)
theorem wd_93 : Cond.fieldLink RX2 53 (TX2 13).1 (TX2 13).2.1 (TX2 13).2.2.1 ∈ TB := TB_m 93 (by decide +kernel) (by decide +kernel)
theorem wd_95 : Cond.fieldLink RX2 56 (TX2 14).1 (TX2 14).2.1 (TX2 14).2.2.1 ∈ TB := TB_m 95 (by decide +kernel) (by decide +kernel)
theorem wd_97 : Cond.fieldLink RX2 59 (TX2 15).1 (TX2 15).2.1 (TX2 15).2.2.1 ∈ TB := TB_m 97 (by decide +kernel) (by decide +kernel)
theorem wd_132 : Cond.fieldLink RX3 10 (TX3 0).1 (TX3 0).2.1 (TX3 0).2.2.1 ∈ TB := TB_m 132 (by decide +kernel) (by decide +kernel)
theorem wd_251 : Cond.code yX1_copyFrom cX1_copyFrom 2 none ∈ TB := TB_m 251 (by decide +kernel) (by decide +kernel)
theorem wd_3 : Cond.initialized RX1 ∈ TB := TB_m 3 (by decide +kernel) (by decide +kernel)
theorem wd_250 : Cond.instanceMethod yX1_copyFrom ∈ TB := TB_m 250 (by decide +kernel) (by decide +kernel)
theorem ws_6 : Cond.selects yX1_copyFrom.cls yX1_copyFrom yX1_copyFrom ∈ TB := TB_s (q := (yX1_copyFrom, 7)) 6 (by decide +kernel) (by decide +kernel)
theorem ky_X1_copyFrom : KYV yX1_copyFrom cX1_copyFrom 2 none 1 := ⟨⟨wd_251, wd_3, by decide +kernel⟩, wd_250, ws_6⟩
theorem wd_248 : Cond.methodLinkNest RX3 30 yX1_copyFrom RX5 ∈ NWs := NW_m 248 (by decide +kernel) (by decide +kernel)
theorem wd_134 : Cond.fieldLink RX3 19 (TX3 1).1 (TX3 1).2.1 (TX3 1).2.2.1 ∈ TB := TB_m 134 (by decide +kernel) (by decide +kernel)
theorem wd_264 : Cond.code yX2_copyFrom cX2_copyFrom 2 none ∈ TB := TB_m 264 (by decide +kernel) (by decide +kernel)
theorem wd_4 : Cond.initialized RX2 ∈ TB := TB_m 4 (by decide +kernel) (by decide +kernel)
theorem wd_263 : Cond.instanceMethod yX2_copyFrom ∈ TB := TB_m 263 (by decide +kernel) (by decide +kernel)
theorem ws_7 : Cond.selects yX2_copyFrom.cls yX2_copyFrom yX2_copyFrom ∈ TB := TB_s (q := (yX2_copyFrom, 16)) 7 (by decide +kernel) (by decide +kernel)
theorem ky_X2_copyFrom : KYV yX2_copyFrom cX2_copyFrom 2 none 1 := ⟨⟨wd_264, wd_4, by decide +kernel⟩, wd_263, ws_7⟩
theorem wd_261 : Cond.methodLinkNest RX3 34 yX2_copyFrom RX5 ∈ NWs := NW_m 261 (by decide +kernel) (by decide +kernel)
theorem wd_136 : Cond.fieldLink RX3 23 (TX3 2).1 (TX3 2).2.1 (TX3 2).2.2.1 ∈ TB := TB_m 136 (by decide +kernel) (by decide +kernel)
theorem wd_138 : Cond.fieldLink RX3 27 (TX3 3).1 (TX3 3).2.1 (TX3 3).2.2.1 ∈ TB := TB_m 138 (by decide +kernel) (by decide +kernel)
theorem wd_159 : Cond.fieldLink RX0 17 (TX0 1).1 (TX0 1).2.1 (TX0 1).2.2.1 ∈ TB := TB_m 159 (by decide +kernel) (by decide +kernel)
theorem wd_243 : Cond.code yX0_stateAt cX0_stateAt 2 (some (.object "BribedClerks$State")) ∈ TB := TB_m 243 (by decide +kernel) (by decide +kernel)
theorem wd_5 : Cond.initialized RX0 ∈ TB := TB_m 5 (by decide +kernel) (by decide +kernel)
theorem wd_242 : Cond.instanceMethod yX0_stateAt ∈ TB := TB_m 242 (by decide +kernel) (by decide +kernel)
theorem ws_4 : Cond.selects yX0_stateAt.cls yX0_stateAt yX0_stateAt ∈ TB := TB_s (q := (yX0_stateAt, 2)) 4 (by decide +kernel) (by decide +kernel)
theorem ky_X0_stateAt : KYV yX0_stateAt cX0_stateAt 2 (some (.object "BribedClerks$State")) 1 := ⟨⟨wd_243, wd_5, by decide +kernel⟩, wd_242, ws_4⟩
theorem wd_240 : Cond.methodLink RX0 25 yX0_stateAt ∈ TB := TB_m 240 (by decide +kernel) (by decide +kernel)
theorem wd_247 : Cond.code yX3_copyFrom cX3_copyFrom 2 none ∈ TB := TB_m 247 (by decide +kernel) (by decide +kernel)
theorem wd_2 : Cond.initialized RX3 ∈ TB := TB_m 2 (by decide +kernel) (by decide +kernel)
theorem wd_246 : Cond.instanceMethod yX3_copyFrom ∈ TB := TB_m 246 (by decide +kernel) (by decide +kernel)
theorem ws_5 : Cond.selects yX3_copyFrom.cls yX3_copyFrom yX3_copyFrom ∈ TB := TB_s (q := (yX3_copyFrom, 4)) 5 (by decide +kernel) (by decide +kernel)
theorem ky_X3_copyFrom : KYV yX3_copyFrom cX3_copyFrom 2 none 1 := ⟨⟨wd_247, wd_2, by decide +kernel⟩, wd_246, ws_5⟩
theorem wd_244 : Cond.methodLinkNest RX0 29 yX3_copyFrom RX5 ∈ NWs := NW_m 244 (by decide +kernel) (by decide +kernel)
theorem wd_239 : Cond.code yX0_moveOldestToEnd cX0_moveOldestToEnd 3 none ∈ TB := TB_m 239 (by decide +kernel) (by decide +kernel)
theorem wd_238 : Cond.instanceMethod yX0_moveOldestToEnd ∈ TB := TB_m 238 (by decide +kernel) (by decide +kernel)
theorem ws_3 : Cond.selects yX0_moveOldestToEnd.cls yX0_moveOldestToEnd yX0_moveOldestToEnd ∈ TB := TB_s (q := (yX0_moveOldestToEnd, 2)) 3 (by decide +kernel) (by decide +kernel)
theorem ky_X0_moveOldestToEnd : KYV yX0_moveOldestToEnd cX0_moveOldestToEnd 3 none 0 := ⟨⟨wd_239, wd_5, by decide +kernel⟩, wd_238, ws_3⟩
theorem wd_236 : Cond.methodLink RX0 22 yX0_moveOldestToEnd ∈ TB := TB_m 236 (by decide +kernel) (by decide +kernel)
theorem wd_227 : Cond.code yX5_at cX5_at 2 (some .int) ∈ TB := TB_m 227 (by decide +kernel) (by decide +kernel)
theorem wd_226 : Cond.static yX5_at ∈ TB := TB_m 226 (by decide +kernel) (by decide +kernel)
theorem ky_X5_at : KYS yX5_at cX5_at 2 (some .int) 2 := ⟨⟨wd_227, wd_1, by decide +kernel⟩, wd_226⟩
theorem wd_225 : Cond.methodLinkNest RX1 39 yX5_at RX5 ∈ NWs := NW_m 225 (by decide +kernel) (by decide +kernel)
theorem wd_289 : Cond.code yX1_documentAt cX1_documentAt 3 (some .int) ∈ TB := TB_m 289 (by decide +kernel) (by decide +kernel)
theorem wd_288 : Cond.instanceMethod yX1_documentAt ∈ TB := TB_m 288 (by decide +kernel) (by decide +kernel)
theorem ws_12 : Cond.selects yX1_documentAt.cls yX1_documentAt yX1_documentAt ∈ TB := TB_s (q := (yX1_documentAt, 7)) 12 (by decide +kernel) (by decide +kernel)
theorem ky_X1_documentAt : KYV yX1_documentAt cX1_documentAt 3 (some .int) 2 := ⟨⟨wd_289, wd_3, by decide +kernel⟩, wd_288, ws_12⟩
theorem wd_286 : Cond.methodLink RX1 54 yX1_documentAt ∈ TB := TB_m 286 (by decide +kernel) (by decide +kernel)
theorem wd_306 : Cond.code yX1_isDeleted cX1_isDeleted 2 (some .boolean) ∈ TB := TB_m 306 (by decide +kernel) (by decide +kernel)
theorem wd_305 : Cond.instanceMethod yX1_isDeleted ∈ TB := TB_m 305 (by decide +kernel) (by decide +kernel)
theorem ws_14 : Cond.selects yX1_isDeleted.cls yX1_isDeleted yX1_isDeleted ∈ TB := TB_s (q := (yX1_isDeleted, 7)) 14 (by decide +kernel) (by decide +kernel)
theorem ky_X1_isDeleted : KYV yX1_isDeleted cX1_isDeleted 2 (some .boolean) 1 := ⟨⟨wd_306, wd_3, by decide +kernel⟩, wd_305, ws_14⟩
theorem wd_619 : Cond.methodLink RX1 76 yX1_isDeleted ∈ TB := TB_m 619 (by decide +kernel) (by decide +kernel)
theorem wd_313 : Cond.code yX5_oneIf cX5_oneIf 1 (some .int) ∈ TB := TB_m 313 (by decide +kernel) (by decide +kernel)
theorem wd_312 : Cond.static yX5_oneIf ∈ TB := TB_m 312 (by decide +kernel) (by decide +kernel)
theorem ky_X5_oneIf : KYS yX5_oneIf cX5_oneIf 1 (some .int) 1 := ⟨⟨wd_313, wd_1, by decide +kernel⟩, wd_312⟩
theorem wd_311 : Cond.methodLinkNest RX1 47 yX5_oneIf RX5 ∈ NWs := NW_m 311 (by decide +kernel) (by decide +kernel)
theorem wd_219 : Cond.code yX5_isDocument cX5_isDocument 1 (some .boolean) ∈ TB := TB_m 219 (by decide +kernel) (by decide +kernel)
theorem wd_218 : Cond.static yX5_isDocument ∈ TB := TB_m 218 (by decide +kernel) (by decide +kernel)
theorem ky_X5_isDocument : KYS yX5_isDocument cX5_isDocument 1 (some .boolean) 1 := ⟨⟨wd_219, wd_1, by decide +kernel⟩, wd_218⟩
theorem wd_224 : Cond.methodLinkNest RX1 51 yX5_isDocument RX5 ∈ NWs := NW_m 224 (by decide +kernel) (by decide +kernel)
theorem wd_223 : Cond.code yX1_scoreOf cX1_scoreOf 3 (some .int) ∈ TB := TB_m 223 (by decide +kernel) (by decide +kernel)
theorem wd_222 : Cond.instanceMethod yX1_scoreOf ∈ TB := TB_m 222 (by decide +kernel) (by decide +kernel)
theorem ws_0 : Cond.selects yX1_scoreOf.cls yX1_scoreOf yX1_scoreOf ∈ TB := TB_s (q := (yX1_scoreOf, 7)) 0 (by decide +kernel) (by decide +kernel)
theorem ky_X1_scoreOf : KYV yX1_scoreOf cX1_scoreOf 3 (some .int) 2 := ⟨⟨wd_223, wd_3, by decide +kernel⟩, wd_222, ws_0⟩
theorem wd_274 : Cond.methodLink RX1 58 yX1_scoreOf ∈ TB := TB_m 274 (by decide +kernel) (by decide +kernel)
theorem wd_632 : Cond.code yX1_valueOf cX1_valueOf 4 (some .int) ∈ TB := TB_m 632 (by decide +kernel) (by decide +kernel)
theorem wd_631 : Cond.instanceMethod yX1_valueOf ∈ TB := TB_m 631 (by decide +kernel) (by decide +kernel)
theorem ws_52 : Cond.selects yX1_valueOf.cls yX1_valueOf yX1_valueOf ∈ TB := TB_s (q := (yX1_valueOf, 7)) 52 (by decide +kernel) (by decide +kernel)
theorem ky_X1_valueOf : KYV yX1_valueOf cX1_valueOf 4 (some .int) 1 := ⟨⟨wd_632, wd_3, by decide +kernel⟩, wd_631, ws_52⟩
theorem wd_641 : Cond.methodLink RX1 79 yX1_valueOf ∈ TB := TB_m 641 (by decide +kernel) (by decide +kernel)
theorem wd_285 : Cond.code yX1_scoreAt cX1_scoreAt 3 (some .int) ∈ TB := TB_m 285 (by decide +kernel) (by decide +kernel)
theorem wd_284 : Cond.instanceMethod yX1_scoreAt ∈ TB := TB_m 284 (by decide +kernel) (by decide +kernel)
theorem ws_11 : Cond.selects yX1_scoreAt.cls yX1_scoreAt yX1_scoreAt ∈ TB := TB_s (q := (yX1_scoreAt, 7)) 11 (by decide +kernel) (by decide +kernel)
theorem ky_X1_scoreAt : KYV yX1_scoreAt cX1_scoreAt 3 (some .int) 2 := ⟨⟨wd_285, wd_3, by decide +kernel⟩, wd_284, ws_11⟩
theorem wd_282 : Cond.methodLink RX1 73 yX1_scoreAt ∈ TB := TB_m 282 (by decide +kernel) (by decide +kernel)
theorem wd_277 : Cond.code yX5_put cX5_put 3 none ∈ TB := TB_m 277 (by decide +kernel) (by decide +kernel)
theorem wd_276 : Cond.static yX5_put ∈ TB := TB_m 276 (by decide +kernel) (by decide +kernel)
theorem ky_X5_put : KYS yX5_put cX5_put 3 none 3 := ⟨⟨wd_277, wd_1, by decide +kernel⟩, wd_276⟩
theorem wd_275 : Cond.methodLinkNest RX1 69 yX5_put RX5 ∈ NWs := NW_m 275 (by decide +kernel) (by decide +kernel)
theorem wd_273 : Cond.code yX1_takeOut cX1_takeOut 7 none ∈ TB := TB_m 273 (by decide +kernel) (by decide +kernel)
theorem wd_272 : Cond.instanceMethod yX1_takeOut ∈ TB := TB_m 272 (by decide +kernel) (by decide +kernel)
theorem ws_9 : Cond.selects yX1_takeOut.cls yX1_takeOut yX1_takeOut ∈ TB := TB_s (q := (yX1_takeOut, 7)) 9 (by decide +kernel) (by decide +kernel)
theorem ky_X1_takeOut : KYV yX1_takeOut cX1_takeOut 7 none 2 := ⟨⟨wd_273, wd_3, by decide +kernel⟩, wd_272, ws_9⟩
theorem wd_270 : Cond.methodLink RX1 61 yX1_takeOut ∈ TB := TB_m 270 (by decide +kernel) (by decide +kernel)
theorem wd_281 : Cond.code yX1_standsAhead cX1_standsAhead 6 (some .boolean) ∈ TB := TB_m 281 (by decide +kernel) (by decide +kernel)
theorem wd_280 : Cond.instanceMethod yX1_standsAhead ∈ TB := TB_m 280 (by decide +kernel) (by decide +kernel)
theorem ws_10 : Cond.selects yX1_standsAhead.cls yX1_standsAhead yX1_standsAhead ∈ TB := TB_s (q := (yX1_standsAhead, 7)) 10 (by decide +kernel) (by decide +kernel)
theorem ky_X1_standsAhead : KYV yX1_standsAhead cX1_standsAhead 6 (some .boolean) 4 := ⟨⟨wd_281, wd_3, by decide +kernel⟩, wd_280, ws_10⟩
theorem wd_278 : Cond.methodLink RX1 65 yX1_standsAhead ∈ TB := TB_m 278 (by decide +kernel) (by decide +kernel)
theorem wd_356 : Cond.code yX1_isAsked cX1_isAsked 2 (some .boolean) ∈ TB := TB_m 356 (by decide +kernel) (by decide +kernel)
theorem wd_355 : Cond.instanceMethod yX1_isAsked ∈ TB := TB_m 355 (by decide +kernel) (by decide +kernel)
theorem ws_18 : Cond.selects yX1_isAsked.cls yX1_isAsked yX1_isAsked ∈ TB := TB_s (q := (yX1_isAsked, 7)) 18 (by decide +kernel) (by decide +kernel)
theorem ky_X1_isAsked : KYV yX1_isAsked cX1_isAsked 2 (some .boolean) 1 := ⟨⟨wd_356, wd_3, by decide +kernel⟩, wd_355, ws_18⟩
theorem wd_353 : Cond.methodLink RX1 43 yX1_isAsked ∈ TB := TB_m 353 (by decide +kernel) (by decide +kernel)
theorem wd_640 : Cond.code yX1_isAnswer cX1_isAnswer 2 (some .boolean) ∈ TB := TB_m 640 (by decide +kernel) (by decide +kernel)
theorem wd_639 : Cond.instanceMethod yX1_isAnswer ∈ TB := TB_m 639 (by decide +kernel) (by decide +kernel)
theorem ws_54 : Cond.selects yX1_isAnswer.cls yX1_isAnswer yX1_isAnswer ∈ TB := TB_s (q := (yX1_isAnswer, 7)) 54 (by decide +kernel) (by decide +kernel)
theorem ky_X1_isAnswer : KYV yX1_isAnswer cX1_isAnswer 2 (some .boolean) 1 := ⟨⟨wd_640, wd_3, by decide +kernel⟩, wd_639, ws_54⟩
theorem wd_637 : Cond.methodLink RX1 83 yX1_isAnswer ∈ TB := TB_m 637 (by decide +kernel) (by decide +kernel)
theorem wd_636 : Cond.code yX1_wantedPlaceOf cX1_wantedPlaceOf 6 (some .int) ∈ TB := TB_m 636 (by decide +kernel) (by decide +kernel)
theorem wd_635 : Cond.instanceMethod yX1_wantedPlaceOf ∈ TB := TB_m 635 (by decide +kernel) (by decide +kernel)
theorem ws_53 : Cond.selects yX1_wantedPlaceOf.cls yX1_wantedPlaceOf yX1_wantedPlaceOf ∈ TB := TB_s (q := (yX1_wantedPlaceOf, 7)) 53 (by decide +kernel) (by decide +kernel)
theorem ky_X1_wantedPlaceOf : KYV yX1_wantedPlaceOf cX1_wantedPlaceOf 6 (some .int) 1 := ⟨⟨wd_636, wd_3, by decide +kernel⟩, wd_635, ws_53⟩
theorem wd_650 : Cond.methodLink RX1 86 yX1_wantedPlaceOf ∈ TB := TB_m 650 (by decide +kernel) (by decide +kernel)
theorem wd_724 : Cond.methodLink RX1 89 Lib.Math.min.name ∈ TB := TB_m 724 (by decide +kernel) (by decide +kernel)
theorem wd_368 : Cond.methodLinkNest RX2 76 yX5_at RX5 ∈ NWs := NW_m 368 (by decide +kernel) (by decide +kernel)
theorem wd_316 : Cond.code yJ6_bitCount_0f7a4 cJ6_bitCount_0f7a4 1 (some .int) ∈ TB := TB_m 316 (by decide +kernel) (by decide +kernel)
theorem wd_10 : Cond.initialized RJ6 ∈ TB := TB_m 10 (by decide +kernel) (by decide +kernel)
theorem wd_315 : Cond.static yJ6_bitCount_0f7a4 ∈ TB := TB_m 315 (by decide +kernel) (by decide +kernel)
theorem ky_J6_bitCount_0f7a4 : KYS yJ6_bitCount_0f7a4 cJ6_bitCount_0f7a4 1 (some .int) 1 := ⟨⟨wd_316, wd_10, by decide +kernel⟩, wd_315⟩
theorem wd_413 : Cond.methodLink RX2 189 yJ6_bitCount_0f7a4 ∈ TB := TB_m 413 (by decide +kernel) (by decide +kernel)
theorem wd_680 : Cond.code yX2_allLookUps cX2_allLookUps 3 (some .int) ∈ TB := TB_m 680 (by decide +kernel) (by decide +kernel)
theorem wd_679 : Cond.instanceMethod yX2_allLookUps ∈ TB := TB_m 679 (by decide +kernel) (by decide +kernel)
theorem ws_57 : Cond.selects yX2_allLookUps.cls yX2_allLookUps yX2_allLookUps ∈ TB := TB_s (q := (yX2_allLookUps, 16)) 57 (by decide +kernel) (by decide +kernel)
theorem ky_X2_allLookUps : KYV yX2_allLookUps cX2_allLookUps 3 (some .int) 0 := ⟨⟨wd_680, wd_4, by decide +kernel⟩, wd_679, ws_57⟩
theorem wd_685 : Cond.methodLink RX2 194 yX2_allLookUps ∈ TB := TB_m 685 (by decide +kernel) (by decide +kernel)
theorem wd_369 : Cond.methodLinkNest RX2 80 yX1_scoreAt RX5 ∈ NWs := NW_m 369 (by decide +kernel) (by decide +kernel)
theorem wd_373 : Cond.code yX2_isCaught cX2_isCaught 2 (some .boolean) ∈ TB := TB_m 373 (by decide +kernel) (by decide +kernel)
theorem wd_372 : Cond.instanceMethod yX2_isCaught ∈ TB := TB_m 372 (by decide +kernel) (by decide +kernel)
theorem ws_21 : Cond.selects yX2_isCaught.cls yX2_isCaught yX2_isCaught ∈ TB := TB_s (q := (yX2_isCaught, 16)) 21 (by decide +kernel) (by decide +kernel)
theorem ky_X2_isCaught : KYV yX2_isCaught cX2_isCaught 2 (some .boolean) 1 := ⟨⟨wd_373, wd_4, by decide +kernel⟩, wd_372, ws_21⟩
theorem wd_370 : Cond.methodLink RX2 86 yX2_isCaught ∈ TB := TB_m 370 (by decide +kernel) (by decide +kernel)
theorem wd_43 : Cond.fieldLinkNest RX2 90 (TX1 4).1 (TX1 4).2.1 (TX1 4).2.2.1 RX5 ∈ NWs := NW_m 43 (by decide +kernel) (by decide +kernel)
theorem wd_374 : Cond.methodLinkNest RX2 93 yX5_put RX5 ∈ NWs := NW_m 374 (by decide +kernel) (by decide +kernel)
theorem wd_375 : Cond.methodLink RX2 97 Lib.Math.max.name ∈ TB := TB_m 375 (by decide +kernel) (by decide +kernel)
theorem wd_376 : Cond.static Lib.Math.max.name ∈ TB := TB_m 376 (by decide +kernel) (by decide +kernel)
theorem wd_377 : Cond.code Lib.Math.max.name Lib.Math.max.code 2 (some .int) ∈ TB := TB_m 377 (by decide +kernel) (by decide +kernel)
theorem wd_399 : Cond.code yX1_weightOf cX1_weightOf 2 (some .int) ∈ TB := TB_m 399 (by decide +kernel) (by decide +kernel)
theorem wd_398 : Cond.instanceMethod yX1_weightOf ∈ TB := TB_m 398 (by decide +kernel) (by decide +kernel)
theorem ws_26 : Cond.selects yX1_weightOf.cls yX1_weightOf yX1_weightOf ∈ TB := TB_s (q := (yX1_weightOf, 7)) 26 (by decide +kernel) (by decide +kernel)
theorem ky_X1_weightOf : KYV yX1_weightOf cX1_weightOf 2 (some .int) 1 := ⟨⟨wd_399, wd_3, by decide +kernel⟩, wd_398, ws_26⟩
theorem wd_396 : Cond.methodLinkNest RX2 139 yX1_weightOf RX5 ∈ NWs := NW_m 396 (by decide +kernel) (by decide +kernel)
theorem wd_390 : Cond.methodLinkNest RX2 132 yX1_isAsked RX5 ∈ NWs := NW_m 390 (by decide +kernel) (by decide +kernel)
theorem wd_231 : Cond.code yX1_sizeOf cX1_sizeOf 2 (some .int) ∈ TB := TB_m 231 (by decide +kernel) (by decide +kernel)
theorem wd_230 : Cond.instanceMethod yX1_sizeOf ∈ TB := TB_m 230 (by decide +kernel) (by decide +kernel)
theorem ws_1 : Cond.selects yX1_sizeOf.cls yX1_sizeOf yX1_sizeOf ∈ TB := TB_s (q := (yX1_sizeOf, 7)) 1 (by decide +kernel) (by decide +kernel)
theorem ky_X1_sizeOf : KYV yX1_sizeOf cX1_sizeOf 2 (some .int) 1 := ⟨⟨wd_231, wd_3, by decide +kernel⟩, wd_230, ws_1⟩
theorem wd_391 : Cond.methodLinkNest RX2 163 yX1_sizeOf RX5 ∈ NWs := NW_m 391 (by decide +kernel) (by decide +kernel)
theorem wd_389 : Cond.code yX2_hasRest cX2_hasRest 3 (some .boolean) ∈ TB := TB_m 389 (by decide +kernel) (by decide +kernel)
theorem wd_388 : Cond.instanceMethod yX2_hasRest ∈ TB := TB_m 388 (by decide +kernel) (by decide +kernel)
theorem ws_24 : Cond.selects yX2_hasRest.cls yX2_hasRest yX2_hasRest ∈ TB := TB_s (q := (yX2_hasRest, 16)) 24 (by decide +kernel) (by decide +kernel)
theorem ky_X2_hasRest : KYV yX2_hasRest cX2_hasRest 3 (some .boolean) 2 := ⟨⟨wd_389, wd_4, by decide +kernel⟩, wd_388, ws_24⟩
theorem wd_386 : Cond.methodLink RX2 159 yX2_hasRest ∈ TB := TB_m 386 (by decide +kernel) (by decide +kernel)
theorem wd_385 : Cond.code yX2_nextInTurn cX2_nextInTurn 4 (some .int) ∈ TB := TB_m 385 (by decide +kernel) (by decide +kernel)
theorem wd_384 : Cond.instanceMethod yX2_nextInTurn ∈ TB := TB_m 384 (by decide +kernel) (by decide +kernel)
theorem ws_23 : Cond.selects yX2_nextInTurn.cls yX2_nextInTurn yX2_nextInTurn ∈ TB := TB_s (q := (yX2_nextInTurn, 16)) 23 (by decide +kernel) (by decide +kernel)
theorem ky_X2_nextInTurn : KYV yX2_nextInTurn cX2_nextInTurn 4 (some .int) 1 := ⟨⟨wd_385, wd_4, by decide +kernel⟩, wd_384, ws_23⟩
theorem wd_382 : Cond.methodLink RX2 150 yX2_nextInTurn ∈ TB := TB_m 382 (by decide +kernel) (by decide +kernel)
theorem wd_49 : Cond.fieldLinkNest RX2 166 (TX1 6).1 (TX1 6).2.1 (TX1 6).2.2.1 RX5 ∈ NWs := NW_m 49 (by decide +kernel) (by decide +kernel)
theorem wd_395 : Cond.code yX2_weighedBounds cX2_weighedBounds 4 (some .int) ∈ TB := TB_m 395 (by decide +kernel) (by decide +kernel)
theorem wd_394 : Cond.instanceMethod yX2_weighedBounds ∈ TB := TB_m 394 (by decide +kernel) (by decide +kernel)
theorem ws_25 : Cond.selects yX2_weighedBounds.cls yX2_weighedBounds yX2_weighedBounds ∈ TB := TB_s (q := (yX2_weighedBounds, 16)) 25 (by decide +kernel) (by decide +kernel)
theorem ky_X2_weighedBounds : KYV yX2_weighedBounds cX2_weighedBounds 4 (some .int) 1 := ⟨⟨wd_395, wd_4, by decide +kernel⟩, wd_394, ws_25⟩
theorem wd_392 : Cond.methodLink RX2 169 yX2_weighedBounds ∈ TB := TB_m 392 (by decide +kernel) (by decide +kernel)
theorem wd_403 : Cond.code yX2_highOf cX2_highOf 6 (some .int) ∈ TB := TB_m 403 (by decide +kernel) (by decide +kernel)
theorem wd_402 : Cond.instanceMethod yX2_highOf ∈ TB := TB_m 402 (by decide +kernel) (by decide +kernel)
theorem ws_27 : Cond.selects yX2_highOf.cls yX2_highOf yX2_highOf ∈ TB := TB_s (q := (yX2_highOf, 16)) 27 (by decide +kernel) (by decide +kernel)
theorem ky_X2_highOf : KYV yX2_highOf cX2_highOf 6 (some .int) 2 := ⟨⟨wd_403, wd_4, by decide +kernel⟩, wd_402, ws_27⟩
theorem wd_400 : Cond.methodLink RX2 172 yX2_highOf ∈ TB := TB_m 400 (by decide +kernel) (by decide +kernel)
theorem wd_426 : Cond.code yX2_nextByBounds cX2_nextByBounds 6 (some .int) ∈ TB := TB_m 426 (by decide +kernel) (by decide +kernel)
theorem wd_425 : Cond.instanceMethod yX2_nextByBounds ∈ TB := TB_m 425 (by decide +kernel) (by decide +kernel)
theorem ws_31 : Cond.selects yX2_nextByBounds.cls yX2_nextByBounds yX2_nextByBounds ∈ TB := TB_s (q := (yX2_nextByBounds, 16)) 31 (by decide +kernel) (by decide +kernel)
theorem ky_X2_nextByBounds : KYV yX2_nextByBounds cX2_nextByBounds 6 (some .int) 1 := ⟨⟨wd_426, wd_4, by decide +kernel⟩, wd_425, ws_31⟩
theorem wd_423 : Cond.methodLink RX2 153 yX2_nextByBounds ∈ TB := TB_m 423 (by decide +kernel) (by decide +kernel)
theorem wd_430 : Cond.code yX2_nextByRest cX2_nextByRest 6 (some .int) ∈ TB := TB_m 430 (by decide +kernel) (by decide +kernel)
theorem wd_429 : Cond.instanceMethod yX2_nextByRest ∈ TB := TB_m 429 (by decide +kernel) (by decide +kernel)
theorem ws_32 : Cond.selects yX2_nextByRest.cls yX2_nextByRest yX2_nextByRest ∈ TB := TB_s (q := (yX2_nextByRest, 16)) 32 (by decide +kernel) (by decide +kernel)
theorem ky_X2_nextByRest : KYV yX2_nextByRest cX2_nextByRest 6 (some .int) 1 := ⟨⟨wd_430, wd_4, by decide +kernel⟩, wd_429, ws_32⟩
theorem wd_427 : Cond.methodLink RX2 156 yX2_nextByRest ∈ TB := TB_m 427 (by decide +kernel) (by decide +kernel)
theorem wd_436 : Cond.methodLinkNest RX2 116 yX1_scoreOf RX5 ∈ NWs := NW_m 436 (by decide +kernel) (by decide +kernel)
theorem wd_457 : Cond.code yX2_frontPlaceOf cX2_frontPlaceOf 3 (some .int) ∈ TB := TB_m 457 (by decide +kernel) (by decide +kernel)
theorem wd_456 : Cond.instanceMethod yX2_frontPlaceOf ∈ TB := TB_m 456 (by decide +kernel) (by decide +kernel)
theorem ws_38 : Cond.selects yX2_frontPlaceOf.cls yX2_frontPlaceOf yX2_frontPlaceOf ∈ TB := TB_s (q := (yX2_frontPlaceOf, 16)) 38 (by decide +kernel) (by decide +kernel)
theorem ky_X2_frontPlaceOf : KYV yX2_frontPlaceOf cX2_frontPlaceOf 3 (some .int) 1 := ⟨⟨wd_457, wd_4, by decide +kernel⟩, wd_456, ws_38⟩
theorem wd_454 : Cond.methodLink RX2 143 yX2_frontPlaceOf ∈ TB := TB_m 454 (by decide +kernel) (by decide +kernel)
theorem wd_461 : Cond.code yX2_isAhead cX2_isAhead 5 (some .boolean) ∈ TB := TB_m 461 (by decide +kernel) (by decide +kernel)
theorem wd_460 : Cond.instanceMethod yX2_isAhead ∈ TB := TB_m 460 (by decide +kernel) (by decide +kernel)
theorem ws_39 : Cond.selects yX2_isAhead.cls yX2_isAhead yX2_isAhead ∈ TB := TB_s (q := (yX2_isAhead, 16)) 39 (by decide +kernel) (by decide +kernel)
theorem ky_X2_isAhead : KYV yX2_isAhead cX2_isAhead 5 (some .boolean) 2 := ⟨⟨wd_461, wd_4, by decide +kernel⟩, wd_460, ws_39⟩
theorem wd_458 : Cond.methodLink RX2 146 yX2_isAhead ∈ TB := TB_m 458 (by decide +kernel) (by decide +kernel)
theorem wd_445 : Cond.code yX2_isSeen cX2_isSeen 2 (some .boolean) ∈ TB := TB_m 445 (by decide +kernel) (by decide +kernel)
theorem wd_444 : Cond.instanceMethod yX2_isSeen ∈ TB := TB_m 444 (by decide +kernel) (by decide +kernel)
theorem ws_35 : Cond.selects yX2_isSeen.cls yX2_isSeen yX2_isSeen ∈ TB := TB_s (q := (yX2_isSeen, 16)) 35 (by decide +kernel) (by decide +kernel)
theorem ky_X2_isSeen : KYV yX2_isSeen cX2_isSeen 2 (some .boolean) 1 := ⟨⟨wd_445, wd_4, by decide +kernel⟩, wd_444, ws_35⟩
theorem wd_442 : Cond.methodLink RX2 126 yX2_isSeen ∈ TB := TB_m 442 (by decide +kernel) (by decide +kernel)
theorem wd_449 : Cond.code yX2_learn cX2_learn 6 none ∈ TB := TB_m 449 (by decide +kernel) (by decide +kernel)
theorem wd_448 : Cond.instanceMethod yX2_learn ∈ TB := TB_m 448 (by decide +kernel) (by decide +kernel)
theorem ws_36 : Cond.selects yX2_learn.cls yX2_learn yX2_learn ∈ TB := TB_s (q := (yX2_learn, 16)) 36 (by decide +kernel) (by decide +kernel)
theorem ky_X2_learn : KYV yX2_learn cX2_learn 6 none 3 := ⟨⟨wd_449, wd_4, by decide +kernel⟩, wd_448, ws_36⟩
theorem wd_446 : Cond.methodLink RX2 129 yX2_learn ∈ TB := TB_m 446 (by decide +kernel) (by decide +kernel)
theorem wd_453 : Cond.code yX2_moveAhead cX2_moveAhead 3 none ∈ TB := TB_m 453 (by decide +kernel) (by decide +kernel)
theorem wd_452 : Cond.instanceMethod yX2_moveAhead ∈ TB := TB_m 452 (by decide +kernel) (by decide +kernel)
theorem ws_37 : Cond.selects yX2_moveAhead.cls yX2_moveAhead yX2_moveAhead ∈ TB := TB_s (q := (yX2_moveAhead, 16)) 37 (by decide +kernel) (by decide +kernel)
theorem ky_X2_moveAhead : KYV yX2_moveAhead cX2_moveAhead 3 none 1 := ⟨⟨wd_453, wd_4, by decide +kernel⟩, wd_452, ws_37⟩
theorem wd_450 : Cond.methodLink RX2 135 yX2_moveAhead ∈ TB := TB_m 450 (by decide +kernel) (by decide +kernel)
theorem wd_435 : Cond.methodLinkNest RX2 113 yX1_documentAt RX5 ∈ NWs := NW_m 435 (by decide +kernel) (by decide +kernel)
theorem wd_367 : Cond.code yX2_findBounds cX2_findBounds 5 none ∈ TB := TB_m 367 (by decide +kernel) (by decide +kernel)
theorem wd_366 : Cond.instanceMethod yX2_findBounds ∈ TB := TB_m 366 (by decide +kernel) (by decide +kernel)
theorem ws_20 : Cond.selects yX2_findBounds.cls yX2_findBounds yX2_findBounds ∈ TB := TB_s (q := (yX2_findBounds, 16)) 20 (by decide +kernel) (by decide +kernel)
theorem ky_X2_findBounds : KYV yX2_findBounds cX2_findBounds 5 none 2 := ⟨⟨wd_367, wd_4, by decide +kernel⟩, wd_366, ws_20⟩
theorem wd_364 : Cond.methodLink RX2 72 yX2_findBounds ∈ TB := TB_m 364 (by decide +kernel) (by decide +kernel)
theorem wd_437 : Cond.methodLinkNest RX2 119 yX1_isDeleted RX5 ∈ NWs := NW_m 437 (by decide +kernel) (by decide +kernel)
theorem wd_441 : Cond.code yX2_see cX2_see 6 none ∈ TB := TB_m 441 (by decide +kernel) (by decide +kernel)
theorem wd_440 : Cond.instanceMethod yX2_see ∈ TB := TB_m 440 (by decide +kernel) (by decide +kernel)
theorem ws_34 : Cond.selects yX2_see.cls yX2_see yX2_see ∈ TB := TB_s (q := (yX2_see, 16)) 34 (by decide +kernel) (by decide +kernel)
theorem ky_X2_see : KYV yX2_see cX2_see 6 none 3 := ⟨⟨wd_441, wd_4, by decide +kernel⟩, wd_440, ws_34⟩
theorem wd_438 : Cond.methodLink RX2 122 yX2_see ∈ TB := TB_m 438 (by decide +kernel) (by decide +kernel)
theorem wd_381 : Cond.code yX2_isOver cX2_isOver 7 (some .boolean) ∈ TB := TB_m 381 (by decide +kernel) (by decide +kernel)
theorem wd_380 : Cond.instanceMethod yX2_isOver ∈ TB := TB_m 380 (by decide +kernel) (by decide +kernel)
theorem ws_22 : Cond.selects yX2_isOver.cls yX2_isOver yX2_isOver ∈ TB := TB_s (q := (yX2_isOver, 16)) 22 (by decide +kernel) (by decide +kernel)
theorem ky_X2_isOver : KYV yX2_isOver cX2_isOver 7 (some .boolean) 1 := ⟨⟨wd_381, wd_4, by decide +kernel⟩, wd_380, ws_22⟩
theorem wd_418 : Cond.methodLink RX2 102 yX2_isOver ∈ TB := TB_m 418 (by decide +kernel) (by decide +kernel)
theorem wd_422 : Cond.code yX2_nextList cX2_nextList 2 (some .int) ∈ TB := TB_m 422 (by decide +kernel) (by decide +kernel)
theorem wd_421 : Cond.instanceMethod yX2_nextList ∈ TB := TB_m 421 (by decide +kernel) (by decide +kernel)
theorem ws_30 : Cond.selects yX2_nextList.cls yX2_nextList yX2_nextList ∈ TB := TB_s (q := (yX2_nextList, 16)) 30 (by decide +kernel) (by decide +kernel)
theorem ky_X2_nextList : KYV yX2_nextList cX2_nextList 2 (some .int) 1 := ⟨⟨wd_422, wd_4, by decide +kernel⟩, wd_421, ws_30⟩
theorem wd_419 : Cond.methodLink RX2 106 yX2_nextList ∈ TB := TB_m 419 (by decide +kernel) (by decide +kernel)
theorem wd_434 : Cond.code yX2_readEntry cX2_readEntry 5 none ∈ TB := TB_m 434 (by decide +kernel) (by decide +kernel)
theorem wd_433 : Cond.instanceMethod yX2_readEntry ∈ TB := TB_m 433 (by decide +kernel) (by decide +kernel)
theorem ws_33 : Cond.selects yX2_readEntry.cls yX2_readEntry yX2_readEntry ∈ TB := TB_s (q := (yX2_readEntry, 16)) 33 (by decide +kernel) (by decide +kernel)
theorem ky_X2_readEntry : KYV yX2_readEntry cX2_readEntry 5 none 2 := ⟨⟨wd_434, wd_4, by decide +kernel⟩, wd_433, ws_33⟩
theorem wd_431 : Cond.methodLink RX2 110 yX2_readEntry ∈ TB := TB_m 431 (by decide +kernel) (by decide +kernel)
theorem wd_667 : Cond.methodLinkNest RX2 176 yX5_oneIf RX5 ∈ NWs := NW_m 667 (by decide +kernel) (by decide +kernel)
theorem wd_470 : Cond.methodLink RX2 180 Lib.Math.min.name ∈ TB := TB_m 470 (by decide +kernel) (by decide +kernel)
theorem wd_469 : Cond.code yX2_toldSize cX2_toldSize 2 (some .int) ∈ TB := TB_m 469 (by decide +kernel) (by decide +kernel)
theorem wd_468 : Cond.instanceMethod yX2_toldSize ∈ TB := TB_m 468 (by decide +kernel) (by decide +kernel)
theorem ws_40 : Cond.selects yX2_toldSize.cls yX2_toldSize yX2_toldSize ∈ TB := TB_s (q := (yX2_toldSize, 16)) 40 (by decide +kernel) (by decide +kernel)
theorem ky_X2_toldSize : KYV yX2_toldSize cX2_toldSize 2 (some .int) 1 := ⟨⟨wd_469, wd_4, by decide +kernel⟩, wd_468, ws_40⟩
theorem wd_692 : Cond.methodLink RX2 183 yX2_toldSize ∈ TB := TB_m 692 (by decide +kernel) (by decide +kernel)
theorem wd_363 : Cond.code yJ7_fill_53178 cJ7_fill_53178 4 none ∈ TB := TB_m 363 (by decide +kernel) (by decide +kernel)
theorem wd_11 : Cond.initialized RJ7 ∈ TB := TB_m 11 (by decide +kernel) (by decide +kernel)
theorem wd_362 : Cond.static yJ7_fill_53178 ∈ TB := TB_m 362 (by decide +kernel) (by decide +kernel)
theorem ky_J7_fill_53178 : KYS yJ7_fill_53178 cJ7_fill_53178 4 none 2 := ⟨⟨wd_363, wd_11, by decide +kernel⟩, wd_362⟩
theorem wd_361 : Cond.methodLink RX2 66 yJ7_fill_53178 ∈ TB := TB_m 361 (by decide +kernel) (by decide +kernel)
theorem wd_697 : Cond.methodLinkNest RX2 186 yX1_wantedPlaceOf RX5 ∈ NWs := NW_m 697 (by decide +kernel) (by decide +kernel)
theorem wd_173 : Cond.fieldLink RX4 15 (TX4 1).1 (TX4 1).2.1 (TX4 1).2.2.1 ∈ TB := TB_m 173 (by decide +kernel) (by decide +kernel)
theorem wd_172 : Cond.fieldLink RX4 9 (TX4 0).1 (TX4 0).2.1 (TX4 0).2.2.1 ∈ TB := TB_m 172 (by decide +kernel) (by decide +kernel)
theorem wd_520 : Cond.code yJ0_length_8abf5 cJ0_length_8abf5 1 (some .int) ∈ TB := TB_m 520 (by decide +kernel) (by decide +kernel)
theorem wd_518 : Cond.instanceMethod yJ0_length_8abf5 ∈ TB := TB_m 518 (by decide +kernel) (by decide +kernel)
theorem wd_519 : Cond.selects yJ0_length_8abf5.cls yJ0_length_8abf5 yJ0_length_8abf5 ∈ TB := TB_m 519 (by decide +kernel) (by decide +kernel)
theorem ky_J0_length_8abf5 : KYV yJ0_length_8abf5 cJ0_length_8abf5 1 (some .int) 0 := ⟨⟨wd_520, wd_12, by decide +kernel⟩, wd_518, wd_519⟩
theorem wd_517 : Cond.methodLink RX4 60 yJ0_length_8abf5 ∈ TB := TB_m 517 (by decide +kernel) (by decide +kernel)
theorem wd_530 : Cond.code yJ0_charAt_5068e cJ0_charAt_5068e 2 (some .char) ∈ TB := TB_m 530 (by decide +kernel) (by decide +kernel)
theorem wd_528 : Cond.instanceMethod yJ0_charAt_5068e ∈ TB := TB_m 528 (by decide +kernel) (by decide +kernel)
theorem wd_529 : Cond.selects yJ0_charAt_5068e.cls yJ0_charAt_5068e yJ0_charAt_5068e ∈ TB := TB_m 529 (by decide +kernel) (by decide +kernel)
theorem ky_J0_charAt_5068e : KYV yJ0_charAt_5068e cJ0_charAt_5068e 2 (some .char) 1 := ⟨⟨wd_530, wd_12, by decide +kernel⟩, wd_528, wd_529⟩
theorem wd_527 : Cond.methodLink RX4 64 yJ0_charAt_5068e ∈ TB := TB_m 527 (by decide +kernel) (by decide +kernel)
theorem wd_498 : Cond.code yX4_signAt cX4_signAt 2 (some .char) ∈ TB := TB_m 498 (by decide +kernel) (by decide +kernel)
theorem wd_6 : Cond.initialized RX4 ∈ TB := TB_m 6 (by decide +kernel) (by decide +kernel)
theorem wd_497 : Cond.instanceMethod yX4_signAt ∈ TB := TB_m 497 (by decide +kernel) (by decide +kernel)
theorem ws_44 : Cond.selects yX4_signAt.cls yX4_signAt yX4_signAt ∈ TB := TB_s (q := (yX4_signAt, 4)) 44 (by decide +kernel) (by decide +kernel)
theorem ky_X4_signAt : KYV yX4_signAt cX4_signAt 2 (some .char) 1 := ⟨⟨wd_498, wd_6, by decide +kernel⟩, wd_497, ws_44⟩
theorem wd_495 : Cond.methodLink RX4 37 yX4_signAt ∈ TB := TB_m 495 (by decide +kernel) (by decide +kernel)
theorem wd_505 : Cond.code yX4_wordOf cX4_wordOf 1 (some (.object "java/lang/String")) ∈ TB := TB_m 505 (by decide +kernel) (by decide +kernel)
theorem wd_504 : Cond.static yX4_wordOf ∈ TB := TB_m 504 (by decide +kernel) (by decide +kernel)
theorem ky_X4_wordOf : KYS yX4_wordOf cX4_wordOf 1 (some (.object "java/lang/String")) 1 := ⟨⟨wd_505, wd_6, by decide +kernel⟩, wd_504⟩
theorem wd_503 : Cond.methodLink RX4 52 yX4_wordOf ∈ TB := TB_m 503 (by decide +kernel) (by decide +kernel)
theorem wd_516 : Cond.code yX4_isWord cX4_isWord 4 (some .boolean) ∈ TB := TB_m 516 (by decide +kernel) (by decide +kernel)
theorem wd_515 : Cond.instanceMethod yX4_isWord ∈ TB := TB_m 515 (by decide +kernel) (by decide +kernel)
theorem ws_46 : Cond.selects yX4_isWord.cls yX4_isWord yX4_isWord ∈ TB := TB_s (q := (yX4_isWord, 4)) 46 (by decide +kernel) (by decide +kernel)
theorem ky_X4_isWord : KYV yX4_isWord cX4_isWord 4 (some .boolean) 2 := ⟨⟨wd_516, wd_6, by decide +kernel⟩, wd_515, ws_46⟩
theorem wd_513 : Cond.methodLink RX4 56 yX4_isWord ∈ TB := TB_m 513 (by decide +kernel) (by decide +kernel)
theorem wd_574 : Cond.code yX4_isDigit cX4_isDigit 1 (some .boolean) ∈ TB := TB_m 574 (by decide +kernel) (by decide +kernel)
theorem wd_573 : Cond.static yX4_isDigit ∈ TB := TB_m 573 (by decide +kernel) (by decide +kernel)
theorem ky_X4_isDigit : KYS yX4_isDigit cX4_isDigit 1 (some .boolean) 1 := ⟨⟨wd_574, wd_6, by decide +kernel⟩, wd_573⟩
theorem wd_572 : Cond.methodLink RX4 81 yX4_isDigit ∈ TB := TB_m 572 (by decide +kernel) (by decide +kernel)
theorem wd_494 : Cond.code yX4_wordLength cX4_wordLength 2 (some .int) ∈ TB := TB_m 494 (by decide +kernel) (by decide +kernel)
theorem wd_493 : Cond.instanceMethod yX4_wordLength ∈ TB := TB_m 493 (by decide +kernel) (by decide +kernel)
theorem ws_43 : Cond.selects yX4_wordLength.cls yX4_wordLength yX4_wordLength ∈ TB := TB_s (q := (yX4_wordLength, 4)) 43 (by decide +kernel) (by decide +kernel)
theorem ky_X4_wordLength : KYV yX4_wordLength cX4_wordLength 2 (some .int) 0 := ⟨⟨wd_494, wd_6, by decide +kernel⟩, wd_493, ws_43⟩
theorem wd_491 : Cond.methodLink RX4 26 yX4_wordLength ∈ TB := TB_m 491 (by decide +kernel) (by decide +kernel)
theorem wd_502 : Cond.code yX4_commandOfWord cX4_commandOfWord 3 (some .int) ∈ TB := TB_m 502 (by decide +kernel) (by decide +kernel)
theorem wd_501 : Cond.instanceMethod yX4_commandOfWord ∈ TB := TB_m 501 (by decide +kernel) (by decide +kernel)
theorem ws_45 : Cond.selects yX4_commandOfWord.cls yX4_commandOfWord yX4_commandOfWord ∈ TB := TB_s (q := (yX4_commandOfWord, 4)) 45 (by decide +kernel) (by decide +kernel)
theorem ky_X4_commandOfWord : KYV yX4_commandOfWord cX4_commandOfWord 3 (some .int) 1 := ⟨⟨wd_502, wd_6, by decide +kernel⟩, wd_501, ws_45⟩
theorem wd_499 : Cond.methodLink RX4 30 yX4_commandOfWord ∈ TB := TB_m 499 (by decide +kernel) (by decide +kernel)
theorem wd_175 : Cond.fieldLink RX4 19 (TX4 2).1 (TX4 2).2.1 (TX4 2).2.2.1 ∈ TB := TB_m 175 (by decide +kernel) (by decide +kernel)
theorem wd_567 : Cond.code yX4_numbersOf cX4_numbersOf 1 (some .int) ∈ TB := TB_m 567 (by decide +kernel) (by decide +kernel)
theorem wd_566 : Cond.static yX4_numbersOf ∈ TB := TB_m 566 (by decide +kernel) (by decide +kernel)
theorem ky_X4_numbersOf : KYS yX4_numbersOf cX4_numbersOf 1 (some .int) 1 := ⟨⟨wd_567, wd_6, by decide +kernel⟩, wd_566⟩
theorem wd_565 : Cond.methodLink RX4 34 yX4_numbersOf ∈ TB := TB_m 565 (by decide +kernel) (by decide +kernel)
theorem wd_571 : Cond.code yX4_digitsFrom cX4_digitsFrom 3 (some .int) ∈ TB := TB_m 571 (by decide +kernel) (by decide +kernel)
theorem wd_570 : Cond.instanceMethod yX4_digitsFrom ∈ TB := TB_m 570 (by decide +kernel) (by decide +kernel)
theorem ws_47 : Cond.selects yX4_digitsFrom.cls yX4_digitsFrom yX4_digitsFrom ∈ TB := TB_s (q := (yX4_digitsFrom, 4)) 47 (by decide +kernel) (by decide +kernel)
theorem ky_X4_digitsFrom : KYV yX4_digitsFrom cX4_digitsFrom 3 (some .int) 1 := ⟨⟨wd_571, wd_6, by decide +kernel⟩, wd_570, ws_47⟩
theorem wd_568 : Cond.methodLink RX4 41 yX4_digitsFrom ∈ TB := TB_m 568 (by decide +kernel) (by decide +kernel)
theorem wd_177 : Cond.fieldLink RX4 22 (TX4 3).1 (TX4 3).2.1 (TX4 3).2.2.1 ∈ TB := TB_m 177 (by decide +kernel) (by decide +kernel)
theorem wd_578 : Cond.code yX4_numberFrom cX4_numberFrom 5 (some .int) ∈ TB := TB_m 578 (by decide +kernel) (by decide +kernel)
theorem wd_577 : Cond.instanceMethod yX4_numberFrom ∈ TB := TB_m 577 (by decide +kernel) (by decide +kernel)
theorem ws_48 : Cond.selects yX4_numberFrom.cls yX4_numberFrom yX4_numberFrom ∈ TB := TB_s (q := (yX4_numberFrom, 4)) 48 (by decide +kernel) (by decide +kernel)
theorem ky_X4_numberFrom : KYV yX4_numberFrom cX4_numberFrom 5 (some .int) 2 := ⟨⟨wd_578, wd_6, by decide +kernel⟩, wd_577, ws_48⟩
theorem wd_575 : Cond.methodLink RX4 44 yX4_numberFrom ∈ TB := TB_m 575 (by decide +kernel) (by decide +kernel)
theorem wd_579 : Cond.methodLinkNest RX4 48 yX5_put RX5 ∈ NWs := NW_m 579 (by decide +kernel) (by decide +kernel)
theorem wd_216 : Cond.code yX5_isList cX5_isList 1 (some .boolean) ∈ TB := TB_m 216 (by decide +kernel) (by decide +kernel)
theorem wd_215 : Cond.static yX5_isList ∈ TB := TB_m 215 (by decide +kernel) (by decide +kernel)
theorem ky_X5_isList : KYS yX5_isList cX5_isList 1 (some .boolean) 1 := ⟨⟨wd_216, wd_1, by decide +kernel⟩, wd_215⟩
theorem wd_214 : Cond.methodLink RX5 44 yX5_isList ∈ TB := TB_m 214 (by decide +kernel) (by decide +kernel)
theorem wd_217 : Cond.methodLink RX5 48 yX5_isDocument ∈ TB := TB_m 217 (by decide +kernel) (by decide +kernel)
theorem wd_191 : Cond.fieldLink RX5 12 (TX5 0).1 (TX5 0).2.1 (TX5 0).2.2.1 ∈ TB := TB_m 191 (by decide +kernel) (by decide +kernel)
theorem wd_135 : Cond.fieldLinkNest RX5 51 (TX3 1).1 (TX3 1).2.1 (TX3 1).2.2.1 RX5 ∈ NWs := NW_m 135 (by decide +kernel) (by decide +kernel)
theorem wd_73 : Cond.fieldLinkNest RX5 54 (TX2 0).1 (TX2 0).2.1 (TX2 0).2.2.1 RX5 ∈ NWs := NW_m 73 (by decide +kernel) (by decide +kernel)
theorem wd_133 : Cond.fieldLinkNest RX5 57 (TX3 0).1 (TX3 0).2.1 (TX3 0).2.2.1 RX5 ∈ NWs := NW_m 133 (by decide +kernel) (by decide +kernel)
theorem wd_220 : Cond.methodLinkNest RX5 61 yX1_scoreOf RX5 ∈ NWs := NW_m 220 (by decide +kernel) (by decide +kernel)
theorem wd_192 : Cond.fieldLink RX5 19 (TX5 1).1 (TX5 1).2.1 (TX5 1).2.2.1 ∈ TB := TB_m 192 (by decide +kernel) (by decide +kernel)
theorem wd_235 : Cond.code yX0_record cX0_record 3 none ∈ TB := TB_m 235 (by decide +kernel) (by decide +kernel)
theorem wd_234 : Cond.instanceMethod yX0_record ∈ TB := TB_m 234 (by decide +kernel) (by decide +kernel)
theorem ws_2 : Cond.selects yX0_record.cls yX0_record yX0_record ∈ TB := TB_s (q := (yX0_record, 2)) 2 (by decide +kernel) (by decide +kernel)
theorem ky_X0_record : KYV yX0_record cX0_record 3 none 1 := ⟨⟨wd_235, wd_5, by decide +kernel⟩, wd_234, ws_2⟩
theorem wd_232 : Cond.methodLinkNest RX5 71 yX0_record RX5 ∈ NWs := NW_m 232 (by decide +kernel) (by decide +kernel)
theorem wd_269 : Cond.code yX1_putIn cX1_putIn 8 (some .int) ∈ TB := TB_m 269 (by decide +kernel) (by decide +kernel)
theorem wd_268 : Cond.instanceMethod yX1_putIn ∈ TB := TB_m 268 (by decide +kernel) (by decide +kernel)
theorem ws_8 : Cond.selects yX1_putIn.cls yX1_putIn yX1_putIn ∈ TB := TB_s (q := (yX1_putIn, 7)) 8 (by decide +kernel) (by decide +kernel)
theorem ky_X1_putIn : KYV yX1_putIn cX1_putIn 8 (some .int) 3 := ⟨⟨wd_269, wd_3, by decide +kernel⟩, wd_268, ws_8⟩
theorem wd_266 : Cond.methodLinkNest RX5 75 yX1_putIn RX5 ∈ NWs := NW_m 266 (by decide +kernel) (by decide +kernel)
theorem wd_228 : Cond.methodLinkNest RX5 67 yX1_sizeOf RX5 ∈ NWs := NW_m 228 (by decide +kernel) (by decide +kernel)
theorem wd_348 : Cond.code yX5_isWay cX5_isWay 1 (some .boolean) ∈ TB := TB_m 348 (by decide +kernel) (by decide +kernel)
theorem wd_347 : Cond.static yX5_isWay ∈ TB := TB_m 347 (by decide +kernel) (by decide +kernel)
theorem ky_X5_isWay : KYS yX5_isWay cX5_isWay 1 (some .boolean) 1 := ⟨⟨wd_348, wd_1, by decide +kernel⟩, wd_347⟩
theorem wd_346 : Cond.methodLink RX5 125 yX5_isWay ∈ TB := TB_m 346 (by decide +kernel) (by decide +kernel)
theorem wd_352 : Cond.code yX1_questionSize cX1_questionSize 3 (some .int) ∈ TB := TB_m 352 (by decide +kernel) (by decide +kernel)
theorem wd_351 : Cond.instanceMethod yX1_questionSize ∈ TB := TB_m 351 (by decide +kernel) (by decide +kernel)
theorem ws_17 : Cond.selects yX1_questionSize.cls yX1_questionSize yX1_questionSize ∈ TB := TB_s (q := (yX1_questionSize, 7)) 17 (by decide +kernel) (by decide +kernel)
theorem ky_X1_questionSize : KYV yX1_questionSize cX1_questionSize 3 (some .int) 0 := ⟨⟨wd_352, wd_3, by decide +kernel⟩, wd_351, ws_17⟩
theorem wd_349 : Cond.methodLinkNest RX5 128 yX1_questionSize RX5 ∈ NWs := NW_m 349 (by decide +kernel) (by decide +kernel)
theorem wd_137 : Cond.fieldLinkNest RX5 132 (TX3 2).1 (TX3 2).2.1 (TX3 2).2.2.1 RX5 ∈ NWs := NW_m 137 (by decide +kernel) (by decide +kernel)
theorem wd_360 : Cond.code yX2_start cX2_start 5 none ∈ TB := TB_m 360 (by decide +kernel) (by decide +kernel)
theorem wd_359 : Cond.instanceMethod yX2_start ∈ TB := TB_m 359 (by decide +kernel) (by decide +kernel)
theorem ws_19 : Cond.selects yX2_start.cls yX2_start yX2_start ∈ TB := TB_s (q := (yX2_start, 16)) 19 (by decide +kernel) (by decide +kernel)
theorem ky_X2_start : KYV yX2_start cX2_start 5 none 3 := ⟨⟨wd_360, wd_4, by decide +kernel⟩, wd_359, ws_19⟩
theorem wd_357 : Cond.methodLinkNest RX5 135 yX2_start RX5 ∈ NWs := NW_m 357 (by decide +kernel) (by decide +kernel)
theorem wd_378 : Cond.methodLinkNest RX5 139 yX2_isOver RX5 ∈ NWs := NW_m 378 (by decide +kernel) (by decide +kernel)
theorem wd_404 : Cond.methodLink RX5 143 yX5_oneIf ∈ TB := TB_m 404 (by decide +kernel) (by decide +kernel)
theorem wd_332 : Cond.methodLink RX5 117 yX5_at ∈ TB := TB_m 332 (by decide +kernel) (by decide +kernel)
theorem wd_333 : Cond.methodLink RX5 121 yX5_put ∈ TB := TB_m 333 (by decide +kernel) (by decide +kernel)
theorem wd_44 : Cond.fieldLinkNest RX5 114 (TX1 4).1 (TX1 4).2.1 (TX1 4).2.2.1 RX5 ∈ NWs := NW_m 44 (by decide +kernel) (by decide +kernel)
theorem wd_331 : Cond.code yX5_setOfList cX5_setOfList 6 (some .int) ∈ TB := TB_m 331 (by decide +kernel) (by decide +kernel)
theorem wd_330 : Cond.instanceMethod yX5_setOfList ∈ TB := TB_m 330 (by decide +kernel) (by decide +kernel)
theorem ws_16 : Cond.selects yX5_setOfList.cls yX5_setOfList yX5_setOfList ∈ TB := TB_s (q := (yX5_setOfList, 6)) 16 (by decide +kernel) (by decide +kernel)
theorem ky_X5_setOfList : KYV yX5_setOfList cX5_setOfList 6 (some .int) 4 := ⟨⟨wd_331, wd_1, by decide +kernel⟩, wd_330, ws_16⟩
theorem wd_328 : Cond.methodLink RX5 106 yX5_setOfList ∈ TB := TB_m 328 (by decide +kernel) (by decide +kernel)
theorem wd_303 : Cond.methodLinkNest RX5 87 yX1_isDeleted RX5 ∈ NWs := NW_m 303 (by decide +kernel) (by decide +kernel)
theorem wd_46 : Cond.fieldLinkNest RX5 90 (TX1 5).1 (TX1 5).2.1 (TX1 5).2.2.1 RX5 ∈ NWs := NW_m 46 (by decide +kernel) (by decide +kernel)
theorem wd_310 : Cond.code yX1_listsWith cX1_listsWith 4 (some .int) ∈ TB := TB_m 310 (by decide +kernel) (by decide +kernel)
theorem wd_309 : Cond.instanceMethod yX1_listsWith ∈ TB := TB_m 309 (by decide +kernel) (by decide +kernel)
theorem ws_15 : Cond.selects yX1_listsWith.cls yX1_listsWith yX1_listsWith ∈ TB := TB_s (q := (yX1_listsWith, 7)) 15 (by decide +kernel) (by decide +kernel)
theorem ky_X1_listsWith : KYV yX1_listsWith cX1_listsWith 4 (some .int) 1 := ⟨⟨wd_310, wd_3, by decide +kernel⟩, wd_309, ws_15⟩
theorem wd_307 : Cond.methodLinkNest RX5 94 yX1_listsWith RX5 ∈ NWs := NW_m 307 (by decide +kernel) (by decide +kernel)
theorem wd_314 : Cond.methodLink RX5 97 yJ6_bitCount_0f7a4 ∈ TB := TB_m 314 (by decide +kernel) (by decide +kernel)
theorem wd_302 : Cond.code yX5_setDeleted cX5_setDeleted 3 (some .int) ∈ TB := TB_m 302 (by decide +kernel) (by decide +kernel)
theorem wd_301 : Cond.instanceMethod yX5_setDeleted ∈ TB := TB_m 301 (by decide +kernel) (by decide +kernel)
theorem ws_13 : Cond.selects yX5_setDeleted.cls yX5_setDeleted yX5_setDeleted ∈ TB := TB_s (q := (yX5_setDeleted, 6)) 13 (by decide +kernel) (by decide +kernel)
theorem ky_X5_setDeleted : KYV yX5_setDeleted cX5_setDeleted 3 (some .int) 2 := ⟨⟨wd_302, wd_1, by decide +kernel⟩, wd_301, ws_13⟩
theorem wd_299 : Cond.methodLink RX5 83 yX5_setDeleted ∈ TB := TB_m 299 (by decide +kernel) (by decide +kernel)
theorem wd_196 : Cond.fieldLink RX5 40 (TX5 5).1 (TX5 5).2.1 (TX5 5).2.2.1 ∈ TB := TB_m 196 (by decide +kernel) (by decide +kernel)
theorem wd_417 : Cond.code yX2_goOn cX2_goOn 4 (some .int) ∈ TB := TB_m 417 (by decide +kernel) (by decide +kernel)
theorem wd_416 : Cond.instanceMethod yX2_goOn ∈ TB := TB_m 416 (by decide +kernel) (by decide +kernel)
theorem ws_29 : Cond.selects yX2_goOn.cls yX2_goOn yX2_goOn ∈ TB := TB_s (q := (yX2_goOn, 16)) 29 (by decide +kernel) (by decide +kernel)
theorem ky_X2_goOn : KYV yX2_goOn cX2_goOn 4 (some .int) 2 := ⟨⟨wd_417, wd_4, by decide +kernel⟩, wd_416, ws_29⟩
theorem wd_414 : Cond.methodLinkNest RX5 150 yX2_goOn RX5 ∈ NWs := NW_m 414 (by decide +kernel) (by decide +kernel)
theorem wd_684 : Cond.code yX2_cost cX2_cost 1 (some .int) ∈ TB := TB_m 684 (by decide +kernel) (by decide +kernel)
theorem wd_683 : Cond.instanceMethod yX2_cost ∈ TB := TB_m 683 (by decide +kernel) (by decide +kernel)
theorem ws_58 : Cond.selects yX2_cost.cls yX2_cost yX2_cost ∈ TB := TB_s (q := (yX2_cost, 16)) 58 (by decide +kernel) (by decide +kernel)
theorem ky_X2_cost : KYV yX2_cost cX2_cost 1 (some .int) 0 := ⟨⟨wd_684, wd_4, by decide +kernel⟩, wd_683, ws_58⟩
theorem wd_681 : Cond.methodLinkNest RX5 279 yX2_cost RX5 ∈ NWs := NW_m 681 (by decide +kernel) (by decide +kernel)
theorem wd_195 : Cond.fieldLink RX5 33 (TX5 4).1 (TX5 4).2.1 (TX5 4).2.2.1 ∈ TB := TB_m 195 (by decide +kernel) (by decide +kernel)
theorem wd_174 : Cond.fieldLinkNest RX5 161 (TX4 1).1 (TX4 1).2.1 (TX4 1).2.2.1 RX5 ∈ NWs := NW_m 174 (by decide +kernel) (by decide +kernel)
theorem wd_655 : Cond.methodLinkNest RX5 231 yX1_isAsked RX5 ∈ NWs := NW_m 655 (by decide +kernel) (by decide +kernel)
theorem wd_83 : Cond.fieldLinkNest RX5 234 (TX2 7).1 (TX2 7).2.1 (TX2 7).2.2.1 RX5 ∈ NWs := NW_m 83 (by decide +kernel) (by decide +kernel)
theorem wd_89 : Cond.fieldLinkNest RX5 237 (TX2 10).1 (TX2 10).2.1 (TX2 10).2.2.1 RX5 ∈ NWs := NW_m 89 (by decide +kernel) (by decide +kernel)
theorem wd_87 : Cond.fieldLinkNest RX5 240 (TX2 9).1 (TX2 9).2.1 (TX2 9).2.2.1 RX5 ∈ NWs := NW_m 87 (by decide +kernel) (by decide +kernel)
theorem wd_656 : Cond.methodLinkNest RX5 243 yX2_isCaught RX5 ∈ NWs := NW_m 656 (by decide +kernel) (by decide +kernel)
theorem wd_85 : Cond.fieldLinkNest RX5 246 (TX2 8).1 (TX2 8).2.1 (TX2 8).2.2.1 RX5 ∈ NWs := NW_m 85 (by decide +kernel) (by decide +kernel)
theorem wd_604 : Cond.code yX1_entries cX1_entries 3 (some .int) ∈ TB := TB_m 604 (by decide +kernel) (by decide +kernel)
theorem wd_603 : Cond.instanceMethod yX1_entries ∈ TB := TB_m 603 (by decide +kernel) (by decide +kernel)
theorem ws_50 : Cond.selects yX1_entries.cls yX1_entries yX1_entries ∈ TB := TB_s (q := (yX1_entries, 7)) 50 (by decide +kernel) (by decide +kernel)
theorem ky_X1_entries : KYV yX1_entries cX1_entries 3 (some .int) 0 := ⟨⟨wd_604, wd_3, by decide +kernel⟩, wd_603, ws_50⟩
theorem wd_601 : Cond.methodLinkNest RX5 207 yX1_entries RX5 ∈ NWs := NW_m 601 (by decide +kernel) (by decide +kernel)
theorem wd_48 : Cond.fieldLinkNest RX5 110 (TX1 6).1 (TX1 6).2.1 (TX1 6).2.2.1 RX5 ∈ NWs := NW_m 48 (by decide +kernel) (by decide +kernel)
theorem wd_716 : Cond.code yJ13_bitCount_95d88 cJ13_bitCount_95d88 2 (some .int) ∈ TB := TB_m 716 (by decide +kernel) (by decide +kernel)
theorem wd_16 : Cond.initialized RJ13 ∈ TB := TB_m 16 (by decide +kernel) (by decide +kernel)
theorem wd_715 : Cond.static yJ13_bitCount_95d88 ∈ TB := TB_m 715 (by decide +kernel) (by decide +kernel)
theorem ky_J13_bitCount_95d88 : KYS yJ13_bitCount_95d88 cJ13_bitCount_95d88 2 (some .int) 1 := ⟨⟨wd_716, wd_16, by decide +kernel⟩, wd_715⟩
theorem wd_714 : Cond.methodLink RX5 300 yJ13_bitCount_95d88 ∈ TB := TB_m 714 (by decide +kernel) (by decide +kernel)
theorem wd_723 : Cond.code yX1_wantedSize cX1_wantedSize 3 (some .int) ∈ TB := TB_m 723 (by decide +kernel) (by decide +kernel)
theorem wd_722 : Cond.instanceMethod yX1_wantedSize ∈ TB := TB_m 722 (by decide +kernel) (by decide +kernel)
theorem ws_62 : Cond.selects yX1_wantedSize.cls yX1_wantedSize yX1_wantedSize ∈ TB := TB_s (q := (yX1_wantedSize, 7)) 62 (by decide +kernel) (by decide +kernel)
theorem ky_X1_wantedSize : KYV yX1_wantedSize cX1_wantedSize 3 (some .int) 0 := ⟨⟨wd_723, wd_3, by decide +kernel⟩, wd_722, ws_62⟩
theorem wd_720 : Cond.methodLinkNest RX5 305 yX1_wantedSize RX5 ∈ NWs := NW_m 720 (by decide +kernel) (by decide +kernel)
theorem wd_139 : Cond.fieldLinkNest RX5 154 (TX3 3).1 (TX3 3).2.1 (TX3 3).2.2.1 RX5 ∈ NWs := NW_m 139 (by decide +kernel) (by decide +kernel)
theorem wd_160 : Cond.fieldLinkNest RX5 198 (TX0 1).1 (TX0 1).2.1 (TX0 1).2.2.1 RX5 ∈ NWs := NW_m 160 (by decide +kernel) (by decide +kernel)
theorem wd_629 : Cond.methodLinkNest RX5 222 yX1_valueOf RX5 ∈ NWs := NW_m 629 (by decide +kernel) (by decide +kernel)
theorem wd_633 : Cond.methodLinkNest RX5 225 yX1_wantedPlaceOf RX5 ∈ NWs := NW_m 633 (by decide +kernel) (by decide +kernel)
theorem wd_294 : Cond.methodLinkNest RX5 79 yX1_takeOut RX5 ∈ NWs := NW_m 294 (by decide +kernel) (by decide +kernel)
theorem wd_466 : Cond.methodLinkNest RX5 157 yX2_toldSize RX5 ∈ NWs := NW_m 466 (by decide +kernel) (by decide +kernel)
theorem wd_614 : Cond.methodLinkNest RX5 213 yX1_scoreAt RX5 ∈ NWs := NW_m 614 (by decide +kernel) (by decide +kernel)
theorem wd_624 : Cond.methodLinkNest RX5 219 yX1_documentAt RX5 ∈ NWs := NW_m 624 (by decide +kernel) (by decide +kernel)
theorem wd_193 : Cond.fieldLink RX5 23 (TX5 2).1 (TX5 2).2.1 (TX5 2).2.2.1 ∈ TB := TB_m 193 (by decide +kernel) (by decide +kernel)
theorem wd_600 : Cond.methodLinkNest RX5 204 yX3_copyFrom RX5 ∈ NWs := NW_m 600 (by decide +kernel) (by decide +kernel)
theorem wd_194 : Cond.fieldLink RX5 26 (TX5 3).1 (TX5 3).2.1 (TX5 3).2.2.1 ∈ TB := TB_m 194 (by decide +kernel) (by decide +kernel)
theorem wd_613 : Cond.methodLinkNest RX5 210 yX1_weightOf RX5 ∈ NWs := NW_m 613 (by decide +kernel) (by decide +kernel)
theorem wd_618 : Cond.code yX1_deletedIn cX1_deletedIn 5 (some .int) ∈ TB := TB_m 618 (by decide +kernel) (by decide +kernel)
theorem wd_617 : Cond.instanceMethod yX1_deletedIn ∈ TB := TB_m 617 (by decide +kernel) (by decide +kernel)
theorem ws_51 : Cond.selects yX1_deletedIn.cls yX1_deletedIn yX1_deletedIn ∈ TB := TB_s (q := (yX1_deletedIn, 7)) 51 (by decide +kernel) (by decide +kernel)
theorem ky_X1_deletedIn : KYV yX1_deletedIn cX1_deletedIn 5 (some .int) 1 := ⟨⟨wd_618, wd_3, by decide +kernel⟩, wd_617, ws_51⟩
theorem wd_615 : Cond.methodLinkNest RX5 216 yX1_deletedIn RX5 ∈ NWs := NW_m 615 (by decide +kernel) (by decide +kernel)
theorem wd_41 : Cond.fieldLinkNest RX5 102 (TX1 3).1 (TX1 3).2.1 (TX1 3).2.2.1 RX5 ∈ NWs := NW_m 41 (by decide +kernel) (by decide +kernel)
theorem wd_490 : Cond.code yX4_readCommand cX4_readCommand 5 (some .int) ∈ TB := TB_m 490 (by decide +kernel) (by decide +kernel)
theorem wd_489 : Cond.instanceMethod yX4_readCommand ∈ TB := TB_m 489 (by decide +kernel) (by decide +kernel)
theorem ws_42 : Cond.selects yX4_readCommand.cls yX4_readCommand yX4_readCommand ∈ TB := TB_s (q := (yX4_readCommand, 4)) 42 (by decide +kernel) (by decide +kernel)
theorem ky_X4_readCommand : KYV yX4_readCommand cX4_readCommand 5 (some .int) 0 := ⟨⟨wd_490, wd_6, by decide +kernel⟩, wd_489, ws_42⟩
theorem wd_487 : Cond.methodLinkNest RX5 168 yX4_readCommand RX5 ∈ NWs := NW_m 487 (by decide +kernel) (by decide +kernel)
theorem wd_178 : Cond.fieldLinkNest RX5 171 (TX4 3).1 (TX4 3).2.1 (TX4 3).2.2.1 RX5 ∈ NWs := NW_m 178 (by decide +kernel) (by decide +kernel)
theorem wd_176 : Cond.fieldLinkNest RX5 174 (TX4 2).1 (TX4 2).2.1 (TX4 2).2.2.1 RX5 ∈ NWs := NW_m 176 (by decide +kernel) (by decide +kernel)
theorem wd_213 : Cond.code yX5_add cX5_add 5 (some .int) ∈ TB := TB_m 213 (by decide +kernel) (by decide +kernel)
theorem wd_211 : Cond.instanceMethod yX5_add ∈ TB := TB_m 211 (by decide +kernel) (by decide +kernel)
theorem wd_212 : Cond.selects yX5_add.cls yX5_add yX5_add ∈ TB := TB_m 212 (by decide +kernel) (by decide +kernel)
theorem ky_X5_add : KYV yX5_add cX5_add 5 (some .int) 3 := ⟨⟨wd_213, wd_1, by decide +kernel⟩, wd_211, wd_212⟩
theorem wd_580 : Cond.methodLink RX5 177 yX5_add ∈ TB := TB_m 580 (by decide +kernel) (by decide +kernel)
theorem wd_293 : Cond.code yX5_drop cX5_drop 3 (some .int) ∈ TB := TB_m 293 (by decide +kernel) (by decide +kernel)
theorem wd_291 : Cond.instanceMethod yX5_drop ∈ TB := TB_m 291 (by decide +kernel) (by decide +kernel)
theorem wd_292 : Cond.selects yX5_drop.cls yX5_drop yX5_drop ∈ TB := TB_m 292 (by decide +kernel) (by decide +kernel)
theorem ky_X5_drop : KYV yX5_drop cX5_drop 3 (some .int) 2 := ⟨⟨wd_293, wd_1, by decide +kernel⟩, wd_291, wd_292⟩
theorem wd_581 : Cond.methodLink RX5 180 yX5_drop ∈ TB := TB_m 581 (by decide +kernel) (by decide +kernel)
theorem wd_327 : Cond.code yX5_weight cX5_weight 3 (some .int) ∈ TB := TB_m 327 (by decide +kernel) (by decide +kernel)
theorem wd_325 : Cond.instanceMethod yX5_weight ∈ TB := TB_m 325 (by decide +kernel) (by decide +kernel)
theorem wd_326 : Cond.selects yX5_weight.cls yX5_weight yX5_weight ∈ TB := TB_m 326 (by decide +kernel) (by decide +kernel)
theorem ky_X5_weight : KYV yX5_weight cX5_weight 3 (some .int) 2 := ⟨⟨wd_327, wd_1, by decide +kernel⟩, wd_325, wd_326⟩
theorem wd_582 : Cond.methodLink RX5 183 yX5_weight ∈ TB := TB_m 582 (by decide +kernel) (by decide +kernel)
theorem wd_341 : Cond.code yX5_bribe cX5_bribe 3 (some .int) ∈ TB := TB_m 341 (by decide +kernel) (by decide +kernel)
theorem wd_339 : Cond.instanceMethod yX5_bribe ∈ TB := TB_m 339 (by decide +kernel) (by decide +kernel)
theorem wd_340 : Cond.selects yX5_bribe.cls yX5_bribe yX5_bribe ∈ TB := TB_m 340 (by decide +kernel) (by decide +kernel)
theorem ky_X5_bribe : KYV yX5_bribe cX5_bribe 3 (some .int) 2 := ⟨⟨wd_341, wd_1, by decide +kernel⟩, wd_339, wd_340⟩
theorem wd_583 : Cond.methodLink RX5 186 yX5_bribe ∈ TB := TB_m 583 (by decide +kernel) (by decide +kernel)
theorem wd_298 : Cond.code yX5_delete cX5_delete 2 (some .int) ∈ TB := TB_m 298 (by decide +kernel) (by decide +kernel)
theorem wd_296 : Cond.instanceMethod yX5_delete ∈ TB := TB_m 296 (by decide +kernel) (by decide +kernel)
theorem wd_297 : Cond.selects yX5_delete.cls yX5_delete yX5_delete ∈ TB := TB_m 297 (by decide +kernel) (by decide +kernel)
theorem ky_X5_delete : KYV yX5_delete cX5_delete 2 (some .int) 1 := ⟨⟨wd_298, wd_1, by decide +kernel⟩, wd_296, wd_297⟩
theorem wd_584 : Cond.methodLink RX5 189 yX5_delete ∈ TB := TB_m 584 (by decide +kernel) (by decide +kernel)
theorem wd_323 : Cond.code yX5_bring cX5_bring 2 (some .int) ∈ TB := TB_m 323 (by decide +kernel) (by decide +kernel)
theorem wd_321 : Cond.instanceMethod yX5_bring ∈ TB := TB_m 321 (by decide +kernel) (by decide +kernel)
theorem wd_322 : Cond.selects yX5_bring.cls yX5_bring yX5_bring ∈ TB := TB_m 322 (by decide +kernel) (by decide +kernel)
theorem ky_X5_bring : KYV yX5_bring cX5_bring 2 (some .int) 1 := ⟨⟨wd_323, wd_1, by decide +kernel⟩, wd_321, wd_322⟩
theorem wd_585 : Cond.methodLink RX5 192 yX5_bring ∈ TB := TB_m 585 (by decide +kernel) (by decide +kernel)
theorem wd_337 : Cond.code yX5_want cX5_want 3 (some .int) ∈ TB := TB_m 337 (by decide +kernel) (by decide +kernel)
theorem wd_335 : Cond.instanceMethod yX5_want ∈ TB := TB_m 335 (by decide +kernel) (by decide +kernel)
theorem wd_336 : Cond.selects yX5_want.cls yX5_want yX5_want ∈ TB := TB_m 336 (by decide +kernel) (by decide +kernel)
theorem ky_X5_want : KYV yX5_want cX5_want 3 (some .int) 1 := ⟨⟨wd_337, wd_1, by decide +kernel⟩, wd_335, wd_336⟩
theorem wd_586 : Cond.methodLink RX5 195 yX5_want ∈ TB := TB_m 586 (by decide +kernel) (by decide +kernel)
theorem wd_78 : Cond.fieldLinkNest RX5 270 (TX2 4).1 (TX2 4).2.1 (TX2 4).2.2.1 RX5 ∈ NWs := NW_m 78 (by decide +kernel) (by decide +kernel)
theorem wd_80 : Cond.fieldLinkNest RX5 273 (TX2 5).1 (TX2 5).2.1 (TX2 5).2.2.1 RX5 ∈ NWs := NW_m 80 (by decide +kernel) (by decide +kernel)
theorem wd_677 : Cond.methodLinkNest RX5 276 yX2_allLookUps RX5 ∈ NWs := NW_m 677 (by decide +kernel) (by decide +kernel)
theorem wd_98 : Cond.fieldLinkNest RX5 282 (TX2 15).1 (TX2 15).2.1 (TX2 15).2.2.1 RX5 ∈ NWs := NW_m 98 (by decide +kernel) (by decide +kernel)
theorem wd_686 : Cond.methodLinkNest RX5 285 yX2_nextList RX5 ∈ NWs := NW_m 686 (by decide +kernel) (by decide +kernel)
theorem wd_687 : Cond.methodLinkNest RX5 288 yX2_weighedBounds RX5 ∈ NWs := NW_m 687 (by decide +kernel) (by decide +kernel)
theorem wd_691 : Cond.code yX2_lowOfLastTold cX2_lowOfLastTold 3 (some .int) ∈ TB := TB_m 691 (by decide +kernel) (by decide +kernel)
theorem wd_690 : Cond.instanceMethod yX2_lowOfLastTold ∈ TB := TB_m 690 (by decide +kernel) (by decide +kernel)
theorem ws_59 : Cond.selects yX2_lowOfLastTold.cls yX2_lowOfLastTold yX2_lowOfLastTold ∈ TB := TB_s (q := (yX2_lowOfLastTold, 16)) 59 (by decide +kernel) (by decide +kernel)
theorem ky_X2_lowOfLastTold : KYV yX2_lowOfLastTold cX2_lowOfLastTold 3 (some .int) 1 := ⟨⟨wd_691, wd_4, by decide +kernel⟩, wd_690, ws_59⟩
theorem wd_688 : Cond.methodLinkNest RX5 291 yX2_lowOfLastTold RX5 ∈ NWs := NW_m 688 (by decide +kernel) (by decide +kernel)
theorem wd_412 : Cond.code yX2_caughtSize cX2_caughtSize 1 (some .int) ∈ TB := TB_m 412 (by decide +kernel) (by decide +kernel)
theorem wd_411 : Cond.instanceMethod yX2_caughtSize ∈ TB := TB_m 411 (by decide +kernel) (by decide +kernel)
theorem ws_28 : Cond.selects yX2_caughtSize.cls yX2_caughtSize yX2_caughtSize ∈ TB := TB_s (q := (yX2_caughtSize, 16)) 28 (by decide +kernel) (by decide +kernel)
theorem ky_X2_caughtSize : KYV yX2_caughtSize cX2_caughtSize 1 (some .int) 0 := ⟨⟨wd_412, wd_4, by decide +kernel⟩, wd_411, ws_28⟩
theorem wd_409 : Cond.methodLinkNest RX5 147 yX2_caughtSize RX5 ∈ NWs := NW_m 409 (by decide +kernel) (by decide +kernel)
theorem wd_696 : Cond.code yX2_toldNotWanted cX2_toldNotWanted 5 (some .int) ∈ TB := TB_m 696 (by decide +kernel) (by decide +kernel)
theorem wd_695 : Cond.instanceMethod yX2_toldNotWanted ∈ TB := TB_m 695 (by decide +kernel) (by decide +kernel)
theorem ws_60 : Cond.selects yX2_toldNotWanted.cls yX2_toldNotWanted yX2_toldNotWanted ∈ TB := TB_s (q := (yX2_toldNotWanted, 16)) 60 (by decide +kernel) (by decide +kernel)
theorem ky_X2_toldNotWanted : KYV yX2_toldNotWanted cX2_toldNotWanted 5 (some .int) 1 := ⟨⟨wd_696, wd_4, by decide +kernel⟩, wd_695, ws_60⟩
theorem wd_693 : Cond.methodLinkNest RX5 294 yX2_toldNotWanted RX5 ∈ NWs := NW_m 693 (by decide +kernel) (by decide +kernel)
theorem wd_701 : Cond.code yX2_tellingLess cX2_tellingLess 5 (some .int) ∈ TB := TB_m 701 (by decide +kernel) (by decide +kernel)
theorem wd_700 : Cond.instanceMethod yX2_tellingLess ∈ TB := TB_m 700 (by decide +kernel) (by decide +kernel)
theorem ws_61 : Cond.selects yX2_tellingLess.cls yX2_tellingLess yX2_tellingLess ∈ TB := TB_s (q := (yX2_tellingLess, 16)) 61 (by decide +kernel) (by decide +kernel)
theorem ky_X2_tellingLess : KYV yX2_tellingLess cX2_tellingLess 5 (some .int) 1 := ⟨⟨wd_701, wd_4, by decide +kernel⟩, wd_700, ws_61⟩
theorem wd_698 : Cond.methodLinkNest RX5 297 yX2_tellingLess RX5 ∈ NWs := NW_m 698 (by decide +kernel) (by decide +kernel)
theorem wd_661 : Cond.methodLinkNest RX5 249 yX2_isSeen RX5 ∈ NWs := NW_m 661 (by decide +kernel) (by decide +kernel)
theorem wd_92 : Cond.fieldLinkNest RX5 252 (TX2 12).1 (TX2 12).2.1 (TX2 12).2.2.1 RX5 ∈ NWs := NW_m 92 (by decide +kernel) (by decide +kernel)
theorem wd_662 : Cond.methodLinkNest RX5 255 yX2_highOf RX5 ∈ NWs := NW_m 662 (by decide +kernel) (by decide +kernel)
theorem wd_666 : Cond.code yX2_knownListsOf cX2_knownListsOf 6 (some .int) ∈ TB := TB_m 666 (by decide +kernel) (by decide +kernel)
theorem wd_665 : Cond.instanceMethod yX2_knownListsOf ∈ TB := TB_m 665 (by decide +kernel) (by decide +kernel)
theorem ws_56 : Cond.selects yX2_knownListsOf.cls yX2_knownListsOf yX2_knownListsOf ∈ TB := TB_s (q := (yX2_knownListsOf, 16)) 56 (by decide +kernel) (by decide +kernel)
theorem ky_X2_knownListsOf : KYV yX2_knownListsOf cX2_knownListsOf 6 (some .int) 2 := ⟨⟨wd_666, wd_4, by decide +kernel⟩, wd_665, ws_56⟩
theorem wd_663 : Cond.methodLinkNest RX5 258 yX2_knownListsOf RX5 ∈ NWs := NW_m 663 (by decide +kernel) (by decide +kernel)
theorem wd_668 : Cond.methodLinkNest RX5 261 yX2_frontPlaceOf RX5 ∈ NWs := NW_m 668 (by decide +kernel) (by decide +kernel)
theorem wd_94 : Cond.fieldLinkNest RX5 264 (TX2 13).1 (TX2 13).2.1 (TX2 13).2.2.1 RX5 ∈ NWs := NW_m 94 (by decide +kernel) (by decide +kernel)
theorem wd_96 : Cond.fieldLinkNest RX5 267 (TX2 14).1 (TX2 14).2.1 (TX2 14).2.2.1 RX5 ∈ NWs := NW_m 96 (by decide +kernel) (by decide +kernel)
theorem wd_478 : Cond.code yX4_append cX4_append 2 none ∈ TB := TB_m 478 (by decide +kernel) (by decide +kernel)
theorem wd_477 : Cond.instanceMethod yX4_append ∈ TB := TB_m 477 (by decide +kernel) (by decide +kernel)
theorem ws_41 : Cond.selects yX4_append.cls yX4_append yX4_append ∈ TB := TB_s (q := (yX4_append, 4)) 41 (by decide +kernel) (by decide +kernel)
theorem ky_X4_append : KYV yX4_append cX4_append 2 none 1 := ⟨⟨wd_478, wd_6, by decide +kernel⟩, wd_477, ws_41⟩
theorem wd_475 : Cond.methodLinkNest RX5 164 yX4_append RX5 ∈ NWs := NW_m 475 (by decide +kernel) (by decide +kernel)
theorem wd_595 : Cond.code yX0_takeLatest cX0_takeLatest 3 none ∈ TB := TB_m 595 (by decide +kernel) (by decide +kernel)
theorem wd_594 : Cond.instanceMethod yX0_takeLatest ∈ TB := TB_m 594 (by decide +kernel) (by decide +kernel)
theorem ws_49 : Cond.selects yX0_takeLatest.cls yX0_takeLatest yX0_takeLatest ∈ TB := TB_s (q := (yX0_takeLatest, 2)) 49 (by decide +kernel) (by decide +kernel)
theorem ky_X0_takeLatest : KYV yX0_takeLatest cX0_takeLatest 3 none 1 := ⟨⟨wd_595, wd_5, by decide +kernel⟩, wd_594, ws_49⟩
theorem wd_592 : Cond.methodLinkNest RX5 201 yX0_takeLatest RX5 ∈ NWs := NW_m 592 (by decide +kernel) (by decide +kernel)
theorem wd_649 : Cond.code yX1_wantedAt cX1_wantedAt 3 (some .int) ∈ TB := TB_m 649 (by decide +kernel) (by decide +kernel)
theorem wd_648 : Cond.instanceMethod yX1_wantedAt ∈ TB := TB_m 648 (by decide +kernel) (by decide +kernel)
theorem ws_55 : Cond.selects yX1_wantedAt.cls yX1_wantedAt yX1_wantedAt ∈ TB := TB_s (q := (yX1_wantedAt, 7)) 55 (by decide +kernel) (by decide +kernel)
theorem ky_X1_wantedAt : KYV yX1_wantedAt cX1_wantedAt 3 (some .int) 1 := ⟨⟨wd_649, wd_3, by decide +kernel⟩, wd_648, ws_55⟩
theorem wd_646 : Cond.methodLinkNest RX5 228 yX1_wantedAt RX5 ∈ NWs := NW_m 646 (by decide +kernel) (by decide +kernel)
theorem wd_731 : Cond.fieldLink RX6 7 (TX6 0).1 (TX6 0).2.1 (TX6 0).2.2.1 ∈ TB := TB_m 731 (by decide +kernel) (by decide +kernel)
theorem wd_736 : Cond.fieldLink RX6 32 (TX6 5).1 (TX6 5).2.1 (TX6 5).2.2.1 ∈ TB := TB_m 736 (by decide +kernel) (by decide +kernel)
theorem wd_732 : Cond.fieldLink RX6 13 (TX6 1).1 (TX6 1).2.1 (TX6 1).2.2.1 ∈ TB := TB_m 732 (by decide +kernel) (by decide +kernel)
theorem wd_794 : Cond.code yX6_isList cX6_isList 1 (some .boolean) ∈ TB := TB_m 794 (by decide +kernel) (by decide +kernel)
theorem wd_7 : Cond.initialized RX6 ∈ TB := TB_m 7 (by decide +kernel) (by decide +kernel)
theorem wd_793 : Cond.static yX6_isList ∈ TB := TB_m 793 (by decide +kernel) (by decide +kernel)
theorem ky_X6_isList : KYS yX6_isList cX6_isList 1 (some .boolean) 1 := ⟨⟨wd_794, wd_7, by decide +kernel⟩, wd_793⟩
theorem wd_792 : Cond.methodLink RX6 51 yX6_isList ∈ TB := TB_m 792 (by decide +kernel) (by decide +kernel)
theorem wd_797 : Cond.code yX6_isDocument cX6_isDocument 1 (some .boolean) ∈ TB := TB_m 797 (by decide +kernel) (by decide +kernel)
theorem wd_796 : Cond.static yX6_isDocument ∈ TB := TB_m 796 (by decide +kernel) (by decide +kernel)
theorem ky_X6_isDocument : KYS yX6_isDocument cX6_isDocument 1 (some .boolean) 1 := ⟨⟨wd_797, wd_7, by decide +kernel⟩, wd_796⟩
theorem wd_795 : Cond.methodLink RX6 55 yX6_isDocument ∈ TB := TB_m 795 (by decide +kernel) (by decide +kernel)
theorem wd_801 : Cond.code yX6_placeOf cX6_placeOf 5 (some .int) ∈ TB := TB_m 801 (by decide +kernel) (by decide +kernel)
theorem wd_800 : Cond.instanceMethod yX6_placeOf ∈ TB := TB_m 800 (by decide +kernel) (by decide +kernel)
theorem ws_65 : Cond.selects yX6_placeOf.cls yX6_placeOf yX6_placeOf ∈ TB := TB_s (q := (yX6_placeOf, 12)) 65 (by decide +kernel) (by decide +kernel)
theorem ky_X6_placeOf : KYV yX6_placeOf cX6_placeOf 5 (some .int) 2 := ⟨⟨wd_801, wd_7, by decide +kernel⟩, wd_800, ws_65⟩
theorem wd_798 : Cond.methodLink RX6 47 yX6_placeOf ∈ TB := TB_m 798 (by decide +kernel) (by decide +kernel)
theorem wd_787 : Cond.code yX6_record cX6_record 2 none ∈ TB := TB_m 787 (by decide +kernel) (by decide +kernel)
theorem wd_786 : Cond.instanceMethod yX6_record ∈ TB := TB_m 786 (by decide +kernel) (by decide +kernel)
theorem ws_64 : Cond.selects yX6_record.cls yX6_record yX6_record ∈ TB := TB_s (q := (yX6_record, 12)) 64 (by decide +kernel) (by decide +kernel)
theorem ky_X6_record : KYV yX6_record cX6_record 2 none 0 := ⟨⟨wd_787, wd_7, by decide +kernel⟩, wd_786, ws_64⟩
theorem wd_784 : Cond.methodLink RX6 44 yX6_record ∈ TB := TB_m 784 (by decide +kernel) (by decide +kernel)
theorem wd_809 : Cond.code yX6_putIn cX6_putIn 8 (some .int) ∈ TB := TB_m 809 (by decide +kernel) (by decide +kernel)
theorem wd_808 : Cond.instanceMethod yX6_putIn ∈ TB := TB_m 808 (by decide +kernel) (by decide +kernel)
theorem ws_67 : Cond.selects yX6_putIn.cls yX6_putIn yX6_putIn ∈ TB := TB_s (q := (yX6_putIn, 12)) 67 (by decide +kernel) (by decide +kernel)
theorem ky_X6_putIn : KYV yX6_putIn cX6_putIn 8 (some .int) 3 := ⟨⟨wd_809, wd_7, by decide +kernel⟩, wd_808, ws_67⟩
theorem wd_806 : Cond.methodLink RX6 62 yX6_putIn ∈ TB := TB_m 806 (by decide +kernel) (by decide +kernel)
theorem wd_805 : Cond.code yX6_takeOut cX6_takeOut 4 none ∈ TB := TB_m 805 (by decide +kernel) (by decide +kernel)
theorem wd_804 : Cond.instanceMethod yX6_takeOut ∈ TB := TB_m 804 (by decide +kernel) (by decide +kernel)
theorem ws_66 : Cond.selects yX6_takeOut.cls yX6_takeOut yX6_takeOut ∈ TB := TB_s (q := (yX6_takeOut, 12)) 66 (by decide +kernel) (by decide +kernel)
theorem ky_X6_takeOut : KYV yX6_takeOut cX6_takeOut 4 none 2 := ⟨⟨wd_805, wd_7, by decide +kernel⟩, wd_804, ws_66⟩
theorem wd_802 : Cond.methodLink RX6 58 yX6_takeOut ∈ TB := TB_m 802 (by decide +kernel) (by decide +kernel)
theorem wd_892 : Cond.code yX6_isAsked cX6_isAsked 2 (some .boolean) ∈ TB := TB_m 892 (by decide +kernel) (by decide +kernel)
theorem wd_891 : Cond.instanceMethod yX6_isAsked ∈ TB := TB_m 891 (by decide +kernel) (by decide +kernel)
theorem ws_76 : Cond.selects yX6_isAsked.cls yX6_isAsked yX6_isAsked ∈ TB := TB_s (q := (yX6_isAsked, 12)) 76 (by decide +kernel) (by decide +kernel)
theorem ky_X6_isAsked : KYV yX6_isAsked cX6_isAsked 2 (some .boolean) 1 := ⟨⟨wd_892, wd_7, by decide +kernel⟩, wd_891, ws_76⟩
theorem wd_889 : Cond.methodLink RX6 80 yX6_isAsked ∈ TB := TB_m 889 (by decide +kernel) (by decide +kernel)
theorem wd_908 : Cond.code yX6_left cX6_left 2 (some .int) ∈ TB := TB_m 908 (by decide +kernel) (by decide +kernel)
theorem wd_907 : Cond.instanceMethod yX6_left ∈ TB := TB_m 907 (by decide +kernel) (by decide +kernel)
theorem ws_80 : Cond.selects yX6_left.cls yX6_left yX6_left ∈ TB := TB_s (q := (yX6_left, 12)) 80 (by decide +kernel) (by decide +kernel)
theorem ky_X6_left : KYV yX6_left cX6_left 2 (some .int) 1 := ⟨⟨wd_908, wd_7, by decide +kernel⟩, wd_907, ws_80⟩
theorem wd_905 : Cond.methodLink RX6 95 yX6_left ∈ TB := TB_m 905 (by decide +kernel) (by decide +kernel)
theorem wd_948 : Cond.code yX6_bound cX6_bound 2 (some .int) ∈ TB := TB_m 948 (by decide +kernel) (by decide +kernel)
theorem wd_947 : Cond.instanceMethod yX6_bound ∈ TB := TB_m 947 (by decide +kernel) (by decide +kernel)
theorem ws_90 : Cond.selects yX6_bound.cls yX6_bound yX6_bound ∈ TB := TB_s (q := (yX6_bound, 12)) 90 (by decide +kernel) (by decide +kernel)
theorem ky_X6_bound : KYV yX6_bound cX6_bound 2 (some .int) 1 := ⟨⟨wd_948, wd_7, by decide +kernel⟩, wd_947, ws_90⟩
theorem wd_945 : Cond.methodLink RX6 98 yX6_bound ∈ TB := TB_m 945 (by decide +kernel) (by decide +kernel)
theorem wd_944 : Cond.code yX6_toldBound cX6_toldBound 4 (some .int) ∈ TB := TB_m 944 (by decide +kernel) (by decide +kernel)
theorem wd_943 : Cond.instanceMethod yX6_toldBound ∈ TB := TB_m 943 (by decide +kernel) (by decide +kernel)
theorem ws_89 : Cond.selects yX6_toldBound.cls yX6_toldBound yX6_toldBound ∈ TB := TB_s (q := (yX6_toldBound, 12)) 89 (by decide +kernel) (by decide +kernel)
theorem ky_X6_toldBound : KYV yX6_toldBound cX6_toldBound 4 (some .int) 1 := ⟨⟨wd_944, wd_7, by decide +kernel⟩, wd_943, ws_89⟩
theorem wd_941 : Cond.methodLink RX6 101 yX6_toldBound ∈ TB := TB_m 941 (by decide +kernel) (by decide +kernel)
theorem wd_735 : Cond.fieldLink RX6 22 (TX6 4).1 (TX6 4).2.1 (TX6 4).2.2.1 ∈ TB := TB_m 735 (by decide +kernel) (by decide +kernel)
theorem wd_916 : Cond.code yX6_isSeen cX6_isSeen 2 (some .boolean) ∈ TB := TB_m 916 (by decide +kernel) (by decide +kernel)
theorem wd_915 : Cond.instanceMethod yX6_isSeen ∈ TB := TB_m 915 (by decide +kernel) (by decide +kernel)
theorem ws_82 : Cond.selects yX6_isSeen.cls yX6_isSeen yX6_isSeen ∈ TB := TB_s (q := (yX6_isSeen, 12)) 82 (by decide +kernel) (by decide +kernel)
theorem ky_X6_isSeen : KYV yX6_isSeen cX6_isSeen 2 (some .boolean) 1 := ⟨⟨wd_916, wd_7, by decide +kernel⟩, wd_915, ws_82⟩
theorem wd_913 : Cond.methodLink RX6 108 yX6_isSeen ∈ TB := TB_m 913 (by decide +kernel) (by decide +kernel)
theorem wd_936 : Cond.code yX6_frontPlace cX6_frontPlace 6 (some .int) ∈ TB := TB_m 936 (by decide +kernel) (by decide +kernel)
theorem wd_935 : Cond.instanceMethod yX6_frontPlace ∈ TB := TB_m 935 (by decide +kernel) (by decide +kernel)
theorem ws_87 : Cond.selects yX6_frontPlace.cls yX6_frontPlace yX6_frontPlace ∈ TB := TB_s (q := (yX6_frontPlace, 12)) 87 (by decide +kernel) (by decide +kernel)
theorem ky_X6_frontPlace : KYV yX6_frontPlace cX6_frontPlace 6 (some .int) 1 := ⟨⟨wd_936, wd_7, by decide +kernel⟩, wd_935, ws_87⟩
theorem wd_933 : Cond.methodLink RX6 117 yX6_frontPlace ∈ TB := TB_m 933 (by decide +kernel) (by decide +kernel)
theorem wd_928 : Cond.code yX6_isKnown cX6_isKnown 3 (some .boolean) ∈ TB := TB_m 928 (by decide +kernel) (by decide +kernel)
theorem wd_927 : Cond.instanceMethod yX6_isKnown ∈ TB := TB_m 927 (by decide +kernel) (by decide +kernel)
theorem ws_85 : Cond.selects yX6_isKnown.cls yX6_isKnown yX6_isKnown ∈ TB := TB_s (q := (yX6_isKnown, 12)) 85 (by decide +kernel) (by decide +kernel)
theorem ky_X6_isKnown : KYV yX6_isKnown cX6_isKnown 3 (some .boolean) 2 := ⟨⟨wd_928, wd_7, by decide +kernel⟩, wd_927, ws_85⟩
theorem wd_925 : Cond.methodLink RX6 104 yX6_isKnown ∈ TB := TB_m 925 (by decide +kernel) (by decide +kernel)
theorem wd_868 : Cond.code yX6_scoreOf cX6_scoreOf 4 (some .int) ∈ TB := TB_m 868 (by decide +kernel) (by decide +kernel)
theorem wd_867 : Cond.instanceMethod yX6_scoreOf ∈ TB := TB_m 867 (by decide +kernel) (by decide +kernel)
theorem ws_74 : Cond.selects yX6_scoreOf.cls yX6_scoreOf yX6_scoreOf ∈ TB := TB_s (q := (yX6_scoreOf, 12)) 74 (by decide +kernel) (by decide +kernel)
theorem ky_X6_scoreOf : KYV yX6_scoreOf cX6_scoreOf 4 (some .int) 2 := ⟨⟨wd_868, wd_7, by decide +kernel⟩, wd_867, ws_74⟩
theorem wd_865 : Cond.methodLink RX6 83 yX6_scoreOf ∈ TB := TB_m 865 (by decide +kernel) (by decide +kernel)
theorem wd_924 : Cond.code yX6_low cX6_low 4 (some .int) ∈ TB := TB_m 924 (by decide +kernel) (by decide +kernel)
theorem wd_923 : Cond.instanceMethod yX6_low ∈ TB := TB_m 923 (by decide +kernel) (by decide +kernel)
theorem ws_84 : Cond.selects yX6_low.cls yX6_low yX6_low ∈ TB := TB_s (q := (yX6_low, 12)) 84 (by decide +kernel) (by decide +kernel)
theorem ky_X6_low : KYV yX6_low cX6_low 4 (some .int) 1 := ⟨⟨wd_924, wd_7, by decide +kernel⟩, wd_923, ws_84⟩
theorem wd_921 : Cond.methodLink RX6 111 yX6_low ∈ TB := TB_m 921 (by decide +kernel) (by decide +kernel)
theorem wd_912 : Cond.code yX6_seenMany cX6_seenMany 3 (some .int) ∈ TB := TB_m 912 (by decide +kernel) (by decide +kernel)
theorem wd_911 : Cond.instanceMethod yX6_seenMany ∈ TB := TB_m 911 (by decide +kernel) (by decide +kernel)
theorem ws_81 : Cond.selects yX6_seenMany.cls yX6_seenMany yX6_seenMany ∈ TB := TB_s (q := (yX6_seenMany, 12)) 81 (by decide +kernel) (by decide +kernel)
theorem ky_X6_seenMany : KYV yX6_seenMany cX6_seenMany 3 (some .int) 0 := ⟨⟨wd_912, wd_7, by decide +kernel⟩, wd_911, ws_81⟩
theorem wd_909 : Cond.methodLink RX6 114 yX6_seenMany ∈ TB := TB_m 909 (by decide +kernel) (by decide +kernel)
theorem wd_920 : Cond.code yX6_reckon cX6_reckon 2 none ∈ TB := TB_m 920 (by decide +kernel) (by decide +kernel)
theorem wd_919 : Cond.instanceMethod yX6_reckon ∈ TB := TB_m 919 (by decide +kernel) (by decide +kernel)
theorem ws_83 : Cond.selects yX6_reckon.cls yX6_reckon yX6_reckon ∈ TB := TB_s (q := (yX6_reckon, 12)) 83 (by decide +kernel) (by decide +kernel)
theorem ky_X6_reckon : KYV yX6_reckon cX6_reckon 2 none 0 := ⟨⟨wd_920, wd_7, by decide +kernel⟩, wd_919, ws_83⟩
theorem wd_917 : Cond.methodLink RX6 123 yX6_reckon ∈ TB := TB_m 917 (by decide +kernel) (by decide +kernel)
theorem wd_932 : Cond.code yX6_frontAt cX6_frontAt 4 (some .int) ∈ TB := TB_m 932 (by decide +kernel) (by decide +kernel)
theorem wd_931 : Cond.instanceMethod yX6_frontAt ∈ TB := TB_m 931 (by decide +kernel) (by decide +kernel)
theorem ws_86 : Cond.selects yX6_frontAt.cls yX6_frontAt yX6_frontAt ∈ TB := TB_s (q := (yX6_frontAt, 12)) 86 (by decide +kernel) (by decide +kernel)
theorem ky_X6_frontAt : KYV yX6_frontAt cX6_frontAt 4 (some .int) 1 := ⟨⟨wd_932, wd_7, by decide +kernel⟩, wd_931, ws_86⟩
theorem wd_929 : Cond.methodLink RX6 126 yX6_frontAt ∈ TB := TB_m 929 (by decide +kernel) (by decide +kernel)
theorem wd_940 : Cond.code yX6_boundsTogether cX6_boundsTogether 3 (some .int) ∈ TB := TB_m 940 (by decide +kernel) (by decide +kernel)
theorem wd_939 : Cond.instanceMethod yX6_boundsTogether ∈ TB := TB_m 939 (by decide +kernel) (by decide +kernel)
theorem ws_88 : Cond.selects yX6_boundsTogether.cls yX6_boundsTogether yX6_boundsTogether ∈ TB := TB_s (q := (yX6_boundsTogether, 12)) 88 (by decide +kernel) (by decide +kernel)
theorem ky_X6_boundsTogether : KYV yX6_boundsTogether cX6_boundsTogether 3 (some .int) 0 := ⟨⟨wd_940, wd_7, by decide +kernel⟩, wd_939, ws_88⟩
theorem wd_937 : Cond.methodLink RX6 129 yX6_boundsTogether ∈ TB := TB_m 937 (by decide +kernel) (by decide +kernel)
theorem wd_952 : Cond.code yX6_high cX6_high 4 (some .int) ∈ TB := TB_m 952 (by decide +kernel) (by decide +kernel)
theorem wd_951 : Cond.instanceMethod yX6_high ∈ TB := TB_m 951 (by decide +kernel) (by decide +kernel)
theorem ws_91 : Cond.selects yX6_high.cls yX6_high yX6_high ∈ TB := TB_s (q := (yX6_high, 12)) 91 (by decide +kernel) (by decide +kernel)
theorem ky_X6_high : KYV yX6_high cX6_high 4 (some .int) 1 := ⟨⟨wd_952, wd_7, by decide +kernel⟩, wd_951, ws_91⟩
theorem wd_949 : Cond.methodLink RX6 132 yX6_high ∈ TB := TB_m 949 (by decide +kernel) (by decide +kernel)
theorem wd_904 : Cond.code yX6_canBeRead cX6_canBeRead 2 (some .boolean) ∈ TB := TB_m 904 (by decide +kernel) (by decide +kernel)
theorem wd_903 : Cond.instanceMethod yX6_canBeRead ∈ TB := TB_m 903 (by decide +kernel) (by decide +kernel)
theorem ws_79 : Cond.selects yX6_canBeRead.cls yX6_canBeRead yX6_canBeRead ∈ TB := TB_s (q := (yX6_canBeRead, 12)) 79 (by decide +kernel) (by decide +kernel)
theorem ky_X6_canBeRead : KYV yX6_canBeRead cX6_canBeRead 2 (some .boolean) 1 := ⟨⟨wd_904, wd_7, by decide +kernel⟩, wd_903, ws_79⟩
theorem wd_901 : Cond.methodLink RX6 120 yX6_canBeRead ∈ TB := TB_m 901 (by decide +kernel) (by decide +kernel)
theorem wd_900 : Cond.code yX6_isOver cX6_isOver 7 (some .boolean) ∈ TB := TB_m 900 (by decide +kernel) (by decide +kernel)
theorem wd_899 : Cond.instanceMethod yX6_isOver ∈ TB := TB_m 899 (by decide +kernel) (by decide +kernel)
theorem ws_78 : Cond.selects yX6_isOver.cls yX6_isOver yX6_isOver ∈ TB := TB_s (q := (yX6_isOver, 12)) 78 (by decide +kernel) (by decide +kernel)
theorem ky_X6_isOver : KYV yX6_isOver cX6_isOver 7 (some .boolean) 0 := ⟨⟨wd_900, wd_7, by decide +kernel⟩, wd_899, ws_78⟩
theorem wd_897 : Cond.methodLink RX6 138 yX6_isOver ∈ TB := TB_m 897 (by decide +kernel) (by decide +kernel)
theorem wd_888 : Cond.code yX6_asked cX6_asked 3 (some .int) ∈ TB := TB_m 888 (by decide +kernel) (by decide +kernel)
theorem wd_887 : Cond.instanceMethod yX6_asked ∈ TB := TB_m 887 (by decide +kernel) (by decide +kernel)
theorem ws_75 : Cond.selects yX6_asked.cls yX6_asked yX6_asked ∈ TB := TB_s (q := (yX6_asked, 12)) 75 (by decide +kernel) (by decide +kernel)
theorem ky_X6_asked : KYV yX6_asked cX6_asked 3 (some .int) 0 := ⟨⟨wd_888, wd_7, by decide +kernel⟩, wd_887, ws_75⟩
theorem wd_885 : Cond.methodLink RX6 148 yX6_asked ∈ TB := TB_m 885 (by decide +kernel) (by decide +kernel)
theorem wd_896 : Cond.code yX6_startReading cX6_startReading 4 none ∈ TB := TB_m 896 (by decide +kernel) (by decide +kernel)
theorem wd_895 : Cond.instanceMethod yX6_startReading ∈ TB := TB_m 895 (by decide +kernel) (by decide +kernel)
theorem ws_77 : Cond.selects yX6_startReading.cls yX6_startReading yX6_startReading ∈ TB := TB_s (q := (yX6_startReading, 12)) 77 (by decide +kernel) (by decide +kernel)
theorem ky_X6_startReading : KYV yX6_startReading cX6_startReading 4 none 2 := ⟨⟨wd_896, wd_7, by decide +kernel⟩, wd_895, ws_77⟩
theorem wd_893 : Cond.methodLink RX6 151 yX6_startReading ∈ TB := TB_m 893 (by decide +kernel) (by decide +kernel)
theorem wd_840 : Cond.code yX6_setOf cX6_setOf 6 (some .int) ∈ TB := TB_m 840 (by decide +kernel) (by decide +kernel)
theorem wd_839 : Cond.instanceMethod yX6_setOf ∈ TB := TB_m 839 (by decide +kernel) (by decide +kernel)
theorem ws_70 : Cond.selects yX6_setOf.cls yX6_setOf yX6_setOf ∈ TB := TB_s (q := (yX6_setOf, 12)) 70 (by decide +kernel) (by decide +kernel)
theorem ky_X6_setOf : KYV yX6_setOf cX6_setOf 6 (some .int) 4 := ⟨⟨wd_840, wd_7, by decide +kernel⟩, wd_839, ws_70⟩
theorem wd_837 : Cond.methodLink RX6 76 yX6_setOf ∈ TB := TB_m 837 (by decide +kernel) (by decide +kernel)
theorem wd_825 : Cond.code yX6_listsOf cX6_listsOf 4 (some .int) ∈ TB := TB_m 825 (by decide +kernel) (by decide +kernel)
theorem wd_824 : Cond.instanceMethod yX6_listsOf ∈ TB := TB_m 824 (by decide +kernel) (by decide +kernel)
theorem ws_69 : Cond.selects yX6_listsOf.cls yX6_listsOf yX6_listsOf ∈ TB := TB_s (q := (yX6_listsOf, 12)) 69 (by decide +kernel) (by decide +kernel)
theorem ky_X6_listsOf : KYV yX6_listsOf cX6_listsOf 4 (some .int) 1 := ⟨⟨wd_825, wd_7, by decide +kernel⟩, wd_824, ws_69⟩
theorem wd_822 : Cond.methodLink RX6 66 yX6_listsOf ∈ TB := TB_m 822 (by decide +kernel) (by decide +kernel)
theorem wd_828 : Cond.code yX6_bits cX6_bits 3 (some .int) ∈ TB := TB_m 828 (by decide +kernel) (by decide +kernel)
theorem wd_827 : Cond.static yX6_bits ∈ TB := TB_m 827 (by decide +kernel) (by decide +kernel)
theorem ky_X6_bits : KYS yX6_bits cX6_bits 3 (some .int) 1 := ⟨⟨wd_828, wd_7, by decide +kernel⟩, wd_827⟩
theorem wd_826 : Cond.methodLink RX6 70 yX6_bits ∈ TB := TB_m 826 (by decide +kernel) (by decide +kernel)
theorem wd_821 : Cond.code yX6_gone cX6_gone 3 (some .int) ∈ TB := TB_m 821 (by decide +kernel) (by decide +kernel)
theorem wd_820 : Cond.instanceMethod yX6_gone ∈ TB := TB_m 820 (by decide +kernel) (by decide +kernel)
theorem ws_68 : Cond.selects yX6_gone.cls yX6_gone yX6_gone ∈ TB := TB_s (q := (yX6_gone, 12)) 68 (by decide +kernel) (by decide +kernel)
theorem ky_X6_gone : KYV yX6_gone cX6_gone 3 (some .int) 2 := ⟨⟨wd_821, wd_7, by decide +kernel⟩, wd_820, ws_68⟩
theorem wd_818 : Cond.methodLink RX6 73 yX6_gone ∈ TB := TB_m 818 (by decide +kernel) (by decide +kernel)
theorem wd_1004 : Cond.code yX6_sumOf cX6_sumOf 4 (some .int) ∈ TB := TB_m 1004 (by decide +kernel) (by decide +kernel)
theorem wd_1003 : Cond.instanceMethod yX6_sumOf ∈ TB := TB_m 1003 (by decide +kernel) (by decide +kernel)
theorem ws_98 : Cond.selects yX6_sumOf.cls yX6_sumOf yX6_sumOf ∈ TB := TB_s (q := (yX6_sumOf, 12)) 98 (by decide +kernel) (by decide +kernel)
theorem ky_X6_sumOf : KYV yX6_sumOf cX6_sumOf 4 (some .int) 1 := ⟨⟨wd_1004, wd_7, by decide +kernel⟩, wd_1003, ws_98⟩
theorem wd_1001 : Cond.methodLink RX6 164 yX6_sumOf ∈ TB := TB_m 1001 (by decide +kernel) (by decide +kernel)
theorem wd_968 : Cond.code yX6_isChosenBefore cX6_isChosenBefore 3 (some .boolean) ∈ TB := TB_m 968 (by decide +kernel) (by decide +kernel)
theorem wd_967 : Cond.instanceMethod yX6_isChosenBefore ∈ TB := TB_m 967 (by decide +kernel) (by decide +kernel)
theorem ws_94 : Cond.selects yX6_isChosenBefore.cls yX6_isChosenBefore yX6_isChosenBefore ∈ TB := TB_s (q := (yX6_isChosenBefore, 12)) 94 (by decide +kernel) (by decide +kernel)
theorem ky_X6_isChosenBefore : KYV yX6_isChosenBefore cX6_isChosenBefore 3 (some .boolean) 2 := ⟨⟨wd_968, wd_7, by decide +kernel⟩, wd_967, ws_94⟩
theorem wd_965 : Cond.methodLink RX6 135 yX6_isChosenBefore ∈ TB := TB_m 965 (by decide +kernel) (by decide +kernel)
theorem wd_964 : Cond.code yX6_nextList cX6_nextList 4 (some .int) ∈ TB := TB_m 964 (by decide +kernel) (by decide +kernel)
theorem wd_963 : Cond.instanceMethod yX6_nextList ∈ TB := TB_m 963 (by decide +kernel) (by decide +kernel)
theorem ws_93 : Cond.selects yX6_nextList.cls yX6_nextList yX6_nextList ∈ TB := TB_s (q := (yX6_nextList, 12)) 93 (by decide +kernel) (by decide +kernel)
theorem ky_X6_nextList : KYV yX6_nextList cX6_nextList 4 (some .int) 0 := ⟨⟨wd_964, wd_7, by decide +kernel⟩, wd_963, ws_93⟩
theorem wd_961 : Cond.methodLink RX6 142 yX6_nextList ∈ TB := TB_m 961 (by decide +kernel) (by decide +kernel)
theorem wd_972 : Cond.code yX6_sees cX6_sees 5 none ∈ TB := TB_m 972 (by decide +kernel) (by decide +kernel)
theorem wd_971 : Cond.instanceMethod yX6_sees ∈ TB := TB_m 971 (by decide +kernel) (by decide +kernel)
theorem ws_95 : Cond.selects yX6_sees.cls yX6_sees yX6_sees ∈ TB := TB_s (q := (yX6_sees, 12)) 95 (by decide +kernel) (by decide +kernel)
theorem ky_X6_sees : KYV yX6_sees cX6_sees 5 none 2 := ⟨⟨wd_972, wd_7, by decide +kernel⟩, wd_971, ws_95⟩
theorem wd_969 : Cond.methodLink RX6 145 yX6_sees ∈ TB := TB_m 969 (by decide +kernel) (by decide +kernel)
theorem wd_864 : Cond.code yX6_value cX6_value 4 (some .int) ∈ TB := TB_m 864 (by decide +kernel) (by decide +kernel)
theorem wd_863 : Cond.instanceMethod yX6_value ∈ TB := TB_m 863 (by decide +kernel) (by decide +kernel)
theorem ws_73 : Cond.selects yX6_value.cls yX6_value yX6_value ∈ TB := TB_s (q := (yX6_value, 12)) 73 (by decide +kernel) (by decide +kernel)
theorem ky_X6_value : KYV yX6_value cX6_value 4 (some .int) 1 := ⟨⟨wd_864, wd_7, by decide +kernel⟩, wd_863, ws_73⟩
theorem wd_861 : Cond.methodLink RX6 86 yX6_value ∈ TB := TB_m 861 (by decide +kernel) (by decide +kernel)
theorem wd_860 : Cond.code yX6_mayBeWanted cX6_mayBeWanted 2 (some .boolean) ∈ TB := TB_m 860 (by decide +kernel) (by decide +kernel)
theorem wd_859 : Cond.instanceMethod yX6_mayBeWanted ∈ TB := TB_m 859 (by decide +kernel) (by decide +kernel)
theorem ws_72 : Cond.selects yX6_mayBeWanted.cls yX6_mayBeWanted yX6_mayBeWanted ∈ TB := TB_s (q := (yX6_mayBeWanted, 12)) 72 (by decide +kernel) (by decide +kernel)
theorem ky_X6_mayBeWanted : KYV yX6_mayBeWanted cX6_mayBeWanted 2 (some .boolean) 1 := ⟨⟨wd_860, wd_7, by decide +kernel⟩, wd_859, ws_72⟩
theorem wd_857 : Cond.methodLink RX6 89 yX6_mayBeWanted ∈ TB := TB_m 857 (by decide +kernel) (by decide +kernel)
theorem wd_856 : Cond.code yX6_wantedPlace cX6_wantedPlace 6 (some .int) ∈ TB := TB_m 856 (by decide +kernel) (by decide +kernel)
theorem wd_855 : Cond.instanceMethod yX6_wantedPlace ∈ TB := TB_m 855 (by decide +kernel) (by decide +kernel)
theorem ws_71 : Cond.selects yX6_wantedPlace.cls yX6_wantedPlace yX6_wantedPlace ∈ TB := TB_s (q := (yX6_wantedPlace, 12)) 71 (by decide +kernel) (by decide +kernel)
theorem ky_X6_wantedPlace : KYV yX6_wantedPlace cX6_wantedPlace 6 (some .int) 1 := ⟨⟨wd_856, wd_7, by decide +kernel⟩, wd_855, ws_71⟩
theorem wd_853 : Cond.methodLink RX6 92 yX6_wantedPlace ∈ TB := TB_m 853 (by decide +kernel) (by decide +kernel)
theorem wd_734 : Cond.fieldLink RX6 19 (TX6 3).1 (TX6 3).2.1 (TX6 3).2.2.1 ∈ TB := TB_m 734 (by decide +kernel) (by decide +kernel)
theorem wd_1012 : Cond.code yX6_toldNotWanted cX6_toldNotWanted 4 (some .int) ∈ TB := TB_m 1012 (by decide +kernel) (by decide +kernel)
theorem wd_1011 : Cond.instanceMethod yX6_toldNotWanted ∈ TB := TB_m 1011 (by decide +kernel) (by decide +kernel)
theorem ws_100 : Cond.selects yX6_toldNotWanted.cls yX6_toldNotWanted yX6_toldNotWanted ∈ TB := TB_s (q := (yX6_toldNotWanted, 12)) 100 (by decide +kernel) (by decide +kernel)
theorem ky_X6_toldNotWanted : KYV yX6_toldNotWanted cX6_toldNotWanted 4 (some .int) 0 := ⟨⟨wd_1012, wd_7, by decide +kernel⟩, wd_1011, ws_100⟩
theorem wd_1009 : Cond.methodLink RX6 170 yX6_toldNotWanted ∈ TB := TB_m 1009 (by decide +kernel) (by decide +kernel)
theorem wd_1008 : Cond.code yX6_cost cX6_cost 1 (some .int) ∈ TB := TB_m 1008 (by decide +kernel) (by decide +kernel)
theorem wd_1007 : Cond.instanceMethod yX6_cost ∈ TB := TB_m 1007 (by decide +kernel) (by decide +kernel)
theorem ws_99 : Cond.selects yX6_cost.cls yX6_cost yX6_cost ∈ TB := TB_s (q := (yX6_cost, 12)) 99 (by decide +kernel) (by decide +kernel)
theorem ky_X6_cost : KYV yX6_cost cX6_cost 1 (some .int) 0 := ⟨⟨wd_1008, wd_7, by decide +kernel⟩, wd_1007, ws_99⟩
theorem wd_1005 : Cond.methodLink RX6 167 yX6_cost ∈ TB := TB_m 1005 (by decide +kernel) (by decide +kernel)
theorem wd_960 : Cond.code yX6_oneStep cX6_oneStep 3 none ∈ TB := TB_m 960 (by decide +kernel) (by decide +kernel)
theorem wd_959 : Cond.instanceMethod yX6_oneStep ∈ TB := TB_m 959 (by decide +kernel) (by decide +kernel)
theorem ws_92 : Cond.selects yX6_oneStep.cls yX6_oneStep yX6_oneStep ∈ TB := TB_s (q := (yX6_oneStep, 12)) 92 (by decide +kernel) (by decide +kernel)
theorem ky_X6_oneStep : KYV yX6_oneStep cX6_oneStep 3 none 0 := ⟨⟨wd_960, wd_7, by decide +kernel⟩, wd_959, ws_92⟩
theorem wd_957 : Cond.methodLink RX6 155 yX6_oneStep ∈ TB := TB_m 957 (by decide +kernel) (by decide +kernel)
theorem wd_1024 : Cond.code yX6_tried cX6_tried 6 (some .int) ∈ TB := TB_m 1024 (by decide +kernel) (by decide +kernel)
theorem wd_1023 : Cond.instanceMethod yX6_tried ∈ TB := TB_m 1023 (by decide +kernel) (by decide +kernel)
theorem ws_102 : Cond.selects yX6_tried.cls yX6_tried yX6_tried ∈ TB := TB_s (q := (yX6_tried, 12)) 102 (by decide +kernel) (by decide +kernel)
theorem ky_X6_tried : KYV yX6_tried cX6_tried 6 (some .int) 3 := ⟨⟨wd_1024, wd_7, by decide +kernel⟩, wd_1023, ws_102⟩
theorem wd_1021 : Cond.methodLink RX6 176 yX6_tried ∈ TB := TB_m 1021 (by decide +kernel) (by decide +kernel)
theorem wd_739 : Cond.fieldLink RX6 183 (TX6 8).1 (TX6 8).2.1 (TX6 8).2.2.1 ∈ TB := TB_m 739 (by decide +kernel) (by decide +kernel)
theorem wd_779 : Cond.code yX6_entries cX6_entries 3 (some .int) ∈ TB := TB_m 779 (by decide +kernel) (by decide +kernel)
theorem wd_778 : Cond.instanceMethod yX6_entries ∈ TB := TB_m 778 (by decide +kernel) (by decide +kernel)
theorem ws_63 : Cond.selects yX6_entries.cls yX6_entries yX6_entries ∈ TB := TB_s (q := (yX6_entries, 12)) 63 (by decide +kernel) (by decide +kernel)
theorem ky_X6_entries : KYV yX6_entries cX6_entries 3 (some .int) 0 := ⟨⟨wd_779, wd_7, by decide +kernel⟩, wd_778, ws_63⟩
theorem wd_776 : Cond.methodLink RX6 40 yX6_entries ∈ TB := TB_m 776 (by decide +kernel) (by decide +kernel)
theorem wd_1036 : Cond.code yX6_wantedMany cX6_wantedMany 3 (some .int) ∈ TB := TB_m 1036 (by decide +kernel) (by decide +kernel)
theorem wd_1035 : Cond.instanceMethod yX6_wantedMany ∈ TB := TB_m 1035 (by decide +kernel) (by decide +kernel)
theorem ws_103 : Cond.selects yX6_wantedMany.cls yX6_wantedMany yX6_wantedMany ∈ TB := TB_s (q := (yX6_wantedMany, 12)) 103 (by decide +kernel) (by decide +kernel)
theorem ky_X6_wantedMany : KYV yX6_wantedMany cX6_wantedMany 3 (some .int) 0 := ⟨⟨wd_1036, wd_7, by decide +kernel⟩, wd_1035, ws_103⟩
theorem wd_1033 : Cond.methodLink RX6 180 yX6_wantedMany ∈ TB := TB_m 1033 (by decide +kernel) (by decide +kernel)
theorem wd_742 : Cond.fieldLink RX6 29 (TX6 11).1 (TX6 11).2.1 (TX6 11).2.2.1 ∈ TB := TB_m 742 (by decide +kernel) (by decide +kernel)
theorem wd_791 : Cond.code yX6_add cX6_add 5 (some .int) ∈ TB := TB_m 791 (by decide +kernel) (by decide +kernel)
theorem wd_789 : Cond.instanceMethod yX6_add ∈ TB := TB_m 789 (by decide +kernel) (by decide +kernel)
theorem wd_790 : Cond.selects yX6_add.cls yX6_add yX6_add ∈ TB := TB_m 790 (by decide +kernel) (by decide +kernel)
theorem ky_X6_add : KYV yX6_add cX6_add 5 (some .int) 3 := ⟨⟨wd_791, wd_7, by decide +kernel⟩, wd_789, wd_790⟩
theorem wd_1075 : Cond.methodLink RX6 215 yX6_add ∈ TB := TB_m 1075 (by decide +kernel) (by decide +kernel)
theorem wd_813 : Cond.code yX6_drop cX6_drop 4 (some .int) ∈ TB := TB_m 813 (by decide +kernel) (by decide +kernel)
theorem wd_811 : Cond.instanceMethod yX6_drop ∈ TB := TB_m 811 (by decide +kernel) (by decide +kernel)
theorem wd_812 : Cond.selects yX6_drop.cls yX6_drop yX6_drop ∈ TB := TB_m 812 (by decide +kernel) (by decide +kernel)
theorem ky_X6_drop : KYV yX6_drop cX6_drop 4 (some .int) 2 := ⟨⟨wd_813, wd_7, by decide +kernel⟩, wd_811, wd_812⟩
theorem wd_1076 : Cond.methodLink RX6 218 yX6_drop ∈ TB := TB_m 1076 (by decide +kernel) (by decide +kernel)
theorem wd_836 : Cond.code yX6_weight cX6_weight 3 (some .int) ∈ TB := TB_m 836 (by decide +kernel) (by decide +kernel)
theorem wd_834 : Cond.instanceMethod yX6_weight ∈ TB := TB_m 834 (by decide +kernel) (by decide +kernel)
theorem wd_835 : Cond.selects yX6_weight.cls yX6_weight yX6_weight ∈ TB := TB_m 835 (by decide +kernel) (by decide +kernel)
theorem ky_X6_weight : KYV yX6_weight cX6_weight 3 (some .int) 2 := ⟨⟨wd_836, wd_7, by decide +kernel⟩, wd_834, wd_835⟩
theorem wd_1077 : Cond.methodLink RX6 221 yX6_weight ∈ TB := TB_m 1077 (by decide +kernel) (by decide +kernel)
theorem wd_844 : Cond.code yX6_bribe cX6_bribe 3 (some .int) ∈ TB := TB_m 844 (by decide +kernel) (by decide +kernel)
theorem wd_842 : Cond.instanceMethod yX6_bribe ∈ TB := TB_m 842 (by decide +kernel) (by decide +kernel)
theorem wd_843 : Cond.selects yX6_bribe.cls yX6_bribe yX6_bribe ∈ TB := TB_m 843 (by decide +kernel) (by decide +kernel)
theorem ky_X6_bribe : KYV yX6_bribe cX6_bribe 3 (some .int) 2 := ⟨⟨wd_844, wd_7, by decide +kernel⟩, wd_842, wd_843⟩
theorem wd_1078 : Cond.methodLink RX6 224 yX6_bribe ∈ TB := TB_m 1078 (by decide +kernel) (by decide +kernel)
theorem wd_817 : Cond.code yX6_delete cX6_delete 2 (some .int) ∈ TB := TB_m 817 (by decide +kernel) (by decide +kernel)
theorem wd_815 : Cond.instanceMethod yX6_delete ∈ TB := TB_m 815 (by decide +kernel) (by decide +kernel)
theorem wd_816 : Cond.selects yX6_delete.cls yX6_delete yX6_delete ∈ TB := TB_m 816 (by decide +kernel) (by decide +kernel)
theorem ky_X6_delete : KYV yX6_delete cX6_delete 2 (some .int) 1 := ⟨⟨wd_817, wd_7, by decide +kernel⟩, wd_815, wd_816⟩
theorem wd_1079 : Cond.methodLink RX6 227 yX6_delete ∈ TB := TB_m 1079 (by decide +kernel) (by decide +kernel)
theorem wd_832 : Cond.code yX6_bring cX6_bring 2 (some .int) ∈ TB := TB_m 832 (by decide +kernel) (by decide +kernel)
theorem wd_830 : Cond.instanceMethod yX6_bring ∈ TB := TB_m 830 (by decide +kernel) (by decide +kernel)
theorem wd_831 : Cond.selects yX6_bring.cls yX6_bring yX6_bring ∈ TB := TB_m 831 (by decide +kernel) (by decide +kernel)
theorem ky_X6_bring : KYV yX6_bring cX6_bring 2 (some .int) 1 := ⟨⟨wd_832, wd_7, by decide +kernel⟩, wd_830, wd_831⟩
theorem wd_1080 : Cond.methodLink RX6 230 yX6_bring ∈ TB := TB_m 1080 (by decide +kernel) (by decide +kernel)
theorem wd_848 : Cond.code yX6_want cX6_want 3 (some .int) ∈ TB := TB_m 848 (by decide +kernel) (by decide +kernel)
theorem wd_846 : Cond.instanceMethod yX6_want ∈ TB := TB_m 846 (by decide +kernel) (by decide +kernel)
theorem wd_847 : Cond.selects yX6_want.cls yX6_want yX6_want ∈ TB := TB_m 847 (by decide +kernel) (by decide +kernel)
theorem ky_X6_want : KYV yX6_want cX6_want 3 (some .int) 1 := ⟨⟨wd_848, wd_7, by decide +kernel⟩, wd_846, wd_847⟩
theorem wd_1081 : Cond.methodLink RX6 233 yX6_want ∈ TB := TB_m 1081 (by decide +kernel) (by decide +kernel)
theorem wd_980 : Cond.code yX6_toldMany cX6_toldMany 2 (some .int) ∈ TB := TB_m 980 (by decide +kernel) (by decide +kernel)
theorem wd_979 : Cond.instanceMethod yX6_toldMany ∈ TB := TB_m 979 (by decide +kernel) (by decide +kernel)
theorem ws_96 : Cond.selects yX6_toldMany.cls yX6_toldMany yX6_toldMany ∈ TB := TB_s (q := (yX6_toldMany, 12)) 96 (by decide +kernel) (by decide +kernel)
theorem ky_X6_toldMany : KYV yX6_toldMany cX6_toldMany 2 (some .int) 0 := ⟨⟨wd_980, wd_7, by decide +kernel⟩, wd_979, ws_96⟩
theorem wd_977 : Cond.methodLink RX6 158 yX6_toldMany ∈ TB := TB_m 977 (by decide +kernel) (by decide +kernel)
theorem wd_738 : Cond.fieldLink RX6 25 (TX6 7).1 (TX6 7).2.1 (TX6 7).2.2.1 ∈ TB := TB_m 738 (by decide +kernel) (by decide +kernel)
theorem wd_1059 : Cond.code yX6_spells cX6_spells 5 (some .boolean) ∈ TB := TB_m 1059 (by decide +kernel) (by decide +kernel)
theorem wd_1058 : Cond.instanceMethod yX6_spells ∈ TB := TB_m 1058 (by decide +kernel) (by decide +kernel)
theorem ws_105 : Cond.selects yX6_spells.cls yX6_spells yX6_spells ∈ TB := TB_s (q := (yX6_spells, 12)) 105 (by decide +kernel) (by decide +kernel)
theorem ky_X6_spells : KYV yX6_spells cX6_spells 5 (some .boolean) 4 := ⟨⟨wd_1059, wd_7, by decide +kernel⟩, wd_1058, ws_105⟩
theorem wd_1056 : Cond.methodLink RX6 186 yX6_spells ∈ TB := TB_m 1056 (by decide +kernel) (by decide +kernel)
theorem wd_737 : Cond.fieldLink RX6 36 (TX6 6).1 (TX6 6).2.1 (TX6 6).2.2.1 ∈ TB := TB_m 737 (by decide +kernel) (by decide +kernel)
theorem wd_733 : Cond.fieldLink RX6 16 (TX6 2).1 (TX6 2).2.1 (TX6 2).2.2.1 ∈ TB := TB_m 733 (by decide +kernel) (by decide +kernel)
theorem wd_740 : Cond.fieldLink RX6 190 (TX6 9).1 (TX6 9).2.1 (TX6 9).2.2.1 ∈ TB := TB_m 740 (by decide +kernel) (by decide +kernel)
theorem wd_1067 : Cond.code yX6_letter cX6_letter 2 (some .int) ∈ TB := TB_m 1067 (by decide +kernel) (by decide +kernel)
theorem wd_1066 : Cond.instanceMethod yX6_letter ∈ TB := TB_m 1066 (by decide +kernel) (by decide +kernel)
theorem ws_107 : Cond.selects yX6_letter.cls yX6_letter yX6_letter ∈ TB := TB_s (q := (yX6_letter, 12)) 107 (by decide +kernel) (by decide +kernel)
theorem ky_X6_letter : KYV yX6_letter cX6_letter 2 (some .int) 1 := ⟨⟨wd_1067, wd_7, by decide +kernel⟩, wd_1066, ws_107⟩
theorem wd_1064 : Cond.methodLink RX6 193 yX6_letter ∈ TB := TB_m 1064 (by decide +kernel) (by decide +kernel)
theorem wd_741 : Cond.fieldLink RX6 196 (TX6 10).1 (TX6 10).2.1 (TX6 10).2.2.1 ∈ TB := TB_m 741 (by decide +kernel) (by decide +kernel)
theorem wd_1070 : Cond.code yX6_isDigit cX6_isDigit 1 (some .boolean) ∈ TB := TB_m 1070 (by decide +kernel) (by decide +kernel)
theorem wd_1069 : Cond.static yX6_isDigit ∈ TB := TB_m 1069 (by decide +kernel) (by decide +kernel)
theorem ky_X6_isDigit : KYS yX6_isDigit cX6_isDigit 1 (some .boolean) 1 := ⟨⟨wd_1070, wd_7, by decide +kernel⟩, wd_1069⟩
theorem wd_1068 : Cond.methodLink RX6 199 yX6_isDigit ∈ TB := TB_m 1068 (by decide +kernel) (by decide +kernel)
theorem wd_1074 : Cond.code yX6_does cX6_does 2 (some .int) ∈ TB := TB_m 1074 (by decide +kernel) (by decide +kernel)
theorem wd_1073 : Cond.instanceMethod yX6_does ∈ TB := TB_m 1073 (by decide +kernel) (by decide +kernel)
theorem ws_108 : Cond.selects yX6_does.cls yX6_does yX6_does ∈ TB := TB_s (q := (yX6_does, 12)) 108 (by decide +kernel) (by decide +kernel)
theorem ky_X6_does : KYV yX6_does cX6_does 2 (some .int) 1 := ⟨⟨wd_1074, wd_7, by decide +kernel⟩, wd_1073, ws_108⟩
theorem wd_1071 : Cond.methodLink RX6 212 yX6_does ∈ TB := TB_m 1071 (by decide +kernel) (by decide +kernel)
theorem wd_1063 : Cond.code yX6_readNumber cX6_readNumber 5 none ∈ TB := TB_m 1063 (by decide +kernel) (by decide +kernel)
theorem wd_1062 : Cond.instanceMethod yX6_readNumber ∈ TB := TB_m 1062 (by decide +kernel) (by decide +kernel)
theorem ws_106 : Cond.selects yX6_readNumber.cls yX6_readNumber yX6_readNumber ∈ TB := TB_s (q := (yX6_readNumber, 12)) 106 (by decide +kernel) (by decide +kernel)
theorem ky_X6_readNumber : KYV yX6_readNumber cX6_readNumber 5 none 1 := ⟨⟨wd_1063, wd_7, by decide +kernel⟩, wd_1062, ws_106⟩
theorem wd_1060 : Cond.methodLink RX6 208 yX6_readNumber ∈ TB := TB_m 1060 (by decide +kernel) (by decide +kernel)
theorem wd_1055 : Cond.code yX6_isWord cX6_isWord 3 (some .boolean) ∈ TB := TB_m 1055 (by decide +kernel) (by decide +kernel)
theorem wd_1054 : Cond.instanceMethod yX6_isWord ∈ TB := TB_m 1054 (by decide +kernel) (by decide +kernel)
theorem ws_104 : Cond.selects yX6_isWord.cls yX6_isWord yX6_isWord ∈ TB := TB_s (q := (yX6_isWord, 12)) 104 (by decide +kernel) (by decide +kernel)
theorem ky_X6_isWord : KYV yX6_isWord cX6_isWord 3 (some .boolean) 2 := ⟨⟨wd_1055, wd_7, by decide +kernel⟩, wd_1054, ws_104⟩
theorem wd_1052 : Cond.methodLink RX6 205 yX6_isWord ∈ TB := TB_m 1052 (by decide +kernel) (by decide +kernel)
theorem wd_1051 : Cond.code yX6_isSmall cX6_isSmall 1 (some .boolean) ∈ TB := TB_m 1051 (by decide +kernel) (by decide +kernel)
theorem wd_1050 : Cond.static yX6_isSmall ∈ TB := TB_m 1050 (by decide +kernel) (by decide +kernel)
theorem ky_X6_isSmall : KYS yX6_isSmall cX6_isSmall 1 (some .boolean) 1 := ⟨⟨wd_1051, wd_7, by decide +kernel⟩, wd_1050⟩
theorem wd_1049 : Cond.methodLink RX6 202 yX6_isSmall ∈ TB := TB_m 1049 (by decide +kernel) (by decide +kernel)
theorem wd_1016 : Cond.code yX6_tellLess cX6_tellLess 3 (some .int) ∈ TB := TB_m 1016 (by decide +kernel) (by decide +kernel)
theorem wd_1015 : Cond.instanceMethod yX6_tellLess ∈ TB := TB_m 1015 (by decide +kernel) (by decide +kernel)
theorem ws_101 : Cond.selects yX6_tellLess.cls yX6_tellLess yX6_tellLess ∈ TB := TB_s (q := (yX6_tellLess, 12)) 101 (by decide +kernel) (by decide +kernel)
theorem ky_X6_tellLess : KYV yX6_tellLess cX6_tellLess 3 (some .int) 0 := ⟨⟨wd_1016, wd_7, by decide +kernel⟩, wd_1015, ws_101⟩
theorem wd_1013 : Cond.methodLink RX6 173 yX6_tellLess ∈ TB := TB_m 1013 (by decide +kernel) (by decide +kernel)
theorem wd_992 : Cond.code yX6_knownOf cX6_knownOf 4 (some .int) ∈ TB := TB_m 992 (by decide +kernel) (by decide +kernel)
theorem wd_991 : Cond.instanceMethod yX6_knownOf ∈ TB := TB_m 991 (by decide +kernel) (by decide +kernel)
theorem ws_97 : Cond.selects yX6_knownOf.cls yX6_knownOf yX6_knownOf ∈ TB := TB_s (q := (yX6_knownOf, 12)) 97 (by decide +kernel) (by decide +kernel)
theorem ky_X6_knownOf : KYV yX6_knownOf cX6_knownOf 4 (some .int) 1 := ⟨⟨wd_992, wd_7, by decide +kernel⟩, wd_991, ws_97⟩
theorem wd_989 : Cond.methodLink RX6 161 yX6_knownOf ∈ TB := TB_m 989 (by decide +kernel) (by decide +kernel)
end
section

def strAt (i : Nat) (j : Int32) : Option Int32 := if j < 0 then none else if j < nI (lenS.getD i 0) then rtC (((((bytS.getD i []).getD j.toNatClampNeg 0) &&& 255).toUInt32 % 65536).toInt32) else none
def yQs (E : Ex) (r : Nat) (w : Wd) : Array Value → State → Outcome → State → Prop := va_Qr (fun (_ : Unit) => True) (fun _ a t => a = E.2.2.2.2.2.2.1 r ∧ va_P E.1 vwCl (yW E w) t.heap) (yA E)
def MSs (l : Launch) (y : MethodName) (cc : ByteArray) (maxL : Nat) (rt : Option FieldType) (rm : Room) (E : Ex) (av : List Value) (w : Wd) (f : Option Nat) : Prop := ∀ r, f = some r → MZ l y cc maxL rt rm E av w (yQs E r w)
section YS
variable {ρ : Type} {g : Gx} {E : Ex} {cc : ByteArray} {nL nf nl : Nat} {own : String} {QQ : ρ → State → Prop} {o : Option ρ} {w w' : Wd} {pc n : Nat} {ls ls' : List (Nat × Value)} {st : List Value}
abbrev QS (g : Gx) (E : Ex) (w : Wd) : Nat → State → Prop := fun r => MQ g.2.2.2.2.2.2.2.1 (yQs E r w) g.2.2.2.2.2.2.1 g.2.2.2.2.1 g.2.2.2.2.2.2.2.2.2.2.1 g.2.2.2.2.2.2.2.2.2.2.2 (yA E)
theorem y_rs (C : CC g E cc nL own nf nl) {k : Nat} {c : String} (hr : RT g (some (.object c))) (hd : decode cc pc = .ok (.areturn, 1)) : YO g E nL (QS g E w) (some k) w pc ls [.ref (E.2.2.2.2.2.2.1 k)] := by
  intro r hr' H locs la hP hS hl
  cases hr'
  exact W.aret C.1 C.2.1 hr (Or.inl ⟨_, rfl⟩) (Or.inr ⟨_, rfl⟩) (fun t ht _ => ⟨⟨(), E.2.2.2.2.2.2.1 k, rfl, trivial, rfl, by subst ht; exact hP⟩, hS.F ht⟩) hS.2.2 hd C.2.2.2.2.2.2.1
theorem y_cs (C : CC g E cc nL own nf nl) {f : Option Nat} {K : Nat → Option ρ} {a : Array Value} {st0 : List Value} (hrun : ∀ r, f = some r → ∀ (H : Heap) (locs : List Loc) (la : Array Slot), va_P E.1 vwCl (yW E w) H → va_S (yA E) g.2.2.2.2.1.heap H locs → lv_has la nL ls → yRun g H locs (F0 g.2.2.2.2.2.1 pc la st0) st (yQs E r w a) (yA E)) (hn : pc + 3 = n)
    (kk : ∀ x, f = some x → x < 7 → YO g E nL QQ (K x) w n ls (.ref (E.2.2.2.2.2.2.1 x) :: st)) : YO g E nL QQ (f.bind fun x => if x < 7 then K x else none) w pc ls st0 := by
  subst hn
  intro r hr H locs la hP hS hl
  cases hf : f with
  | none => rw [hf] at hr; cases hr
  | some q =>
    rw [hf] at hr
    by_cases hq : q < 7
    · have hr : (if q < 7 then K q else none) = some r := hr
      rw [if_pos hq] at hr
      refine va_callr (hrun q hf H locs la hP hS hl) hS (fun _ _ h => h) (fun _ h => h) (fun u ra t H1 locs1 ht hvm hw hB _ _ hS1 => ?_)
      obtain ⟨rfl, hB⟩ := hB
      subst ht
      exact kk _ hf hq r hr _ locs1 la hB hS1 hl
    · have hr : (if q < 7 then K q else none) = some r := hr
      rw [if_neg hq] at hr
      cases hr
theorem y_ldcS (C : CC g E cc nL RX4 nf nl) {index : Nat} (i : Nat) (hi : i < 7) (hx : idxS.getD i 0 = index) (hd : decode cc pc = .ok (.ldc index, 2)) (hn : pc + 2 = n) (kk : YO g E nL QQ o w n ls (.ref (E.2.2.2.2.2.2.1 i) :: st)) : YO g E nL QQ o w pc ls st := by
  subst hn; subst hx
  exact fun r hr H locs la hP hS hl => va_ldcS C.1 C.2.1 C.2.2.2.1 (C.2.2.2.2.2.2.2.2.2.1.2.1 i hi) hd (kk r hr H locs la hP hS hl)
theorem y_runVK (C : CC g E cc nL own nf nl) {y : MethodName} {bytes : ByteArray} {maxL idx n0 n1 i : Nat} {rt : Option FieldType} {Qc : Array Value → State → Outcome → State → Prop} {As st0 : List Value} (ky : KYV y bytes maxL rt n) (hy : y.cls = "java/lang/String") (hl : Cond.methodLink own idx y ∈ TB) (hR : n0 + 1 ≤ nf ∧ 8 + (maxL + 11) + n1 ≤ nl) (hi : i < 7) (hM : MZ g.2.1 y bytes maxL rt { frames := n0, cells := 0, slots := 0, locals := n1 } E (.ref (E.2.2.2.2.2.2.1 i) :: As) w Qc) (hn : As.length = n) (hcat : (st.map fun v => v.category).sum ≤ 8) (hst : st0 = As.reverse ++ .ref (E.2.2.2.2.2.2.1 i) :: st) (hd : decode cc pc = .ok (.invokevirtual idx, 3))
    {H : Heap} {locs : List Loc} {la : Array Slot} (hP : va_P E.1 vwCl (yW E w) H) (hS : va_S (yA E) g.2.2.2.2.1.heap H locs) (hla : lv_has la nL ls) : yRun g H locs (F0 g.2.2.2.2.2.1 pc la st0) st (Qc (Value.ref (E.2.2.2.2.2.2.1 i) :: As).toArray) (yA E) := by
  obtain ⟨⟨k1, k2, k3⟩, k4, k5⟩ := ky
  have ht := C.2.2.2.2.1
  exact va_runV (Ts := TB) (C := "java/lang/String") ⟨C.1, C.2.1, C.2.2.1, C.2.2.2.1, ht⟩ hM ⟨callB_of n ht (yws_good k1) rfl rfl rfl (ht _ k2) (ht _ hl) k3 ⟨Nat.le_trans hR.1 C.2.2.2.2.2.2.2.1, Nat.le_trans hR.2 C.2.2.2.2.2.2.2.2.1⟩, ht _ k4, hy ▸ ht _ k5⟩ ⟨y_blind, vk_recv C.2.2.2.2.2.2.2.2.2.1.1 hi hS, y_pre C hP hS⟩ rfl hn hla.1 hst (lv_room hcat) hd (yRoom C)
/-! what the String's bytes are -/
theorem y_getCS (C : CC g E cc nL own nf nl) {index : Nat} (hl : Cond.fieldLink own index "java/lang/String" "COMPACT_STRINGS" "Z" ∈ TB) (hd : decode cc pc = .ok (.getstatic index, 3)) (hn : pc + 3 = n) (kk : YO g E nL QQ o w n ls (.int 1 :: st)) : YO g E nL QQ o w pc ls st := by
  subst hn
  exact fun r hr H locs la hP hS hla => va_gets C.1 C.2.1 C.2.2.2.2.2.2.2.2.2.1.2.2.1 hS C.2.2.2.1 (C.2.2.2.2.1 _ hl) (fun _ h => h) hd (kk r hr H locs la hP hS hla)
theorem y_getco (C : CC g E cc nL own nf nl) {index i : Nat} (hi : i < 7) (hl : Cond.fieldLink own index "java/lang/String" "coder" "B" ∈ TB) (hd : decode cc pc = .ok (.getfield index, 3)) (hn : pc + 3 = n) (kk : YO g E nL QQ o w n ls (.int 0 :: st)) : YO g E nL QQ o w pc ls (.ref (E.2.2.2.2.2.2.1 i) :: st) := by
  subst hn
  exact fun r hr H locs la hP hS hla => vk_getf C.1 C.2.1 (C.2.2.2.2.2.2.2.2.2.1.1.1 i hi).2.1 hS C.2.2.2.1 (C.2.2.2.2.1 _ hl) (fun _ h => h) hd (kk r hr H locs la hP hS hla)
theorem y_getva (C : CC g E cc nL own nf nl) {index i : Nat} (hi : i < 7) (hl : Cond.fieldLink own index "java/lang/String" "value" "[B" ∈ TB) (hd : decode cc pc = .ok (.getfield index, 3)) (hn : pc + 3 = n) (kk : YO g E nL QQ o w n ls (.ref (E.2.2.2.2.2.2.2 i) :: st)) : YO g E nL QQ o w pc ls (.ref (E.2.2.2.2.2.2.1 i) :: st) := by
  subst hn
  exact fun r hr H locs la hP hS hla => vk_getf C.1 C.2.1 (C.2.2.2.2.2.2.2.2.2.1.1.1 i hi).2.2.1 hS C.2.2.2.1 (C.2.2.2.2.1 _ hl) (fun _ h => h) hd (kk r hr H locs la hP hS hla)
theorem y_blen (C : CC g E cc nL own nf nl) {i : Nat} (hi : i < 7) (hd : decode cc pc = .ok (.arraylength, 1)) (hn : pc + 1 = n) (kk : YO g E nL QQ o w n ls (.int (nI (lenS.getD i 0)) :: st)) : YO g E nL QQ o w pc ls (.ref (E.2.2.2.2.2.2.2 i) :: st) := by
  subst hn
  exact fun r hr H locs la hP hS hla => va_tlen C.1 C.2.1 (C.2.2.2.2.2.2.2.2.2.1.1.1 i hi).2.2.2 hS rfl hd (kk r hr H locs la hP hS hla)
theorem y_bald (C : CC g E cc nL own nf nl) {i : Nat} {j : Int32} (hi : i < 7) (hj : vp_in j (lenS.getD i 0)) (hd : decode cc pc = .ok (.baload, 1)) (hn : pc + 1 = n) (kk : YO g E nL QQ o w n ls (.int ((bytS.getD i []).getD j.toNatClampNeg 0) :: st)) : YO g E nL QQ o w pc ls (.int j :: .ref (E.2.2.2.2.2.2.2 i) :: st) := by
  subst hn
  exact fun r hr H locs la hP hS hla => va_tb C.1 C.2.1 (C.2.2.2.2.2.2.2.2.2.1.1.1 i hi).2.2.2 hS hj rfl hd (kk r hr H locs la hP hS hla)
theorem y_rb (C : CC g E cc nL own nf nl) {x : Int32} {ty : FieldType} (hr : RT g (some ty)) (hnar : narrow ty (.int x) = .int x) (hd : decode cc pc = .ok (.ireturn, 1)) : YO g E nL (QP g E w) (some x) w pc ls [.int x] := by
  intro r hr' H locs la hP hS hl
  cases hr'
  exact W.zret C.1 C.2.1 hr hnar (fun t ht _ => ⟨⟨x, (), rfl, rfl, by subst ht; exact hP⟩, hS.F ht⟩) hS.2.2 hd C.2.2.2.2.2.2.1
theorem y_getSI (C : CC g E cc nL own nf nl) {index : Nat} (hl : Cond.fieldLink own index "jdk/internal/util/Preconditions" "SIOOBE_FORMATTER" "Ljava/util/function/BiFunction;" ∈ TB) (hd : decode cc pc = .ok (.getstatic index, 3)) (hn : pc + 3 = n) (kk : ∀ v : Value, (v = .null ∨ ∃ t, v = .ref t) → YO g E nL QQ o w n ls (v :: st)) : YO g E nL QQ o w pc ls st := by
  subst hn
  refine fun r hr H locs la hP hS hla => ?_
  rcases C.2.2.2.2.2.2.2.2.2.1.2.2.2 with hZ | ⟨t, hZ⟩
  · exact va_gets C.1 C.2.1 hZ hS C.2.2.2.1 (C.2.2.2.2.1 _ hl) (fun _ h => h) hd (kk .null (Or.inl rfl) r hr H locs la hP hS hla)
  · exact va_gets C.1 C.2.1 hZ hS C.2.2.2.1 (C.2.2.2.2.1 _ hl) (fun _ h => h) hd (kk (.ref t) (Or.inr ⟨t, rfl⟩) r hr H locs la hP hS hla)
end YS
theorem mJ0_coder_7d493 {E : Ex} {i : Nat} (hi : i < 7) (w : Wd) (l : Launch) : MP l yJ0_coder_7d493 cJ0_coder_7d493 1 (some .byte) { frames := 0, cells := 0, slots := 0, locals := 0 } E [.ref (E.2.2.2.2.2.2.1 i)] w (some 0) :=
  y_met (Qc := fun r => yQi E (r, w)) (by decide +kernel) (Nat.le_of_ble_eq_true rfl) (fun g C hR => by
    show YO g E 1 _ _ w 0 [(0, .ref (E.2.2.2.2.2.2.1 i))] []
    refine y_getCS (n := 3) C wd_525 dJ0_coder_7d493_0 rfl ?_
    refine y_if_eq_F (tgt := 13) (n := 6) C dJ0_coder_7d493_3 (by decide) rfl (by decide) ?_
    refine y_aload_n (n := 7) C dJ0_coder_7d493_6 0 rfl rfl ?_
    refine y_getco (n := 10) C hi wd_1083 dJ0_coder_7d493_7 rfl ?_
    refine y_goto (tgt := 14) C dJ0_coder_7d493_10 (by decide) ?_
    exact y_rb C hR (by decide) dJ0_coder_7d493_14) l
theorem mJ0_isLatin1_aae02 {E : Ex} {i : Nat} (hi : i < 7) (w : Wd) (l : Launch) : MP l yJ0_isLatin1_aae02 cJ0_isLatin1_aae02 1 (some .boolean) { frames := 0, cells := 0, slots := 0, locals := 0 } E [.ref (E.2.2.2.2.2.2.1 i)] w (some 1) :=
  y_met (Qc := fun r => yQi E (r, w)) (by decide +kernel) (Nat.le_of_ble_eq_true rfl) (fun g C hR => by
    show YO g E 1 _ _ w 0 [(0, .ref (E.2.2.2.2.2.2.1 i))] []
    refine y_getCS (n := 3) C wd_525 dJ0_isLatin1_aae02_0 rfl ?_
    refine y_if_eq_F (tgt := 17) (n := 6) C dJ0_isLatin1_aae02_3 (by decide) rfl (by decide) ?_
    refine y_aload_n (n := 7) C dJ0_isLatin1_aae02_6 0 rfl rfl ?_
    refine y_getco (n := 10) C hi wd_1083 dJ0_isLatin1_aae02_7 rfl ?_
    refine y_if_ne_F (tgt := 17) (n := 13) C dJ0_isLatin1_aae02_10 (by decide) rfl rfl ?_
    refine y_iconst (n := 14) C (1 : Int32) dJ0_isLatin1_aae02_13 (by decide) rfl ?_
    refine y_goto (tgt := 18) C dJ0_isLatin1_aae02_14 (by decide) ?_
    exact y_rb C hR (by decide) dJ0_isLatin1_aae02_18) l
theorem sh0_S : ∀ i, i < 7 → nI (lenS.getD i 0) >>> ((0 : Int32) &&& 31) = nI (lenS.getD i 0) := by decide +kernel
theorem mJ0_length_8abf5 {E : Ex} {i : Nat} (hi : i < 7) (w : Wd) (l : Launch) : MP l yJ0_length_8abf5 cJ0_length_8abf5 1 (some .int) { frames := 1, cells := 0, slots := 0, locals := 20 } E [.ref (E.2.2.2.2.2.2.1 i)] w (some (nI (lenS.getD i 0))) :=
  y_met (Qc := fun r => yQi E (r, w)) (by decide +kernel) (Nat.le_of_ble_eq_true rfl) (fun g C hR => by
    show YO g E 1 _ _ w 0 [(0, .ref (E.2.2.2.2.2.2.1 i))] []
    refine y_aload_n (n := 1) C dJ0_length_8abf5_0 0 rfl rfl ?_
    refine y_getva (n := 4) C hi wd_1082 dJ0_length_8abf5_1 rfl ?_
    refine y_blen (n := 5) C hi dJ0_length_8abf5_4 rfl ?_
    refine y_aload_n (n := 6) C dJ0_length_8abf5_5 0 rfl rfl ?_
    refine y_cp (n := 9) (f := some 0) (K := fun _ => some (nI (lenS.getD i 0))) C (fun r hr H locs la hP hS hl => y_runVK (st := [.int (nI (lenS.getD i 0))]) C ky_J0_coder_7d493 rfl wd_521 ⟨Nat.le_of_ble_eq_true rfl, Nat.le_of_ble_eq_true rfl⟩ hi (mJ0_coder_7d493 hi w g.2.1 r hr) rfl (Nat.le_of_ble_eq_true rfl) rfl dJ0_length_8abf5_6 hP hS hl) rfl (fun x hx => ?_)
    cases hx
    refine y_ishr (n := 10) C dJ0_length_8abf5_9 rfl ?_
    rw [sh0_S i hi]
    exact y_rp C hR dJ0_length_8abf5_10) l
theorem mJ3_checkIndex_8e157 {E : Ex} {v : Value} (hv : v = .null ∨ ∃ t, v = .ref t) (w : Wd) (a b : Int32) (l : Launch) : MP l yJ3_checkIndex_8e157 cJ3_checkIndex_8e157 3 (some .int) { frames := 0, cells := 0, slots := 0, locals := 0 } E [.int a, .int b, v] w (if a < 0 then none else if a < b then some a else none) := by
  have key : ∀ g : Gx, CC g E cJ3_checkIndex_8e157 3 RJ3 0 0 → RT g (some .int) → YO g E 3 (QP g E w) (if a < 0 then none else if a < b then some a else none) w 0 [(0, .int a), (1, .int b), (2, v)] [] := by
    intro g C hR
    refine y_iload_n (n := 1) C dJ3_checkIndex_8e157_0 0 rfl rfl ?_
    refine y_if_lt (tgt := 9) (n := 4) C dJ3_checkIndex_8e157_1 (by decide) rfl (fun h1 => ?_) (fun h1 => ?_)
    · exact y_no
    · refine y_iload_n (n := 5) C dJ3_checkIndex_8e157_4 0 rfl rfl ?_
      refine y_iload_n (n := 6) C dJ3_checkIndex_8e157_5 1 rfl rfl ?_
      refine y_icmp_lt (tgt := 16) (n := 9) C dJ3_checkIndex_8e157_6 (by decide) rfl (fun h2 => ?_) (fun h2 => ?_)
      · refine y_iload_n (n := 17) C dJ3_checkIndex_8e157_16 0 rfl rfl ?_
        exact y_rp C hR dJ3_checkIndex_8e157_17
      · exact y_no
  rcases hv with rfl | ⟨t, rfl⟩
  · exact y_met (Qc := fun r => yQi E (r, w)) (by decide +kernel) (Nat.le_of_ble_eq_true rfl) key l
  · exact y_met (Qc := fun r => yQi E (r, w)) (by decide +kernel) (Nat.le_of_ble_eq_true rfl) key l
theorem mJ0_checkIndex_df160 {E : Ex} (w : Wd) (a b : Int32) (l : Launch) : MV l yJ0_checkIndex_df160 cJ0_checkIndex_df160 2 none { frames := 1, cells := 0, slots := 0, locals := 22 } E [.int a, .int b] w (if a < 0 then none else if a < b then some w else none) :=
  y_met (Qc := yQv E) (by decide +kernel) (Nat.le_of_ble_eq_true rfl) (fun g C hR => by
    show YO g E 2 _ _ w 0 [(0, .int a), (1, .int b)] []
    refine y_iload_n (n := 1) C dJ0_checkIndex_df160_0 0 rfl rfl ?_
    refine y_iload_n (n := 2) C dJ0_checkIndex_df160_1 1 rfl rfl ?_
    refine y_getSI (n := 5) C wd_541 dJ0_checkIndex_df160_2 rfl (fun v hv => ?_)
    have e : (if a < 0 then none else if a < b then some w else none) = (if a < 0 then none else if a < b then some a else none : Option Int32).bind fun _ => some w := by
      by_cases h1 : a < 0
      · rw [if_pos h1, if_pos h1]; rfl
      · rw [if_neg h1, if_neg h1]
        by_cases h2 : a < b
        · rw [if_pos h2, if_pos h2]; rfl
        · rw [if_neg h2, if_neg h2]; rfl
    rw [e]
    refine y_cp (n := 8) C (fun r hr H locs la hP hS hl => y_runS (st := []) C ky_J3_checkIndex_8e157 wd_543 ⟨Nat.le_of_ble_eq_true rfl, Nat.le_of_ble_eq_true rfl⟩ (mJ3_checkIndex_8e157 hv w a b g.2.1 r hr) rfl (Nat.le_of_ble_eq_true rfl) rfl dJ0_checkIndex_df160_5 hP hS hl) rfl (fun x hx => ?_)
    refine y_pop (n := 9) C dJ0_checkIndex_df160_8 rfl rfl ?_
    exact y_rv C hR dJ0_checkIndex_df160_9) l
theorem len_S : ∀ i, i < 7 → lenS.getD i 0 < 2 ^ 31 := by decide +kernel
theorem mJ1_charAt_3b067 {E : Ex} {i : Nat} (hi : i < 7) (w : Wd) (j : Int32) (l : Launch) : MP l yJ1_charAt_3b067 cJ1_charAt_3b067 2 (some .char) { frames := 2, cells := 0, slots := 0, locals := 43 } E [.ref (E.2.2.2.2.2.2.2 i), .int j] w (strAt i j) :=
  y_met (Qc := fun r => yQi E (r, w)) (by decide +kernel) (Nat.le_of_ble_eq_true rfl) (fun g C hR => by
    show YO g E 2 _ _ w 0 [(0, .ref (E.2.2.2.2.2.2.2 i)), (1, .int j)] []
    refine y_iload_n (n := 1) C dJ1_charAt_3b067_0 1 rfl rfl ?_
    refine y_aload_n (n := 2) C dJ1_charAt_3b067_1 0 rfl rfl ?_
    refine y_blen (n := 3) C hi dJ1_charAt_3b067_2 rfl ?_
    have e : strAt i j = (if j < 0 then none else if j < nI (lenS.getD i 0) then some w else none : Option Wd).bind fun _ => strAt i j := by
      unfold strAt
      by_cases h1 : j < 0
      · rw [if_pos h1, if_pos h1]; rfl
      · rw [if_neg h1, if_neg h1]
        by_cases h2 : j < nI (lenS.getD i 0)
        · rw [if_pos h2, if_pos h2]; rfl
        · rw [if_neg h2, if_neg h2]; rfl
    rw [e]
    refine y_cv (n := 6) C (fun r hr H locs la hP hS hl => y_runS (st := []) C ky_J0_checkIndex_df160 wd_538 ⟨Nat.le_of_ble_eq_true rfl, Nat.le_of_ble_eq_true rfl⟩ (mJ0_checkIndex_df160 w j (nI (lenS.getD i 0)) g.2.1 r hr) rfl (Nat.le_of_ble_eq_true rfl) rfl dJ1_charAt_3b067_3 hP hS hl) rfl (fun w1 hw => ?_)
    have hin : ¬ j < 0 ∧ j < nI (lenS.getD i 0) ∧ w1 = w := by
      by_cases h1 : j < 0
      · rw [if_pos h1] at hw; cases hw
      · rw [if_neg h1] at hw
        by_cases h2 : j < nI (lenS.getD i 0)
        · rw [if_pos h2] at hw; cases hw; exact ⟨h1, h2, rfl⟩
        · rw [if_neg h2] at hw; cases hw
    obtain ⟨h1, h2, rfl⟩ := hin
    have hj : vp_in j (lenS.getD i 0) := by
      rw [vp_in_iff]
      have a1 := Int32.not_lt.mp h1
      rw [Int32.le_iff_toInt_le, Int32.toInt_zero] at a1
      rw [Int32.lt_iff_toInt_lt, nI_toInt (len_S i hi)] at h2
      exact ⟨a1, h2⟩
    refine y_aload_n (n := 7) C dJ1_charAt_3b067_6 0 rfl rfl ?_
    refine y_iload_n (n := 8) C dJ1_charAt_3b067_7 1 rfl rfl ?_
    refine y_bald (n := 9) C hi hj dJ1_charAt_3b067_8 rfl ?_
    refine y_sipush (n := 12) C (255 : Int32) dJ1_charAt_3b067_9 (by decide) rfl ?_
    refine y_iand (n := 13) C dJ1_charAt_3b067_12 rfl ?_
    refine y_i2c (n := 14) C dJ1_charAt_3b067_13 rfl ?_
    unfold strAt
    rw [if_neg h1, if_pos h2]
    exact y_rc C hR dJ1_charAt_3b067_14) l
theorem mJ0_charAt_5068e {E : Ex} {i : Nat} (hi : i < 7) (w : Wd) (j : Int32) (l : Launch) : MP l yJ0_charAt_5068e cJ0_charAt_5068e 2 (some .char) { frames := 3, cells := 0, slots := 0, locals := 64 } E [.ref (E.2.2.2.2.2.2.1 i), .int j] w ((strAt i j).bind rtC) :=
  y_met (Qc := fun r => yQi E (r, w)) (by decide +kernel) (Nat.le_of_ble_eq_true rfl) (fun g C hR => by
    show YO g E 2 _ _ w 0 [(0, .ref (E.2.2.2.2.2.2.1 i)), (1, .int j)] []
    refine y_aload_n (n := 1) C dJ0_charAt_5068e_0 0 rfl rfl ?_
    refine y_cp (n := 4) (f := some 1) (K := fun _ => (strAt i j).bind rtC) C (fun r hr H locs la hP hS hl => y_runVK (st := []) C ky_J0_isLatin1_aae02 rfl wd_531 ⟨Nat.le_of_ble_eq_true rfl, Nat.le_of_ble_eq_true rfl⟩ hi (mJ0_isLatin1_aae02 hi w g.2.1 r hr) rfl (Nat.le_of_ble_eq_true rfl) rfl dJ0_charAt_5068e_1 hP hS hl) rfl (fun x hx => ?_)
    cases hx
    refine y_if_eq_F (tgt := 16) (n := 7) C dJ0_charAt_5068e_4 (by decide) rfl (by decide) ?_
    refine y_aload_n (n := 8) C dJ0_charAt_5068e_7 0 rfl rfl ?_
    refine y_getva (n := 11) C hi wd_1082 dJ0_charAt_5068e_8 rfl ?_
    refine y_iload_n (n := 12) C dJ0_charAt_5068e_11 1 rfl rfl ?_
    refine y_cp (n := 15) C (fun r hr H locs la hP hS hl => y_runS (st := []) C ky_J1_charAt_3b067 wd_535 ⟨Nat.le_of_ble_eq_true rfl, Nat.le_of_ble_eq_true rfl⟩ (mJ1_charAt_3b067 hi w j g.2.1 r hr) rfl (Nat.le_of_ble_eq_true rfl) rfl dJ0_charAt_5068e_12 hP hS hl) rfl (fun x hx => ?_)
    exact y_rc C hR dJ0_charAt_5068e_15) l
end
