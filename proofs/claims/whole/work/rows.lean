section
-- ===== PART A: goes FIRST, ahead of the names: the tables' words, and 'selects' of the private methods out of them =====
/-- a private method of a class that the tables say can be made, by its rows of tables_1 -/
def lw_okq (q : MethodName × Nat) : Prop := (q.1.cls ≠ "java/lang/invoke/MethodHandle" ∧ q.1.cls ≠ "java/lang/invoke/VarHandle") ∧ Cond.instantiable q.1.cls q.2 ∈ tables_1 ∧ Cond.privateMethod q.1 ∈ tables_1 ∧ Cond.instanceMethod q.1 ∈ tables_1
theorem lw_p0 : lw_okq (⟨"HeardBackward$Script", "addAll", "(Ljava/lang/String;)V"⟩, 2) := ⟨⟨by decide +kernel, by decide +kernel⟩, List.mem_of_getElem? (i := 25) (by decide +kernel), List.mem_of_getElem? (i := 182) (by decide +kernel), List.mem_of_getElem? (i := 183) (by decide +kernel)⟩
theorem lw_p1 : lw_okq (⟨"HeardBackward$Script", "add", "(I)Z"⟩, 2) := ⟨⟨by decide +kernel, by decide +kernel⟩, List.mem_of_getElem? (i := 25) (by decide +kernel), List.mem_of_getElem? (i := 234) (by decide +kernel), List.mem_of_getElem? (i := 235) (by decide +kernel)⟩
theorem lw_p2 : lw_okq (⟨"HeardBackward$Reader", "readAll", "(LHeardBackward$Script;LHeardBackward$Court;)I"⟩, 2) := ⟨⟨by decide +kernel, by decide +kernel⟩, List.mem_of_getElem? (i := 41) (by decide +kernel), List.mem_of_getElem? (i := 241) (by decide +kernel), List.mem_of_getElem? (i := 242) (by decide +kernel)⟩
theorem lw_p3 : lw_okq (⟨"HeardBackward$Court", "clear", "()V"⟩, 8) := ⟨⟨by decide +kernel, by decide +kernel⟩, List.mem_of_getElem? (i := 54) (by decide +kernel), List.mem_of_getElem? (i := 245) (by decide +kernel), List.mem_of_getElem? (i := 246) (by decide +kernel)⟩
theorem lw_p4 : lw_okq (⟨"HeardBackward$Reader", "readNumbers", "(LHeardBackward$Script;I)I"⟩, 2) := ⟨⟨by decide +kernel, by decide +kernel⟩, List.mem_of_getElem? (i := 41) (by decide +kernel), List.mem_of_getElem? (i := 249) (by decide +kernel), List.mem_of_getElem? (i := 250) (by decide +kernel)⟩
theorem lw_p5 : lw_okq (⟨"HeardBackward$Script", "letterAt", "(I)I"⟩, 2) := ⟨⟨by decide +kernel, by decide +kernel⟩, List.mem_of_getElem? (i := 25) (by decide +kernel), List.mem_of_getElem? (i := 256) (by decide +kernel), List.mem_of_getElem? (i := 257) (by decide +kernel)⟩
theorem lw_p6 : lw_okq (⟨"HeardBackward$Reader", "tell", "(ILHeardBackward$Court;)Z"⟩, 2) := ⟨⟨by decide +kernel, by decide +kernel⟩, List.mem_of_getElem? (i := 41) (by decide +kernel), List.mem_of_getElem? (i := 270) (by decide +kernel), List.mem_of_getElem? (i := 271) (by decide +kernel)⟩
theorem lw_p7 : lw_okq (⟨"HeardBackward$Court", "addStatement", "(III)Z"⟩, 8) := ⟨⟨by decide +kernel, by decide +kernel⟩, List.mem_of_getElem? (i := 54) (by decide +kernel), List.mem_of_getElem? (i := 275) (by decide +kernel), List.mem_of_getElem? (i := 276) (by decide +kernel)⟩
theorem lw_p8 : lw_okq (⟨"HeardBackward$Court", "addVerdict", "(I)Z"⟩, 8) := ⟨⟨by decide +kernel, by decide +kernel⟩, List.mem_of_getElem? (i := 54) (by decide +kernel), List.mem_of_getElem? (i := 283) (by decide +kernel), List.mem_of_getElem? (i := 284) (by decide +kernel)⟩
theorem lw_p9 : lw_okq (⟨"HeardBackward$Court", "isStatement", "(I)Z"⟩, 8) := ⟨⟨by decide +kernel, by decide +kernel⟩, List.mem_of_getElem? (i := 54) (by decide +kernel), List.mem_of_getElem? (i := 287) (by decide +kernel), List.mem_of_getElem? (i := 288) (by decide +kernel)⟩
theorem lw_p10 : lw_okq (⟨"HeardBackward$Court", "isNight", "(I)Z"⟩, 8) := ⟨⟨by decide +kernel, by decide +kernel⟩, List.mem_of_getElem? (i := 54) (by decide +kernel), List.mem_of_getElem? (i := 291) (by decide +kernel), List.mem_of_getElem? (i := 292) (by decide +kernel)⟩
theorem lw_p11 : lw_okq (⟨"HeardBackward$Court", "addHang", "(II)Z"⟩, 8) := ⟨⟨by decide +kernel, by decide +kernel⟩, List.mem_of_getElem? (i := 54) (by decide +kernel), List.mem_of_getElem? (i := 299) (by decide +kernel), List.mem_of_getElem? (i := 300) (by decide +kernel)⟩
theorem lw_p12 : lw_okq (⟨"HeardBackward$Court", "addPerson", "(II)Z"⟩, 8) := ⟨⟨by decide +kernel, by decide +kernel⟩, List.mem_of_getElem? (i := 54) (by decide +kernel), List.mem_of_getElem? (i := 303) (by decide +kernel), List.mem_of_getElem? (i := 304) (by decide +kernel)⟩
theorem lw_p13 : lw_okq (⟨"HeardBackward$Script", "clear", "()V"⟩, 2) := ⟨⟨by decide +kernel, by decide +kernel⟩, List.mem_of_getElem? (i := 25) (by decide +kernel), List.mem_of_getElem? (i := 307) (by decide +kernel), List.mem_of_getElem? (i := 308) (by decide +kernel)⟩
theorem lw_p14 : lw_okq (⟨"HeardBackward$Court", "copyFrom", "(LHeardBackward$Court;)V"⟩, 8) := ⟨⟨by decide +kernel, by decide +kernel⟩, List.mem_of_getElem? (i := 54) (by decide +kernel), List.mem_of_getElem? (i := 358) (by decide +kernel), List.mem_of_getElem? (i := 359) (by decide +kernel)⟩
theorem lw_p15 : lw_okq (⟨"HeardBackward$Hearing", "clear", "()V"⟩, 3) := ⟨⟨by decide +kernel, by decide +kernel⟩, List.mem_of_getElem? (i := 93) (by decide +kernel), List.mem_of_getElem? (i := 365) (by decide +kernel), List.mem_of_getElem? (i := 366) (by decide +kernel)⟩
def lw_privs_1 : List (MethodName × Nat) := [(⟨"HeardBackward$Script", "addAll", "(Ljava/lang/String;)V"⟩, 2), (⟨"HeardBackward$Script", "add", "(I)Z"⟩, 2), (⟨"HeardBackward$Reader", "readAll", "(LHeardBackward$Script;LHeardBackward$Court;)I"⟩, 2), (⟨"HeardBackward$Court", "clear", "()V"⟩, 8), (⟨"HeardBackward$Reader", "readNumbers", "(LHeardBackward$Script;I)I"⟩, 2), (⟨"HeardBackward$Script", "letterAt", "(I)I"⟩, 2), (⟨"HeardBackward$Reader", "tell", "(ILHeardBackward$Court;)Z"⟩, 2), (⟨"HeardBackward$Court", "addStatement", "(III)Z"⟩, 8), (⟨"HeardBackward$Court", "addVerdict", "(I)Z"⟩, 8), (⟨"HeardBackward$Court", "isStatement", "(I)Z"⟩, 8), (⟨"HeardBackward$Court", "isNight", "(I)Z"⟩, 8), (⟨"HeardBackward$Court", "addHang", "(II)Z"⟩, 8), (⟨"HeardBackward$Court", "addPerson", "(II)Z"⟩, 8), (⟨"HeardBackward$Script", "clear", "()V"⟩, 2), (⟨"HeardBackward$Court", "copyFrom", "(LHeardBackward$Court;)V"⟩, 8), (⟨"HeardBackward$Hearing", "clear", "()V"⟩, 3)]
theorem lw_r1 : ∀ q ∈ lw_privs_1, lw_okq q := List.forall_mem_cons.mpr ⟨lw_p0, List.forall_mem_cons.mpr ⟨lw_p1, List.forall_mem_cons.mpr ⟨lw_p2, List.forall_mem_cons.mpr ⟨lw_p3, List.forall_mem_cons.mpr ⟨lw_p4, List.forall_mem_cons.mpr ⟨lw_p5, List.forall_mem_cons.mpr ⟨lw_p6, List.forall_mem_cons.mpr ⟨lw_p7, List.forall_mem_cons.mpr ⟨lw_p8, List.forall_mem_cons.mpr ⟨lw_p9, List.forall_mem_cons.mpr ⟨lw_p10, List.forall_mem_cons.mpr ⟨lw_p11, List.forall_mem_cons.mpr ⟨lw_p12, List.forall_mem_cons.mpr ⟨lw_p13, List.forall_mem_cons.mpr ⟨lw_p14, List.forall_mem_cons.mpr ⟨lw_p15, fun _ h => absurd h List.not_mem_nil⟩⟩⟩⟩⟩⟩⟩⟩⟩⟩⟩⟩⟩⟩⟩⟩
theorem lw_p16 : lw_okq (⟨"HeardBackward$Shelf", "clear", "()V"⟩, 3) := ⟨⟨by decide +kernel, by decide +kernel⟩, List.mem_of_getElem? (i := 112) (by decide +kernel), List.mem_of_getElem? (i := 369) (by decide +kernel), List.mem_of_getElem? (i := 370) (by decide +kernel)⟩
theorem lw_p17 : lw_okq (⟨"HeardBackward$Court", "isVerdict", "(I)Z"⟩, 8) := ⟨⟨by decide +kernel, by decide +kernel⟩, List.mem_of_getElem? (i := 54) (by decide +kernel), List.mem_of_getElem? (i := 379) (by decide +kernel), List.mem_of_getElem? (i := 380) (by decide +kernel)⟩
theorem lw_p18 : lw_okq (⟨"HeardBackward$Hearing", "open", "(LHeardBackward$Court;)I"⟩, 3) := ⟨⟨by decide +kernel, by decide +kernel⟩, List.mem_of_getElem? (i := 93) (by decide +kernel), List.mem_of_getElem? (i := 394) (by decide +kernel), List.mem_of_getElem? (i := 395) (by decide +kernel)⟩
theorem lw_p19 : lw_okq (⟨"HeardBackward$Hearing", "members", "()I"⟩, 3) := ⟨⟨by decide +kernel, by decide +kernel⟩, List.mem_of_getElem? (i := 93) (by decide +kernel), List.mem_of_getElem? (i := 399) (by decide +kernel), List.mem_of_getElem? (i := 400) (by decide +kernel)⟩
theorem lw_p20 : lw_okq (⟨"HeardBackward$Shelf", "add", "(LHeardBackward$Hearing;)V"⟩, 3) := ⟨⟨by decide +kernel, by decide +kernel⟩, List.mem_of_getElem? (i := 112) (by decide +kernel), List.mem_of_getElem? (i := 407) (by decide +kernel), List.mem_of_getElem? (i := 408) (by decide +kernel)⟩
theorem lw_p21 : lw_okq (⟨"HeardBackward$Shelf", "placeAt", "(I)LHeardBackward$Hearing;"⟩, 3) := ⟨⟨by decide +kernel, by decide +kernel⟩, List.mem_of_getElem? (i := 112) (by decide +kernel), List.mem_of_getElem? (i := 411) (by decide +kernel), List.mem_of_getElem? (i := 412) (by decide +kernel)⟩
theorem lw_p22 : lw_okq (⟨"HeardBackward$Hearing", "copyFrom", "(LHeardBackward$Hearing;)V"⟩, 3) := ⟨⟨by decide +kernel, by decide +kernel⟩, List.mem_of_getElem? (i := 93) (by decide +kernel), List.mem_of_getElem? (i := 415) (by decide +kernel), List.mem_of_getElem? (i := 416) (by decide +kernel)⟩
theorem lw_p23 : lw_okq (⟨"HeardBackward$Hearing", "add", "(I)V"⟩, 3) := ⟨⟨by decide +kernel, by decide +kernel⟩, List.mem_of_getElem? (i := 93) (by decide +kernel), List.mem_of_getElem? (i := 423) (by decide +kernel), List.mem_of_getElem? (i := 424) (by decide +kernel)⟩
theorem lw_p24 : lw_okq (⟨"HeardBackward$Shelf", "takeLatest", "(LHeardBackward$Hearing;)Z"⟩, 3) := ⟨⟨by decide +kernel, by decide +kernel⟩, List.mem_of_getElem? (i := 112) (by decide +kernel), List.mem_of_getElem? (i := 442) (by decide +kernel), List.mem_of_getElem? (i := 443) (by decide +kernel)⟩
theorem lw_p25 : lw_okq (⟨"HeardBackward$Court", "costOf", "([II)I"⟩, 8) := ⟨⟨by decide +kernel, by decide +kernel⟩, List.mem_of_getElem? (i := 54) (by decide +kernel), List.mem_of_getElem? (i := 458) (by decide +kernel), List.mem_of_getElem? (i := 459) (by decide +kernel)⟩
theorem lw_p26 : lw_okq (⟨"HeardBackward$Hearing", "isEnded", "(LHeardBackward$Court;)Z"⟩, 3) := ⟨⟨by decide +kernel, by decide +kernel⟩, List.mem_of_getElem? (i := 93) (by decide +kernel), List.mem_of_getElem? (i := 462) (by decide +kernel), List.mem_of_getElem? (i := 463) (by decide +kernel)⟩
theorem lw_p27 : lw_okq (⟨"HeardBackward$Hearing", "isStuck", "(LHeardBackward$Court;)Z"⟩, 3) := ⟨⟨by decide +kernel, by decide +kernel⟩, List.mem_of_getElem? (i := 93) (by decide +kernel), List.mem_of_getElem? (i := 467) (by decide +kernel), List.mem_of_getElem? (i := 468) (by decide +kernel)⟩
theorem lw_p28 : lw_okq (⟨"HeardBackward$Survey", "walkAll", "(LHeardBackward$Court;II)V"⟩, 10) := ⟨⟨by decide +kernel, by decide +kernel⟩, List.mem_of_getElem? (i := 135) (by decide +kernel), List.mem_of_getElem? (i := 477) (by decide +kernel), List.mem_of_getElem? (i := 478) (by decide +kernel)⟩
theorem lw_p29 : lw_okq (⟨"HeardBackward$Survey", "note", "(LHeardBackward$Court;II)V"⟩, 10) := ⟨⟨by decide +kernel, by decide +kernel⟩, List.mem_of_getElem? (i := 135) (by decide +kernel), List.mem_of_getElem? (i := 489) (by decide +kernel), List.mem_of_getElem? (i := 490) (by decide +kernel)⟩
theorem lw_p30 : lw_okq (⟨"HeardBackward$Court", "daysOf", "([II)I"⟩, 8) := ⟨⟨by decide +kernel, by decide +kernel⟩, List.mem_of_getElem? (i := 54) (by decide +kernel), List.mem_of_getElem? (i := 494) (by decide +kernel), List.mem_of_getElem? (i := 495) (by decide +kernel)⟩
theorem lw_p31 : lw_okq (⟨"HeardBackward$Court", "all", "()I"⟩, 8) := ⟨⟨by decide +kernel, by decide +kernel⟩, List.mem_of_getElem? (i := 54) (by decide +kernel), List.mem_of_getElem? (i := 517) (by decide +kernel), List.mem_of_getElem? (i := 518) (by decide +kernel)⟩
def lw_privs_2 : List (MethodName × Nat) := [(⟨"HeardBackward$Shelf", "clear", "()V"⟩, 3), (⟨"HeardBackward$Court", "isVerdict", "(I)Z"⟩, 8), (⟨"HeardBackward$Hearing", "open", "(LHeardBackward$Court;)I"⟩, 3), (⟨"HeardBackward$Hearing", "members", "()I"⟩, 3), (⟨"HeardBackward$Shelf", "add", "(LHeardBackward$Hearing;)V"⟩, 3), (⟨"HeardBackward$Shelf", "placeAt", "(I)LHeardBackward$Hearing;"⟩, 3), (⟨"HeardBackward$Hearing", "copyFrom", "(LHeardBackward$Hearing;)V"⟩, 3), (⟨"HeardBackward$Hearing", "add", "(I)V"⟩, 3), (⟨"HeardBackward$Shelf", "takeLatest", "(LHeardBackward$Hearing;)Z"⟩, 3), (⟨"HeardBackward$Court", "costOf", "([II)I"⟩, 8), (⟨"HeardBackward$Hearing", "isEnded", "(LHeardBackward$Court;)Z"⟩, 3), (⟨"HeardBackward$Hearing", "isStuck", "(LHeardBackward$Court;)Z"⟩, 3), (⟨"HeardBackward$Survey", "walkAll", "(LHeardBackward$Court;II)V"⟩, 10), (⟨"HeardBackward$Survey", "note", "(LHeardBackward$Court;II)V"⟩, 10), (⟨"HeardBackward$Court", "daysOf", "([II)I"⟩, 8), (⟨"HeardBackward$Court", "all", "()I"⟩, 8)]
theorem lw_r2 : ∀ q ∈ lw_privs_2, lw_okq q := List.forall_mem_cons.mpr ⟨lw_p16, List.forall_mem_cons.mpr ⟨lw_p17, List.forall_mem_cons.mpr ⟨lw_p18, List.forall_mem_cons.mpr ⟨lw_p19, List.forall_mem_cons.mpr ⟨lw_p20, List.forall_mem_cons.mpr ⟨lw_p21, List.forall_mem_cons.mpr ⟨lw_p22, List.forall_mem_cons.mpr ⟨lw_p23, List.forall_mem_cons.mpr ⟨lw_p24, List.forall_mem_cons.mpr ⟨lw_p25, List.forall_mem_cons.mpr ⟨lw_p26, List.forall_mem_cons.mpr ⟨lw_p27, List.forall_mem_cons.mpr ⟨lw_p28, List.forall_mem_cons.mpr ⟨lw_p29, List.forall_mem_cons.mpr ⟨lw_p30, List.forall_mem_cons.mpr ⟨lw_p31, fun _ h => absurd h List.not_mem_nil⟩⟩⟩⟩⟩⟩⟩⟩⟩⟩⟩⟩⟩⟩⟩⟩
theorem lw_p32 : lw_okq (⟨"HeardBackward", "winningOpening", "(I)I"⟩, 9) := ⟨⟨by decide +kernel, by decide +kernel⟩, List.mem_of_getElem? (i := 17) (by decide +kernel), List.mem_of_getElem? (i := 529) (by decide +kernel), List.mem_of_getElem? (i := 530) (by decide +kernel)⟩
theorem lw_p33 : lw_okq (⟨"HeardBackward$Court", "doers", "(I)I"⟩, 8) := ⟨⟨by decide +kernel, by decide +kernel⟩, List.mem_of_getElem? (i := 54) (by decide +kernel), List.mem_of_getElem? (i := 538) (by decide +kernel), List.mem_of_getElem? (i := 539) (by decide +kernel)⟩
theorem lw_p34 : lw_okq (⟨"HeardBackward", "fittingPeople", "(I)I"⟩, 9) := ⟨⟨by decide +kernel, by decide +kernel⟩, List.mem_of_getElem? (i := 17) (by decide +kernel), List.mem_of_getElem? (i := 554) (by decide +kernel), List.mem_of_getElem? (i := 555) (by decide +kernel)⟩
theorem lw_p35 : lw_okq (⟨"HeardBackwardModel", "firstOf", "(III)V"⟩, 26) := ⟨⟨by decide +kernel, by decide +kernel⟩, List.mem_of_getElem? (i := 608) (by decide +kernel), List.mem_of_getElem? (i := 614) (by decide +kernel), List.mem_of_getElem? (i := 615) (by decide +kernel)⟩
theorem lw_p36 : lw_okq (⟨"HeardBackwardModel", "firstPerson", "(II)V"⟩, 26) := ⟨⟨by decide +kernel, by decide +kernel⟩, List.mem_of_getElem? (i := 608) (by decide +kernel), List.mem_of_getElem? (i := 618) (by decide +kernel), List.mem_of_getElem? (i := 619) (by decide +kernel)⟩
theorem lw_p37 : lw_okq (⟨"HeardBackwardModel", "takeDraft", "()V"⟩, 26) := ⟨⟨by decide +kernel, by decide +kernel⟩, List.mem_of_getElem? (i := 608) (by decide +kernel), List.mem_of_getElem? (i := 622) (by decide +kernel), List.mem_of_getElem? (i := 623) (by decide +kernel)⟩
theorem lw_p38 : lw_okq (⟨"HeardBackwardModel", "readItem", "()V"⟩, 26) := ⟨⟨by decide +kernel, by decide +kernel⟩, List.mem_of_getElem? (i := 608) (by decide +kernel), List.mem_of_getElem? (i := 720) (by decide +kernel), List.mem_of_getElem? (i := 721) (by decide +kernel)⟩
theorem lw_p39 : lw_okq (⟨"HeardBackwardModel", "here", "()I"⟩, 26) := ⟨⟨by decide +kernel, by decide +kernel⟩, List.mem_of_getElem? (i := 608) (by decide +kernel), List.mem_of_getElem? (i := 724) (by decide +kernel), List.mem_of_getElem? (i := 725) (by decide +kernel)⟩
theorem lw_p40 : lw_okq (⟨"HeardBackwardModel", "number", "(III)I"⟩, 26) := ⟨⟨by decide +kernel, by decide +kernel⟩, List.mem_of_getElem? (i := 608) (by decide +kernel), List.mem_of_getElem? (i := 728) (by decide +kernel), List.mem_of_getElem? (i := 729) (by decide +kernel)⟩
theorem lw_p41 : lw_okq (⟨"HeardBackwardModel", "statementAt", "(I)I"⟩, 26) := ⟨⟨by decide +kernel, by decide +kernel⟩, List.mem_of_getElem? (i := 608) (by decide +kernel), List.mem_of_getElem? (i := 732) (by decide +kernel), List.mem_of_getElem? (i := 733) (by decide +kernel)⟩
theorem lw_p42 : lw_okq (⟨"HeardBackwardModel", "isStatement", "(I)Z"⟩, 26) := ⟨⟨by decide +kernel, by decide +kernel⟩, List.mem_of_getElem? (i := 608) (by decide +kernel), List.mem_of_getElem? (i := 745) (by decide +kernel), List.mem_of_getElem? (i := 746) (by decide +kernel)⟩
theorem lw_p43 : lw_okq (⟨"HeardBackwardModel", "said", "()I"⟩, 26) := ⟨⟨by decide +kernel, by decide +kernel⟩, List.mem_of_getElem? (i := 608) (by decide +kernel), List.mem_of_getElem? (i := 753) (by decide +kernel), List.mem_of_getElem? (i := 754) (by decide +kernel)⟩
theorem lw_p44 : lw_okq (⟨"HeardBackwardModel", "behind", "(II)I"⟩, 26) := ⟨⟨by decide +kernel, by decide +kernel⟩, List.mem_of_getElem? (i := 608) (by decide +kernel), List.mem_of_getElem? (i := 757) (by decide +kernel), List.mem_of_getElem? (i := 758) (by decide +kernel)⟩
theorem lw_p45 : lw_okq (⟨"HeardBackwardModel", "know", "()V"⟩, 26) := ⟨⟨by decide +kernel, by decide +kernel⟩, List.mem_of_getElem? (i := 608) (by decide +kernel), List.mem_of_getElem? (i := 766) (by decide +kernel), List.mem_of_getElem? (i := 767) (by decide +kernel)⟩
theorem lw_p46 : lw_okq (⟨"HeardBackwardModel", "copy", "(II)V"⟩, 26) := ⟨⟨by decide +kernel, by decide +kernel⟩, List.mem_of_getElem? (i := 608) (by decide +kernel), List.mem_of_getElem? (i := 770) (by decide +kernel), List.mem_of_getElem? (i := 771) (by decide +kernel)⟩
theorem lw_p47 : lw_okq (⟨"HeardBackwardModel", "cost", "(III)I"⟩, 26) := ⟨⟨by decide +kernel, by decide +kernel⟩, List.mem_of_getElem? (i := 608) (by decide +kernel), List.mem_of_getElem? (i := 794) (by decide +kernel), List.mem_of_getElem? (i := 795) (by decide +kernel)⟩
def lw_privs_3 : List (MethodName × Nat) := [(⟨"HeardBackward", "winningOpening", "(I)I"⟩, 9), (⟨"HeardBackward$Court", "doers", "(I)I"⟩, 8), (⟨"HeardBackward", "fittingPeople", "(I)I"⟩, 9), (⟨"HeardBackwardModel", "firstOf", "(III)V"⟩, 26), (⟨"HeardBackwardModel", "firstPerson", "(II)V"⟩, 26), (⟨"HeardBackwardModel", "takeDraft", "()V"⟩, 26), (⟨"HeardBackwardModel", "readItem", "()V"⟩, 26), (⟨"HeardBackwardModel", "here", "()I"⟩, 26), (⟨"HeardBackwardModel", "number", "(III)I"⟩, 26), (⟨"HeardBackwardModel", "statementAt", "(I)I"⟩, 26), (⟨"HeardBackwardModel", "isStatement", "(I)Z"⟩, 26), (⟨"HeardBackwardModel", "said", "()I"⟩, 26), (⟨"HeardBackwardModel", "behind", "(II)I"⟩, 26), (⟨"HeardBackwardModel", "know", "()V"⟩, 26), (⟨"HeardBackwardModel", "copy", "(II)V"⟩, 26), (⟨"HeardBackwardModel", "cost", "(III)I"⟩, 26)]
theorem lw_r3 : ∀ q ∈ lw_privs_3, lw_okq q := List.forall_mem_cons.mpr ⟨lw_p32, List.forall_mem_cons.mpr ⟨lw_p33, List.forall_mem_cons.mpr ⟨lw_p34, List.forall_mem_cons.mpr ⟨lw_p35, List.forall_mem_cons.mpr ⟨lw_p36, List.forall_mem_cons.mpr ⟨lw_p37, List.forall_mem_cons.mpr ⟨lw_p38, List.forall_mem_cons.mpr ⟨lw_p39, List.forall_mem_cons.mpr ⟨lw_p40, List.forall_mem_cons.mpr ⟨lw_p41, List.forall_mem_cons.mpr ⟨lw_p42, List.forall_mem_cons.mpr ⟨lw_p43, List.forall_mem_cons.mpr ⟨lw_p44, List.forall_mem_cons.mpr ⟨lw_p45, List.forall_mem_cons.mpr ⟨lw_p46, List.forall_mem_cons.mpr ⟨lw_p47, fun _ h => absurd h List.not_mem_nil⟩⟩⟩⟩⟩⟩⟩⟩⟩⟩⟩⟩⟩⟩⟩⟩
theorem lw_p48 : lw_okq (⟨"HeardBackwardModel", "isVerdict", "(I)Z"⟩, 26) := ⟨⟨by decide +kernel, by decide +kernel⟩, List.mem_of_getElem? (i := 608) (by decide +kernel), List.mem_of_getElem? (i := 802) (by decide +kernel), List.mem_of_getElem? (i := 803) (by decide +kernel)⟩
theorem lw_p49 : lw_okq (⟨"HeardBackwardModel", "hasWhole", "(I)Z"⟩, 26) := ⟨⟨by decide +kernel, by decide +kernel⟩, List.mem_of_getElem? (i := 608) (by decide +kernel), List.mem_of_getElem? (i := 806) (by decide +kernel), List.mem_of_getElem? (i := 807) (by decide +kernel)⟩
theorem lw_p50 : lw_okq (⟨"HeardBackwardModel", "solve", "(I)V"⟩, 26) := ⟨⟨by decide +kernel, by decide +kernel⟩, List.mem_of_getElem? (i := 608) (by decide +kernel), List.mem_of_getElem? (i := 810) (by decide +kernel), List.mem_of_getElem? (i := 811) (by decide +kernel)⟩
theorem lw_p51 : lw_okq (⟨"HeardBackwardModel", "endAt", "(III)V"⟩, 26) := ⟨⟨by decide +kernel, by decide +kernel⟩, List.mem_of_getElem? (i := 608) (by decide +kernel), List.mem_of_getElem? (i := 814) (by decide +kernel), List.mem_of_getElem? (i := 815) (by decide +kernel)⟩
theorem lw_p52 : lw_okq (⟨"HeardBackwardModel", "couldHave", "(I)I"⟩, 26) := ⟨⟨by decide +kernel, by decide +kernel⟩, List.mem_of_getElem? (i := 608) (by decide +kernel), List.mem_of_getElem? (i := 819) (by decide +kernel), List.mem_of_getElem? (i := 820) (by decide +kernel)⟩
theorem lw_p53 : lw_okq (⟨"HeardBackwardModel", "goOn", "(III)V"⟩, 26) := ⟨⟨by decide +kernel, by decide +kernel⟩, List.mem_of_getElem? (i := 608) (by decide +kernel), List.mem_of_getElem? (i := 823) (by decide +kernel), List.mem_of_getElem? (i := 824) (by decide +kernel)⟩
theorem lw_p54 : lw_okq (⟨"HeardBackwardModel", "isStruck", "(I)Z"⟩, 26) := ⟨⟨by decide +kernel, by decide +kernel⟩, List.mem_of_getElem? (i := 608) (by decide +kernel), List.mem_of_getElem? (i := 830) (by decide +kernel), List.mem_of_getElem? (i := 831) (by decide +kernel)⟩
theorem lw_p55 : lw_okq (⟨"HeardBackwardModel", "followFrom", "(I)V"⟩, 26) := ⟨⟨by decide +kernel, by decide +kernel⟩, List.mem_of_getElem? (i := 608) (by decide +kernel), List.mem_of_getElem? (i := 841) (by decide +kernel), List.mem_of_getElem? (i := 842) (by decide +kernel)⟩
theorem lw_p56 : lw_okq (⟨"HeardBackwardModel", "costTo", "(I)I"⟩, 26) := ⟨⟨by decide +kernel, by decide +kernel⟩, List.mem_of_getElem? (i := 608) (by decide +kernel), List.mem_of_getElem? (i := 861) (by decide +kernel), List.mem_of_getElem? (i := 862) (by decide +kernel)⟩
theorem lw_p57 : lw_okq (⟨"HeardBackwardModel", "fitting", "(I)I"⟩, 26) := ⟨⟨by decide +kernel, by decide +kernel⟩, List.mem_of_getElem? (i := 608) (by decide +kernel), List.mem_of_getElem? (i := 881) (by decide +kernel), List.mem_of_getElem? (i := 882) (by decide +kernel)⟩
def lw_privs_4 : List (MethodName × Nat) := [(⟨"HeardBackwardModel", "isVerdict", "(I)Z"⟩, 26), (⟨"HeardBackwardModel", "hasWhole", "(I)Z"⟩, 26), (⟨"HeardBackwardModel", "solve", "(I)V"⟩, 26), (⟨"HeardBackwardModel", "endAt", "(III)V"⟩, 26), (⟨"HeardBackwardModel", "couldHave", "(I)I"⟩, 26), (⟨"HeardBackwardModel", "goOn", "(III)V"⟩, 26), (⟨"HeardBackwardModel", "isStruck", "(I)Z"⟩, 26), (⟨"HeardBackwardModel", "followFrom", "(I)V"⟩, 26), (⟨"HeardBackwardModel", "costTo", "(I)I"⟩, 26), (⟨"HeardBackwardModel", "fitting", "(I)I"⟩, 26)]
theorem lw_r4 : ∀ q ∈ lw_privs_4, lw_okq q := List.forall_mem_cons.mpr ⟨lw_p48, List.forall_mem_cons.mpr ⟨lw_p49, List.forall_mem_cons.mpr ⟨lw_p50, List.forall_mem_cons.mpr ⟨lw_p51, List.forall_mem_cons.mpr ⟨lw_p52, List.forall_mem_cons.mpr ⟨lw_p53, List.forall_mem_cons.mpr ⟨lw_p54, List.forall_mem_cons.mpr ⟨lw_p55, List.forall_mem_cons.mpr ⟨lw_p56, List.forall_mem_cons.mpr ⟨lw_p57, fun _ h => absurd h List.not_mem_nil⟩⟩⟩⟩⟩⟩⟩⟩⟩⟩
def lw_privs : List (MethodName × Nat) := lw_privs_1 ++ (lw_privs_2 ++ (lw_privs_3 ++ (lw_privs_4)))
def lw_tbl : List Cond := k2_sels lw_privs ++ tables_1
theorem lw_privs_ok : ∀ q ∈ lw_privs, lw_okq q := by
  show ∀ q ∈ lw_privs_1 ++ (lw_privs_2 ++ (lw_privs_3 ++ (lw_privs_4))), lw_okq q
  exact List.forall_mem_append.mpr ⟨lw_r1, List.forall_mem_append.mpr ⟨lw_r2, List.forall_mem_append.mpr ⟨lw_r3, lw_r4⟩⟩⟩
def RX0 : String := "HeardBackward$Court"
def TX0 : u_T := fun k => match k with
  | 0 => ("HeardBackward$Court", "kinds", "[I", true)
  | 1 => ("HeardBackward$Court", "costs", "[I", true)
  | 2 => ("HeardBackward$Court", "spans", "[I", true)
  | 3 => ("HeardBackward$Court", "hangs", "[I", true)
  | 4 => ("HeardBackward$Court", "deeds", "[I", true)
  | 5 => ("HeardBackward$Court", "size", "I", false)
  | 6 => ("HeardBackward$Court", "verdicts", "I", false)
  | _ => ("HeardBackward$Court", "people", "I", false)
def tyX0 : Nat → FieldType := fun k => match k with
  | 0 => .array .int
  | 1 => .array .int
  | 2 => .array .int
  | 3 => .array .int
  | 4 => .array .int
  | 5 => .int
  | 6 => .int
  | _ => .int
abbrev wsX00 : List Cond := u_ws RX0 TX0 8
theorem nmX0 : ∀ a, a < 8 → ∀ b, b < 8 → a ≠ b → (TX0 a).2.1 ≠ (TX0 b).2.1 := by decide +kernel
theorem tyX0_ok : ∀ k, k < 8 → parseFieldDescriptor (TX0 k).2.2.1 = some (tyX0 k) := by decide +kernel
abbrev cX0_init : ByteArray := prog_2_method_1_code
def yX0_init : MethodName := ⟨RX0, "<init>", "()V"⟩
abbrev cX0_clear : ByteArray := prog_2_method_2_code
def yX0_clear : MethodName := ⟨RX0, "clear", "()V"⟩
abbrev cX0_copyFrom : ByteArray := prog_2_method_3_code
def yX0_copyFrom : MethodName := ⟨RX0, "copyFrom", "(LHeardBackward$Court;)V"⟩
abbrev cX0_addStatement : ByteArray := prog_2_method_4_code
def yX0_addStatement : MethodName := ⟨RX0, "addStatement", "(III)Z"⟩
abbrev cX0_addVerdict : ByteArray := prog_2_method_5_code
def yX0_addVerdict : MethodName := ⟨RX0, "addVerdict", "(I)Z"⟩
abbrev cX0_addHang : ByteArray := prog_2_method_6_code
def yX0_addHang : MethodName := ⟨RX0, "addHang", "(II)Z"⟩
abbrev cX0_addPerson : ByteArray := prog_2_method_7_code
def yX0_addPerson : MethodName := ⟨RX0, "addPerson", "(II)Z"⟩
abbrev cX0_isStatement : ByteArray := prog_2_method_8_code
def yX0_isStatement : MethodName := ⟨RX0, "isStatement", "(I)Z"⟩
abbrev cX0_isNight : ByteArray := prog_2_method_9_code
def yX0_isNight : MethodName := ⟨RX0, "isNight", "(I)Z"⟩
abbrev cX0_isVerdict : ByteArray := prog_2_method_10_code
def yX0_isVerdict : MethodName := ⟨RX0, "isVerdict", "(I)Z"⟩
abbrev cX0_all : ByteArray := prog_2_method_11_code
def yX0_all : MethodName := ⟨RX0, "all", "()I"⟩
abbrev cX0_doers : ByteArray := prog_2_method_12_code
def yX0_doers : MethodName := ⟨RX0, "doers", "(I)I"⟩
abbrev cX0_costOf : ByteArray := prog_2_method_13_code
def yX0_costOf : MethodName := ⟨RX0, "costOf", "([II)I"⟩
abbrev cX0_daysOf : ByteArray := prog_2_method_14_code
def yX0_daysOf : MethodName := ⟨RX0, "daysOf", "([II)I"⟩
def RX1 : String := "HeardBackward$Hearing"
def TX1 : u_T := fun k => match k with
  | 0 => ("HeardBackward$Hearing", "row", "[I", true)
  | 1 => ("HeardBackward$Hearing", "length", "I", false)
  | _ => ("HeardBackward$Hearing", "struck", "I", false)
def tyX1 : Nat → FieldType := fun k => match k with
  | 0 => .array .int
  | 1 => .int
  | _ => .int
abbrev wsX10 : List Cond := u_ws RX1 TX1 3
theorem nmX1 : ∀ a, a < 3 → ∀ b, b < 3 → a ≠ b → (TX1 a).2.1 ≠ (TX1 b).2.1 := by decide +kernel
theorem tyX1_ok : ∀ k, k < 3 → parseFieldDescriptor (TX1 k).2.2.1 = some (tyX1 k) := by decide +kernel
abbrev cX1_init : ByteArray := prog_3_method_1_code
def yX1_init : MethodName := ⟨RX1, "<init>", "()V"⟩
abbrev cX1_clear : ByteArray := prog_3_method_2_code
def yX1_clear : MethodName := ⟨RX1, "clear", "()V"⟩
abbrev cX1_copyFrom : ByteArray := prog_3_method_3_code
def yX1_copyFrom : MethodName := ⟨RX1, "copyFrom", "(LHeardBackward$Hearing;)V"⟩
abbrev cX1_add : ByteArray := prog_3_method_4_code
def yX1_add : MethodName := ⟨RX1, "add", "(I)V"⟩
abbrev cX1_members : ByteArray := prog_3_method_5_code
def yX1_members : MethodName := ⟨RX1, "members", "()I"⟩
abbrev cX1_open : ByteArray := prog_3_method_6_code
def yX1_open : MethodName := ⟨RX1, "open", "(LHeardBackward$Court;)I"⟩
abbrev cX1_isEnded : ByteArray := prog_3_method_7_code
def yX1_isEnded : MethodName := ⟨RX1, "isEnded", "(LHeardBackward$Court;)Z"⟩
abbrev cX1_isStuck : ByteArray := prog_3_method_8_code
def yX1_isStuck : MethodName := ⟨RX1, "isStuck", "(LHeardBackward$Court;)Z"⟩
def RX2 : String := "HeardBackward$Reader"
def TX2 : u_T := fun k => match k with
  | 0 => ("HeardBackward$Reader", "numbers", "[I", true)
  | _ => ("HeardBackward$Reader", "amount", "I", false)
def tyX2 : Nat → FieldType := fun k => match k with
  | 0 => .array .int
  | _ => .int
abbrev wsX20 : List Cond := u_ws RX2 TX2 2
theorem nmX2 : ∀ a, a < 2 → ∀ b, b < 2 → a ≠ b → (TX2 a).2.1 ≠ (TX2 b).2.1 := by decide +kernel
theorem tyX2_ok : ∀ k, k < 2 → parseFieldDescriptor (TX2 k).2.2.1 = some (tyX2 k) := by decide +kernel
abbrev cX2_init : ByteArray := prog_4_method_1_code
def yX2_init : MethodName := ⟨RX2, "<init>", "()V"⟩
abbrev cX2_readAll : ByteArray := prog_4_method_2_code
def yX2_readAll : MethodName := ⟨RX2, "readAll", "(LHeardBackward$Script;LHeardBackward$Court;)I"⟩
abbrev cX2_readNumbers : ByteArray := prog_4_method_3_code
def yX2_readNumbers : MethodName := ⟨RX2, "readNumbers", "(LHeardBackward$Script;I)I"⟩
abbrev cX2_figuresFrom : ByteArray := prog_4_method_4_code
def yX2_figuresFrom : MethodName := ⟨RX2, "figuresFrom", "(LHeardBackward$Script;I)I"⟩
abbrev cX2_numberFrom : ByteArray := prog_4_method_5_code
def yX2_numberFrom : MethodName := ⟨RX2, "numberFrom", "(LHeardBackward$Script;II)I"⟩
abbrev cX2_isFigure : ByteArray := prog_4_method_6_code
def yX2_isFigure : MethodName := ⟨RX2, "isFigure", "(I)Z"⟩
abbrev cX2_tell : ByteArray := prog_4_method_7_code
def yX2_tell : MethodName := ⟨RX2, "tell", "(ILHeardBackward$Court;)Z"⟩
def RX3 : String := "HeardBackward$Script"
def TX3 : u_T := fun k => match k with
  | 0 => ("HeardBackward$Script", "letters", "[I", true)
  | _ => ("HeardBackward$Script", "length", "I", false)
def tyX3 : Nat → FieldType := fun k => match k with
  | 0 => .array .int
  | _ => .int
abbrev wsX30 : List Cond := u_ws RX3 TX3 2
theorem nmX3 : ∀ a, a < 2 → ∀ b, b < 2 → a ≠ b → (TX3 a).2.1 ≠ (TX3 b).2.1 := by decide +kernel
theorem tyX3_ok : ∀ k, k < 2 → parseFieldDescriptor (TX3 k).2.2.1 = some (tyX3 k) := by decide +kernel
abbrev cX3_init : ByteArray := prog_5_method_1_code
def yX3_init : MethodName := ⟨RX3, "<init>", "()V"⟩
abbrev cX3_add : ByteArray := prog_5_method_2_code
def yX3_add : MethodName := ⟨RX3, "add", "(I)Z"⟩
abbrev cX3_addAll : ByteArray := prog_5_method_3_code
def yX3_addAll : MethodName := ⟨RX3, "addAll", "(Ljava/lang/String;)V"⟩
abbrev cX3_clear : ByteArray := prog_5_method_4_code
def yX3_clear : MethodName := ⟨RX3, "clear", "()V"⟩
abbrev cX3_letterAt : ByteArray := prog_5_method_5_code
def yX3_letterAt : MethodName := ⟨RX3, "letterAt", "(I)I"⟩
def RX4 : String := "HeardBackward$Shelf"
def TX4 : u_T := fun k => match k with
  | 0 => ("HeardBackward$Shelf", "places", "[LHeardBackward$Hearing;", true)
  | 1 => ("HeardBackward$Shelf", "top", "I", false)
  | _ => ("HeardBackward$Shelf", "size", "I", false)
def tyX4 : Nat → FieldType := fun k => match k with
  | 0 => .array (.object "HeardBackward$Hearing")
  | 1 => .int
  | _ => .int
abbrev wsX40 : List Cond := u_ws RX4 TX4 3
theorem nmX4 : ∀ a, a < 3 → ∀ b, b < 3 → a ≠ b → (TX4 a).2.1 ≠ (TX4 b).2.1 := by decide +kernel
theorem tyX4_ok : ∀ k, k < 3 → parseFieldDescriptor (TX4 k).2.2.1 = some (tyX4 k) := by decide +kernel
abbrev cX4_init : ByteArray := prog_6_method_1_code
def yX4_init : MethodName := ⟨RX4, "<init>", "(I)V"⟩
abbrev cX4_clear : ByteArray := prog_6_method_2_code
def yX4_clear : MethodName := ⟨RX4, "clear", "()V"⟩
abbrev cX4_add : ByteArray := prog_6_method_3_code
def yX4_add : MethodName := ⟨RX4, "add", "(LHeardBackward$Hearing;)V"⟩
abbrev cX4_takeLatest : ByteArray := prog_6_method_4_code
def yX4_takeLatest : MethodName := ⟨RX4, "takeLatest", "(LHeardBackward$Hearing;)Z"⟩
abbrev cX4_placeAt : ByteArray := prog_6_method_5_code
def yX4_placeAt : MethodName := ⟨RX4, "placeAt", "(I)LHeardBackward$Hearing;"⟩
def RX5 : String := "HeardBackward$Survey"
def TX5 : u_T := fun k => match k with
  | 0 => ("HeardBackward$Survey", "row", "[I", true)
  | 1 => ("HeardBackward$Survey", "best", "[I", true)
  | 2 => ("HeardBackward$Survey", "leastTo", "[I", true)
  | 3 => ("HeardBackward$Survey", "found", "I", false)
  | 4 => ("HeardBackward$Survey", "bestCost", "I", false)
  | 5 => ("HeardBackward$Survey", "bestLength", "I", false)
  | 6 => ("HeardBackward$Survey", "fewestDays", "I", false)
  | 7 => ("HeardBackward$Survey", "ends", "I", false)
  | 8 => ("HeardBackward$Survey", "common", "I", false)
  | _ => ("HeardBackward$Survey", "told", "I", false)
def tyX5 : Nat → FieldType := fun k => match k with
  | 0 => .array .int
  | 1 => .array .int
  | 2 => .array .int
  | 3 => .int
  | 4 => .int
  | 5 => .int
  | 6 => .int
  | 7 => .int
  | 8 => .int
  | _ => .int
abbrev wsX50 : List Cond := u_ws RX5 TX5 10
theorem nmX5 : ∀ a, a < 10 → ∀ b, b < 10 → a ≠ b → (TX5 a).2.1 ≠ (TX5 b).2.1 := by decide +kernel
theorem tyX5_ok : ∀ k, k < 10 → parseFieldDescriptor (TX5 k).2.2.1 = some (tyX5 k) := by decide +kernel
abbrev cX5_init : ByteArray := prog_7_method_1_code
def yX5_init : MethodName := ⟨RX5, "<init>", "()V"⟩
abbrev cX5_walkAll : ByteArray := prog_7_method_2_code
def yX5_walkAll : MethodName := ⟨RX5, "walkAll", "(LHeardBackward$Court;II)V"⟩
abbrev cX5_walk : ByteArray := prog_7_method_3_code
def yX5_walk : MethodName := ⟨RX5, "walk", "(LHeardBackward$Survey;LHeardBackward$Court;III)V"⟩
abbrev cX5_note : ByteArray := prog_7_method_4_code
def yX5_note : MethodName := ⟨RX5, "note", "(LHeardBackward$Court;II)V"⟩
def RX6 : String := "HeardBackward"
def TX6 : u_T := fun k => match k with
  | 0 => ("HeardBackward", "script", "LHeardBackward$Script;", true)
  | 1 => ("HeardBackward", "reader", "LHeardBackward$Reader;", true)
  | 2 => ("HeardBackward", "court", "LHeardBackward$Court;", true)
  | 3 => ("HeardBackward", "read", "LHeardBackward$Court;", true)
  | 4 => ("HeardBackward", "hearing", "LHeardBackward$Hearing;", true)
  | 5 => ("HeardBackward", "past", "LHeardBackward$Shelf;", true)
  | 6 => ("HeardBackward", "shelf", "LHeardBackward$Shelf;", true)
  | 7 => ("HeardBackward", "survey", "LHeardBackward$Survey;", true)
  | _ => ("HeardBackward", "secondSurvey", "LHeardBackward$Survey;", true)
def tyX6 : Nat → FieldType := fun k => match k with
  | 0 => .object "HeardBackward$Script"
  | 1 => .object "HeardBackward$Reader"
  | 2 => .object "HeardBackward$Court"
  | 3 => .object "HeardBackward$Court"
  | 4 => .object "HeardBackward$Hearing"
  | 5 => .object "HeardBackward$Shelf"
  | 6 => .object "HeardBackward$Shelf"
  | 7 => .object "HeardBackward$Survey"
  | _ => .object "HeardBackward$Survey"
abbrev wsX60 : List Cond := u_ws RX6 TX6 9
theorem nmX6 : ∀ a, a < 9 → ∀ b, b < 9 → a ≠ b → (TX6 a).2.1 ≠ (TX6 b).2.1 := by decide +kernel
theorem tyX6_ok : ∀ k, k < 9 → parseFieldDescriptor (TX6 k).2.2.1 = some (tyX6 k) := by decide +kernel
abbrev cX6_init : ByteArray := prog_1_method_1_code
def yX6_init : MethodName := ⟨RX6, "<init>", "()V"⟩
abbrev cX6_write : ByteArray := prog_1_method_2_code
def yX6_write : MethodName := ⟨RX6, "write", "(I)I"⟩
abbrev cX6_wipe : ByteArray := prog_1_method_3_code
def yX6_wipe : MethodName := ⟨RX6, "wipe", "()I"⟩
abbrev cX6_fault : ByteArray := prog_1_method_4_code
def yX6_fault : MethodName := ⟨RX6, "fault", "()I"⟩
abbrev cX6_lay : ByteArray := prog_1_method_5_code
def yX6_lay : MethodName := ⟨RX6, "lay", "()I"⟩
abbrev cX6_statement : ByteArray := prog_1_method_6_code
def yX6_statement : MethodName := ⟨RX6, "statement", "(II)I"⟩
abbrev cX6_argue : ByteArray := prog_1_method_7_code
def yX6_argue : MethodName := ⟨RX6, "argue", "(I)I"⟩
abbrev cX6_drop : ByteArray := prog_1_method_8_code
def yX6_drop : MethodName := ⟨RX6, "drop", "()I"⟩
abbrev cX6_strike : ByteArray := prog_1_method_9_code
def yX6_strike : MethodName := ⟨RX6, "strike", "(I)I"⟩
abbrev cX6_undo : ByteArray := prog_1_method_10_code
def yX6_undo : MethodName := ⟨RX6, "undo", "()I"⟩
abbrev cX6_argued : ByteArray := prog_1_method_11_code
def yX6_argued : MethodName := ⟨RX6, "argued", "(I)I"⟩
abbrev cX6_next : ByteArray := prog_1_method_12_code
def yX6_next : MethodName := ⟨RX6, "next", "()I"⟩
abbrev cX6_trial : ByteArray := prog_1_method_13_code
def yX6_trial : MethodName := ⟨RX6, "trial", "(I)I"⟩
abbrev cX6_chains : ByteArray := prog_1_method_14_code
def yX6_chains : MethodName := ⟨RX6, "chains", "(I)I"⟩
abbrev cX6_shortest : ByteArray := prog_1_method_15_code
def yX6_shortest : MethodName := ⟨RX6, "shortest", "(II)I"⟩
abbrev cX6_nights : ByteArray := prog_1_method_16_code
def yX6_nights : MethodName := ⟨RX6, "nights", "(I)I"⟩
abbrev cX6_needed : ByteArray := prog_1_method_17_code
def yX6_needed : MethodName := ⟨RX6, "needed", "(I)I"⟩
abbrev cX6_forgotten : ByteArray := prog_1_method_18_code
def yX6_forgotten : MethodName := ⟨RX6, "forgotten", "()I"⟩
abbrev cX6_both : ByteArray := prog_1_method_19_code
def yX6_both : MethodName := ⟨RX6, "both", "(III)I"⟩
abbrev cX6_byTurns : ByteArray := prog_1_method_20_code
def yX6_byTurns : MethodName := ⟨RX6, "byTurns", "(II)I"⟩
abbrev cX6_days : ByteArray := prog_1_method_21_code
def yX6_days : MethodName := ⟨RX6, "days", "(I)I"⟩
abbrev cX6_who : ByteArray := prog_1_method_22_code
def yX6_who : MethodName := ⟨RX6, "who", "(I)I"⟩
abbrev cX6_fits : ByteArray := prog_1_method_23_code
def yX6_fits : MethodName := ⟨RX6, "fits", "(I)I"⟩
abbrev cX6_look : ByteArray := prog_1_method_24_code
def yX6_look : MethodName := ⟨RX6, "look", "(II)I"⟩
abbrev cX6_laid : ByteArray := prog_1_method_25_code
def yX6_laid : MethodName := ⟨RX6, "laid", "(II)I"⟩
abbrev cX6_odds : ByteArray := prog_1_method_26_code
def yX6_odds : MethodName := ⟨RX6, "odds", "(III)I"⟩
abbrev cX6_trialBy : ByteArray := prog_1_method_27_code
def yX6_trialBy : MethodName := ⟨RX6, "trialBy", "(III)I"⟩
abbrev cX6_keep : ByteArray := prog_1_method_28_code
def yX6_keep : MethodName := ⟨RX6, "keep", "()I"⟩
abbrev cX6_back : ByteArray := prog_1_method_29_code
def yX6_back : MethodName := ⟨RX6, "back", "()I"⟩
abbrev cX6_count : ByteArray := prog_1_method_30_code
def yX6_count : MethodName := ⟨RX6, "count", "(I)I"⟩
abbrev cX6_fittingPeople : ByteArray := prog_1_method_31_code
def yX6_fittingPeople : MethodName := ⟨RX6, "fittingPeople", "(I)I"⟩
abbrev cX6_winningOpening : ByteArray := prog_1_method_32_code
def yX6_winningOpening : MethodName := ⟨RX6, "winningOpening", "(I)I"⟩
abbrev cX6_isWon : ByteArray := prog_1_method_33_code
def yX6_isWon : MethodName := ⟨RX6, "isWon", "(LHeardBackward$Court;IIII)Z"⟩
abbrev cX6_openBehind : ByteArray := prog_1_method_34_code
def yX6_openBehind : MethodName := ⟨RX6, "openBehind", "(LHeardBackward$Court;III)I"⟩
abbrev cX6_draw : ByteArray := prog_1_method_35_code
def yX6_draw : MethodName := ⟨RX6, "draw", "(II)I"⟩
abbrev cX6_bitByRank : ByteArray := prog_1_method_36_code
def yX6_bitByRank : MethodName := ⟨RX6, "bitByRank", "(II)I"⟩
abbrev cX6_commonDivisor : ByteArray := prog_1_method_37_code
def yX6_commonDivisor : MethodName := ⟨RX6, "commonDivisor", "(II)I"⟩
abbrev cX6_outside : ByteArray := prog_1_method_38_code
def yX6_outside : MethodName := ⟨RX6, "outside", "(III)Z"⟩
abbrev cX6_asNumber : ByteArray := prog_1_method_39_code
def yX6_asNumber : MethodName := ⟨RX6, "asNumber", "(Z)I"⟩
abbrev cX6_bit : ByteArray := prog_1_method_40_code
def yX6_bit : MethodName := ⟨RX6, "bit", "(I)I"⟩
abbrev cX6_has : ByteArray := prog_1_method_41_code
def yX6_has : MethodName := ⟨RX6, "has", "(II)Z"⟩
abbrev cX6_at : ByteArray := prog_1_method_42_code
def yX6_at : MethodName := ⟨RX6, "at", "([II)I"⟩
abbrev cX6_put : ByteArray := prog_1_method_43_code
def yX6_put : MethodName := ⟨RX6, "put", "([III)V"⟩
def RX7 : String := "HeardBackwardModel"
def TX7 : u_T := fun k => match k with
  | 0 => ("HeardBackwardModel", "text", "[B", true)
  | 1 => ("HeardBackwardModel", "typed", "I", false)
  | 2 => ("HeardBackwardModel", "many", "[I", true)
  | 3 => ("HeardBackwardModel", "kindOf", "[I", true)
  | 4 => ("HeardBackwardModel", "costOf", "[I", true)
  | 5 => ("HeardBackwardModel", "daysOf", "[I", true)
  | 6 => ("HeardBackwardModel", "hangs", "[I", true)
  | 7 => ("HeardBackwardModel", "verdicts", "[I", true)
  | 8 => ("HeardBackwardModel", "persons", "[I", true)
  | 9 => ("HeardBackwardModel", "couldDo", "[I", true)
  | 10 => ("HeardBackwardModel", "at", "I", false)
  | 11 => ("HeardBackwardModel", "isSo", "Z", false)
  | 12 => ("HeardBackwardModel", "now", "[I", true)
  | 13 => ("HeardBackwardModel", "undoes", "I", false)
  | 14 => ("HeardBackwardModel", "kept", "I", false)
  | 15 => ("HeardBackwardModel", "ways", "[I", true)
  | 16 => ("HeardBackwardModel", "least", "[I", true)
  | 17 => ("HeardBackwardModel", "more", "[I", true)
  | 18 => ("HeardBackwardModel", "then", "[I", true)
  | 19 => ("HeardBackwardModel", "days", "[I", true)
  | 20 => ("HeardBackwardModel", "allHave", "[I", true)
  | 21 => ("HeardBackwardModel", "anyHas", "[I", true)
  | 22 => ("HeardBackwardModel", "ends", "[I", true)
  | 23 => ("HeardBackwardModel", "wins", "[I", true)
  | 24 => ("HeardBackwardModel", "row", "[I", true)
  | _ => ("HeardBackwardModel", "rowLong", "I", false)
def tyX7 : Nat → FieldType := fun k => match k with
  | 0 => .array .byte
  | 1 => .int
  | 2 => .array .int
  | 3 => .array .int
  | 4 => .array .int
  | 5 => .array .int
  | 6 => .array .int
  | 7 => .array .int
  | 8 => .array .int
  | 9 => .array .int
  | 10 => .int
  | 11 => .boolean
  | 12 => .array .int
  | 13 => .int
  | 14 => .int
  | 15 => .array .int
  | 16 => .array .int
  | 17 => .array .int
  | 18 => .array .int
  | 19 => .array .int
  | 20 => .array .int
  | 21 => .array .int
  | 22 => .array .int
  | 23 => .array .int
  | 24 => .array .int
  | _ => .int
abbrev wsX70 : List Cond := u_ws RX7 TX7 26
theorem nmX7 : ∀ a, a < 26 → ∀ b, b < 26 → a ≠ b → (TX7 a).2.1 ≠ (TX7 b).2.1 := by decide +kernel
theorem tyX7_ok : ∀ k, k < 26 → parseFieldDescriptor (TX7 k).2.2.1 = some (tyX7 k) := by decide +kernel
abbrev cX7_init : ByteArray := prog_9_method_1_code
def yX7_init : MethodName := ⟨RX7, "<init>", "()V"⟩
abbrev cX7_firstOf : ByteArray := prog_9_method_2_code
def yX7_firstOf : MethodName := ⟨RX7, "firstOf", "(III)V"⟩
abbrev cX7_firstPerson : ByteArray := prog_9_method_3_code
def yX7_firstPerson : MethodName := ⟨RX7, "firstPerson", "(II)V"⟩
abbrev cX7_in : ByteArray := prog_9_method_5_code
def yX7_in : MethodName := ⟨RX7, "in", "(III)Z"⟩
abbrev cX7_write : ByteArray := prog_9_method_6_code
def yX7_write : MethodName := ⟨RX7, "write", "(I)I"⟩
abbrev cX7_wipe : ByteArray := prog_9_method_7_code
def yX7_wipe : MethodName := ⟨RX7, "wipe", "()I"⟩
abbrev cX7_here : ByteArray := prog_9_method_8_code
def yX7_here : MethodName := ⟨RX7, "here", "()I"⟩
abbrev cX7_number : ByteArray := prog_9_method_9_code
def yX7_number : MethodName := ⟨RX7, "number", "(III)I"⟩
abbrev cX7_statementAt : ByteArray := prog_9_method_10_code
def yX7_statementAt : MethodName := ⟨RX7, "statementAt", "(I)I"⟩
abbrev cX7_readItem : ByteArray := prog_9_method_11_code
def yX7_readItem : MethodName := ⟨RX7, "readItem", "()V"⟩
abbrev cX7_fault : ByteArray := prog_9_method_12_code
def yX7_fault : MethodName := ⟨RX7, "fault", "()I"⟩
abbrev cX7_takeDraft : ByteArray := prog_9_method_13_code
def yX7_takeDraft : MethodName := ⟨RX7, "takeDraft", "()V"⟩
abbrev cX7_lay : ByteArray := prog_9_method_14_code
def yX7_lay : MethodName := ⟨RX7, "lay", "()I"⟩
abbrev cX7_copy : ByteArray := prog_9_method_15_code
def yX7_copy : MethodName := ⟨RX7, "copy", "(II)V"⟩
abbrev cX7_know : ByteArray := prog_9_method_16_code
def yX7_know : MethodName := ⟨RX7, "know", "()V"⟩
abbrev cX7_isStatement : ByteArray := prog_9_method_17_code
def yX7_isStatement : MethodName := ⟨RX7, "isStatement", "(I)Z"⟩
abbrev cX7_isVerdict : ByteArray := prog_9_method_18_code
def yX7_isVerdict : MethodName := ⟨RX7, "isVerdict", "(I)Z"⟩
abbrev cX7_isStruck : ByteArray := prog_9_method_19_code
def yX7_isStruck : MethodName := ⟨RX7, "isStruck", "(I)Z"⟩
abbrev cX7_statement : ByteArray := prog_9_method_20_code
def yX7_statement : MethodName := ⟨RX7, "statement", "(II)I"⟩
abbrev cX7_behind : ByteArray := prog_9_method_21_code
def yX7_behind : MethodName := ⟨RX7, "behind", "(II)I"⟩
abbrev cX7_said : ByteArray := prog_9_method_22_code
def yX7_said : MethodName := ⟨RX7, "said", "()I"⟩
abbrev cX7_next : ByteArray := prog_9_method_23_code
def yX7_next : MethodName := ⟨RX7, "next", "()I"⟩
abbrev cX7_argue : ByteArray := prog_9_method_24_code
def yX7_argue : MethodName := ⟨RX7, "argue", "(I)I"⟩
abbrev cX7_drop : ByteArray := prog_9_method_25_code
def yX7_drop : MethodName := ⟨RX7, "drop", "()I"⟩
abbrev cX7_strike : ByteArray := prog_9_method_26_code
def yX7_strike : MethodName := ⟨RX7, "strike", "(I)I"⟩
abbrev cX7_undo : ByteArray := prog_9_method_27_code
def yX7_undo : MethodName := ⟨RX7, "undo", "()I"⟩
abbrev cX7_argued : ByteArray := prog_9_method_28_code
def yX7_argued : MethodName := ⟨RX7, "argued", "(I)I"⟩
abbrev cX7_cost : ByteArray := prog_9_method_29_code
def yX7_cost : MethodName := ⟨RX7, "cost", "(III)I"⟩
abbrev cX7_trial : ByteArray := prog_9_method_30_code
def yX7_trial : MethodName := ⟨RX7, "trial", "(I)I"⟩
abbrev cX7_manyOf : ByteArray := prog_9_method_31_code
def yX7_manyOf : MethodName := ⟨RX7, "manyOf", "(I)I"⟩
abbrev cX7_couldHave : ByteArray := prog_9_method_32_code
def yX7_couldHave : MethodName := ⟨RX7, "couldHave", "(I)I"⟩
abbrev cX7_endAt : ByteArray := prog_9_method_33_code
def yX7_endAt : MethodName := ⟨RX7, "endAt", "(III)V"⟩
abbrev cX7_goOn : ByteArray := prog_9_method_34_code
def yX7_goOn : MethodName := ⟨RX7, "goOn", "(III)V"⟩
abbrev cX7_solve : ByteArray := prog_9_method_35_code
def yX7_solve : MethodName := ⟨RX7, "solve", "(I)V"⟩
abbrev cX7_rowOf : ByteArray := prog_9_method_36_code
def yX7_rowOf : MethodName := ⟨RX7, "rowOf", "(I)I"⟩
abbrev cX7_hasWhole : ByteArray := prog_9_method_37_code
def yX7_hasWhole : MethodName := ⟨RX7, "hasWhole", "(I)Z"⟩
abbrev cX7_chains : ByteArray := prog_9_method_38_code
def yX7_chains : MethodName := ⟨RX7, "chains", "(I)I"⟩
abbrev cX7_followFrom : ByteArray := prog_9_method_39_code
def yX7_followFrom : MethodName := ⟨RX7, "followFrom", "(I)V"⟩
abbrev cX7_shortest : ByteArray := prog_9_method_40_code
def yX7_shortest : MethodName := ⟨RX7, "shortest", "(II)I"⟩
abbrev cX7_nights : ByteArray := prog_9_method_41_code
def yX7_nights : MethodName := ⟨RX7, "nights", "(I)I"⟩
abbrev cX7_needed : ByteArray := prog_9_method_42_code
def yX7_needed : MethodName := ⟨RX7, "needed", "(I)I"⟩
abbrev cX7_forgotten : ByteArray := prog_9_method_43_code
def yX7_forgotten : MethodName := ⟨RX7, "forgotten", "()I"⟩
abbrev cX7_costTo : ByteArray := prog_9_method_44_code
def yX7_costTo : MethodName := ⟨RX7, "costTo", "(I)I"⟩
abbrev cX7_both : ByteArray := prog_9_method_45_code
def yX7_both : MethodName := ⟨RX7, "both", "(III)I"⟩
abbrev cX7_byTurns : ByteArray := prog_9_method_46_code
def yX7_byTurns : MethodName := ⟨RX7, "byTurns", "(II)I"⟩
abbrev cX7_days : ByteArray := prog_9_method_47_code
def yX7_days : MethodName := ⟨RX7, "days", "(I)I"⟩
abbrev cX7_who : ByteArray := prog_9_method_48_code
def yX7_who : MethodName := ⟨RX7, "who", "(I)I"⟩
abbrev cX7_fitting : ByteArray := prog_9_method_49_code
def yX7_fitting : MethodName := ⟨RX7, "fitting", "(I)I"⟩
abbrev cX7_fits : ByteArray := prog_9_method_50_code
def yX7_fits : MethodName := ⟨RX7, "fits", "(I)I"⟩
abbrev cX7_look : ByteArray := prog_9_method_51_code
def yX7_look : MethodName := ⟨RX7, "look", "(II)I"⟩
abbrev cX7_laid : ByteArray := prog_9_method_52_code
def yX7_laid : MethodName := ⟨RX7, "laid", "(II)I"⟩
abbrev cX7_odds : ByteArray := prog_9_method_53_code
def yX7_odds : MethodName := ⟨RX7, "odds", "(III)I"⟩
abbrev cX7_trialBy : ByteArray := prog_9_method_54_code
def yX7_trialBy : MethodName := ⟨RX7, "trialBy", "(III)I"⟩
abbrev cX7_keep : ByteArray := prog_9_method_55_code
def yX7_keep : MethodName := ⟨RX7, "keep", "()I"⟩
abbrev cX7_back : ByteArray := prog_9_method_56_code
def yX7_back : MethodName := ⟨RX7, "back", "()I"⟩
abbrev cX7_count : ByteArray := prog_9_method_57_code
def yX7_count : MethodName := ⟨RX7, "count", "(I)I"⟩
def RJ6 : String := "java/lang/Integer"
def TJ6 : u_T := fun k => match k with
  | _ => ("", "", "", false)
def tyJ6 : Nat → FieldType := fun k => match k with
  | _ => .int
abbrev cJ6_bitCount_0f7a4 : ByteArray := prog_10_method_49_code
def yJ6_bitCount_0f7a4 : MethodName := ⟨RJ6, "bitCount", "(I)I"⟩
def RJ9 : String := "java/lang/Math"
def TJ9 : u_T := fun k => match k with
  | _ => ("", "", "", false)
def tyJ9 : Nat → FieldType := fun k => match k with
  | _ => .int
abbrev cJ9_max_7cf53 : ByteArray := prog_11_method_65_code
def yJ9_max_7cf53 : MethodName := ⟨RJ9, "max", "(II)I"⟩
abbrev cJ9_min_7cf53 : ByteArray := prog_11_method_69_code
def yJ9_min_7cf53 : MethodName := ⟨RJ9, "min", "(II)I"⟩
def RJ0 : String := "java/lang/String"
def TJ0 : u_T := fun k => match k with
  | _ => ("", "", "", false)
def tyJ0 : Nat → FieldType := fun k => match k with
  | _ => .int
abbrev cJ0_length_8abf5 : ByteArray := prog_12_method_54_code
def yJ0_length_8abf5 : MethodName := ⟨RJ0, "length", "()I"⟩
abbrev cJ0_charAt_5068e : ByteArray := prog_12_method_56_code
def yJ0_charAt_5068e : MethodName := ⟨RJ0, "charAt", "(I)C"⟩
abbrev cJ0_coder_7d493 : ByteArray := prog_12_method_152_code
def yJ0_coder_7d493 : MethodName := ⟨RJ0, "coder", "()B"⟩
abbrev cJ0_isLatin1_aae02 : ByteArray := prog_12_method_154_code
def yJ0_isLatin1_aae02 : MethodName := ⟨RJ0, "isLatin1", "()Z"⟩
abbrev cJ0_checkIndex_df160 : ByteArray := prog_12_method_155_code
def yJ0_checkIndex_df160 : MethodName := ⟨RJ0, "checkIndex", "(II)V"⟩
def RJ1 : String := "java/lang/StringLatin1"
def TJ1 : u_T := fun k => match k with
  | _ => ("", "", "", false)
def tyJ1 : Nat → FieldType := fun k => match k with
  | _ => .int
abbrev cJ1_charAt_3b067 : ByteArray := prog_13_method_2_code
def yJ1_charAt_3b067 : MethodName := ⟨RJ1, "charAt", "([BI)C"⟩
def RJ2 : String := "java/lang/StringUTF16"
def TJ2 : u_T := fun k => match k with
  | _ => ("", "", "", false)
def tyJ2 : Nat → FieldType := fun k => match k with
  | _ => .int
abbrev cJ2_getChar_3b067 : ByteArray := prog_14_method_5_code
def yJ2_getChar_3b067 : MethodName := ⟨RJ2, "getChar", "([BI)C"⟩
abbrev cJ2_length_9d52b : ByteArray := prog_14_method_6_code
def yJ2_length_9d52b : MethodName := ⟨RJ2, "length", "([B)I"⟩
abbrev cJ2_charAt_3b067 : ByteArray := prog_14_method_83_code
def yJ2_charAt_3b067 : MethodName := ⟨RJ2, "charAt", "([BI)C"⟩
abbrev cJ2_checkIndex_2214a : ByteArray := prog_14_method_91_code
def yJ2_checkIndex_2214a : MethodName := ⟨RJ2, "checkIndex", "(I[B)V"⟩
def RJ10 : String := "java/lang/System"
def TJ10 : u_T := fun k => match k with
  | _ => ("", "", "", false)
def tyJ10 : Nat → FieldType := fun k => match k with
  | _ => .int
def RJ3 : String := "jdk/internal/util/Preconditions"
def TJ3 : u_T := fun k => match k with
  | _ => ("", "", "", false)
def tyJ3 : Nat → FieldType := fun k => match k with
  | _ => .int
abbrev cJ3_checkIndex_8e157 : ByteArray := prog_16_method_11_code
def yJ3_checkIndex_8e157 : MethodName := ⟨RJ3, "checkIndex", "(IILjava/util/function/BiFunction;)I"⟩
def RL : String := "HeardBackwardLaw"
abbrev cL_law : ByteArray := code
def yL_law : MethodName := ⟨RL, "law", "([I)Z"⟩
theorem dX0_init_0 : decode cX0_init 0 = .ok (.aload_n 0, 1) := by decide +kernel
theorem dX0_init_1 : decode cX0_init 1 = .ok (.invokespecial 3, 3) := by decide +kernel
theorem dX0_init_4 : decode cX0_init 4 = .ok (.aload_n 0, 1) := by decide +kernel
theorem dX0_init_5 : decode cX0_init 5 = .ok (.bipush 10, 2) := by decide +kernel
theorem dX0_init_7 : decode cX0_init 7 = .ok (.newarray .int, 2) := by decide +kernel
theorem dX0_init_9 : decode cX0_init 9 = .ok (.putfield 9, 3) := by decide +kernel
theorem dX0_init_12 : decode cX0_init 12 = .ok (.aload_n 0, 1) := by decide +kernel
theorem dX0_init_13 : decode cX0_init 13 = .ok (.bipush 10, 2) := by decide +kernel
theorem dX0_init_15 : decode cX0_init 15 = .ok (.newarray .int, 2) := by decide +kernel
theorem dX0_init_17 : decode cX0_init 17 = .ok (.putfield 15, 3) := by decide +kernel
theorem dX0_init_20 : decode cX0_init 20 = .ok (.aload_n 0, 1) := by decide +kernel
theorem dX0_init_21 : decode cX0_init 21 = .ok (.bipush 10, 2) := by decide +kernel
theorem dX0_init_23 : decode cX0_init 23 = .ok (.newarray .int, 2) := by decide +kernel
theorem dX0_init_25 : decode cX0_init 25 = .ok (.putfield 18, 3) := by decide +kernel
theorem dX0_init_28 : decode cX0_init 28 = .ok (.aload_n 0, 1) := by decide +kernel
theorem dX0_init_29 : decode cX0_init 29 = .ok (.bipush 10, 2) := by decide +kernel
theorem dX0_init_31 : decode cX0_init 31 = .ok (.newarray .int, 2) := by decide +kernel
theorem dX0_init_33 : decode cX0_init 33 = .ok (.putfield 21, 3) := by decide +kernel
theorem dX0_init_36 : decode cX0_init 36 = .ok (.aload_n 0, 1) := by decide +kernel
theorem dX0_init_37 : decode cX0_init 37 = .ok (.iconst 5, 1) := by decide +kernel
theorem dX0_init_38 : decode cX0_init 38 = .ok (.newarray .int, 2) := by decide +kernel
theorem dX0_init_40 : decode cX0_init 40 = .ok (.putfield 24, 3) := by decide +kernel
theorem dX0_init_43 : decode cX0_init 43 = .ok (.return_, 1) := by decide +kernel
theorem dX0_clear_0 : decode cX0_clear 0 = .ok (.aload_n 0, 1) := by decide +kernel
theorem dX0_clear_1 : decode cX0_clear 1 = .ok (.iconst 0, 1) := by decide +kernel
theorem dX0_clear_2 : decode cX0_clear 2 = .ok (.putfield 27, 3) := by decide +kernel
theorem dX0_clear_5 : decode cX0_clear 5 = .ok (.aload_n 0, 1) := by decide +kernel
theorem dX0_clear_6 : decode cX0_clear 6 = .ok (.iconst 0, 1) := by decide +kernel
theorem dX0_clear_7 : decode cX0_clear 7 = .ok (.putfield 31, 3) := by decide +kernel
theorem dX0_clear_10 : decode cX0_clear 10 = .ok (.aload_n 0, 1) := by decide +kernel
theorem dX0_clear_11 : decode cX0_clear 11 = .ok (.iconst 0, 1) := by decide +kernel
theorem dX0_clear_12 : decode cX0_clear 12 = .ok (.putfield 34, 3) := by decide +kernel
theorem dX0_clear_15 : decode cX0_clear 15 = .ok (.return_, 1) := by decide +kernel
theorem dX0_copyFrom_0 : decode cX0_copyFrom 0 = .ok (.aload_n 1, 1) := by decide +kernel
theorem dX0_copyFrom_1 : decode cX0_copyFrom 1 = .ok (.getfield 9, 3) := by decide +kernel
theorem dX0_copyFrom_4 : decode cX0_copyFrom 4 = .ok (.iconst 0, 1) := by decide +kernel
theorem dX0_copyFrom_5 : decode cX0_copyFrom 5 = .ok (.aload_n 0, 1) := by decide +kernel
theorem dX0_copyFrom_6 : decode cX0_copyFrom 6 = .ok (.getfield 9, 3) := by decide +kernel
theorem dX0_copyFrom_9 : decode cX0_copyFrom 9 = .ok (.iconst 0, 1) := by decide +kernel
theorem dX0_copyFrom_10 : decode cX0_copyFrom 10 = .ok (.bipush 10, 2) := by decide +kernel
theorem dX0_copyFrom_12 : decode cX0_copyFrom 12 = .ok (.invokestatic 37, 3) := by decide +kernel
theorem dX0_copyFrom_15 : decode cX0_copyFrom 15 = .ok (.aload_n 1, 1) := by decide +kernel
theorem dX0_copyFrom_16 : decode cX0_copyFrom 16 = .ok (.getfield 15, 3) := by decide +kernel
theorem dX0_copyFrom_19 : decode cX0_copyFrom 19 = .ok (.iconst 0, 1) := by decide +kernel
theorem dX0_copyFrom_20 : decode cX0_copyFrom 20 = .ok (.aload_n 0, 1) := by decide +kernel
theorem dX0_copyFrom_21 : decode cX0_copyFrom 21 = .ok (.getfield 15, 3) := by decide +kernel
theorem dX0_copyFrom_24 : decode cX0_copyFrom 24 = .ok (.iconst 0, 1) := by decide +kernel
theorem dX0_copyFrom_25 : decode cX0_copyFrom 25 = .ok (.bipush 10, 2) := by decide +kernel
theorem dX0_copyFrom_27 : decode cX0_copyFrom 27 = .ok (.invokestatic 37, 3) := by decide +kernel
theorem dX0_copyFrom_30 : decode cX0_copyFrom 30 = .ok (.aload_n 1, 1) := by decide +kernel
theorem dX0_copyFrom_31 : decode cX0_copyFrom 31 = .ok (.getfield 18, 3) := by decide +kernel
theorem dX0_copyFrom_34 : decode cX0_copyFrom 34 = .ok (.iconst 0, 1) := by decide +kernel
theorem dX0_copyFrom_35 : decode cX0_copyFrom 35 = .ok (.aload_n 0, 1) := by decide +kernel
theorem dX0_copyFrom_36 : decode cX0_copyFrom 36 = .ok (.getfield 18, 3) := by decide +kernel
theorem dX0_copyFrom_39 : decode cX0_copyFrom 39 = .ok (.iconst 0, 1) := by decide +kernel
theorem dX0_copyFrom_40 : decode cX0_copyFrom 40 = .ok (.bipush 10, 2) := by decide +kernel
theorem dX0_copyFrom_42 : decode cX0_copyFrom 42 = .ok (.invokestatic 37, 3) := by decide +kernel
theorem dX0_copyFrom_45 : decode cX0_copyFrom 45 = .ok (.aload_n 1, 1) := by decide +kernel
theorem dX0_copyFrom_46 : decode cX0_copyFrom 46 = .ok (.getfield 21, 3) := by decide +kernel
theorem dX0_copyFrom_49 : decode cX0_copyFrom 49 = .ok (.iconst 0, 1) := by decide +kernel
theorem dX0_copyFrom_50 : decode cX0_copyFrom 50 = .ok (.aload_n 0, 1) := by decide +kernel
theorem dX0_copyFrom_51 : decode cX0_copyFrom 51 = .ok (.getfield 21, 3) := by decide +kernel
theorem dX0_copyFrom_54 : decode cX0_copyFrom 54 = .ok (.iconst 0, 1) := by decide +kernel
theorem dX0_copyFrom_55 : decode cX0_copyFrom 55 = .ok (.bipush 10, 2) := by decide +kernel
theorem dX0_copyFrom_57 : decode cX0_copyFrom 57 = .ok (.invokestatic 37, 3) := by decide +kernel
theorem dX0_copyFrom_60 : decode cX0_copyFrom 60 = .ok (.aload_n 1, 1) := by decide +kernel
theorem dX0_copyFrom_61 : decode cX0_copyFrom 61 = .ok (.getfield 24, 3) := by decide +kernel
theorem dX0_copyFrom_64 : decode cX0_copyFrom 64 = .ok (.iconst 0, 1) := by decide +kernel
theorem dX0_copyFrom_65 : decode cX0_copyFrom 65 = .ok (.aload_n 0, 1) := by decide +kernel
theorem dX0_copyFrom_66 : decode cX0_copyFrom 66 = .ok (.getfield 24, 3) := by decide +kernel
theorem dX0_copyFrom_69 : decode cX0_copyFrom 69 = .ok (.iconst 0, 1) := by decide +kernel
theorem dX0_copyFrom_70 : decode cX0_copyFrom 70 = .ok (.iconst 5, 1) := by decide +kernel
theorem dX0_copyFrom_71 : decode cX0_copyFrom 71 = .ok (.invokestatic 37, 3) := by decide +kernel
theorem dX0_copyFrom_74 : decode cX0_copyFrom 74 = .ok (.aload_n 0, 1) := by decide +kernel
theorem dX0_copyFrom_75 : decode cX0_copyFrom 75 = .ok (.aload_n 1, 1) := by decide +kernel
theorem dX0_copyFrom_76 : decode cX0_copyFrom 76 = .ok (.getfield 27, 3) := by decide +kernel
theorem dX0_copyFrom_79 : decode cX0_copyFrom 79 = .ok (.putfield 27, 3) := by decide +kernel
theorem dX0_copyFrom_82 : decode cX0_copyFrom 82 = .ok (.aload_n 0, 1) := by decide +kernel
theorem dX0_copyFrom_83 : decode cX0_copyFrom 83 = .ok (.aload_n 1, 1) := by decide +kernel
theorem dX0_copyFrom_84 : decode cX0_copyFrom 84 = .ok (.getfield 31, 3) := by decide +kernel
theorem dX0_copyFrom_87 : decode cX0_copyFrom 87 = .ok (.putfield 31, 3) := by decide +kernel
theorem dX0_copyFrom_90 : decode cX0_copyFrom 90 = .ok (.aload_n 0, 1) := by decide +kernel
theorem dX0_copyFrom_91 : decode cX0_copyFrom 91 = .ok (.aload_n 1, 1) := by decide +kernel
theorem dX0_copyFrom_92 : decode cX0_copyFrom 92 = .ok (.getfield 34, 3) := by decide +kernel
theorem dX0_copyFrom_95 : decode cX0_copyFrom 95 = .ok (.putfield 34, 3) := by decide +kernel
theorem dX0_copyFrom_98 : decode cX0_copyFrom 98 = .ok (.return_, 1) := by decide +kernel
theorem dX0_addStatement_0 : decode cX0_addStatement 0 = .ok (.aload_n 0, 1) := by decide +kernel
theorem dX0_addStatement_1 : decode cX0_addStatement 1 = .ok (.getfield 27, 3) := by decide +kernel
theorem dX0_addStatement_4 : decode cX0_addStatement 4 = .ok (.bipush 10, 2) := by decide +kernel
theorem dX0_addStatement_6 : decode cX0_addStatement 6 = .ok (.if_icmp .ge 32, 3) := by decide +kernel
theorem dX0_addStatement_9 : decode cX0_addStatement 9 = .ok (.iload_n 1, 1) := by decide +kernel
theorem dX0_addStatement_10 : decode cX0_addStatement 10 = .ok (.iconst 0, 1) := by decide +kernel
theorem dX0_addStatement_11 : decode cX0_addStatement 11 = .ok (.iconst 4, 1) := by decide +kernel
theorem dX0_addStatement_12 : decode cX0_addStatement 12 = .ok (.invokestatic 43, 3) := by decide +kernel
theorem dX0_addStatement_15 : decode cX0_addStatement 15 = .ok (.ifCond .ne 23, 3) := by decide +kernel
theorem dX0_addStatement_18 : decode cX0_addStatement 18 = .ok (.iload_n 2, 1) := by decide +kernel
theorem dX0_addStatement_19 : decode cX0_addStatement 19 = .ok (.iconst 0, 1) := by decide +kernel
theorem dX0_addStatement_20 : decode cX0_addStatement 20 = .ok (.bipush 20, 2) := by decide +kernel
theorem dX0_addStatement_22 : decode cX0_addStatement 22 = .ok (.invokestatic 43, 3) := by decide +kernel
theorem dX0_addStatement_25 : decode cX0_addStatement 25 = .ok (.ifCond .ne 13, 3) := by decide +kernel
theorem dX0_addStatement_28 : decode cX0_addStatement 28 = .ok (.iload_n 3, 1) := by decide +kernel
theorem dX0_addStatement_29 : decode cX0_addStatement 29 = .ok (.iconst 0, 1) := by decide +kernel
theorem dX0_addStatement_30 : decode cX0_addStatement 30 = .ok (.bipush 20, 2) := by decide +kernel
theorem dX0_addStatement_32 : decode cX0_addStatement 32 = .ok (.invokestatic 43, 3) := by decide +kernel
theorem dX0_addStatement_35 : decode cX0_addStatement 35 = .ok (.ifCond .eq 5, 3) := by decide +kernel
theorem dX0_addStatement_38 : decode cX0_addStatement 38 = .ok (.iconst 0, 1) := by decide +kernel
theorem dX0_addStatement_39 : decode cX0_addStatement 39 = .ok (.ireturn, 1) := by decide +kernel
theorem dX0_addStatement_40 : decode cX0_addStatement 40 = .ok (.aload_n 0, 1) := by decide +kernel
theorem dX0_addStatement_41 : decode cX0_addStatement 41 = .ok (.getfield 9, 3) := by decide +kernel
theorem dX0_addStatement_44 : decode cX0_addStatement 44 = .ok (.aload_n 0, 1) := by decide +kernel
theorem dX0_addStatement_45 : decode cX0_addStatement 45 = .ok (.getfield 27, 3) := by decide +kernel
theorem dX0_addStatement_48 : decode cX0_addStatement 48 = .ok (.iload_n 1, 1) := by decide +kernel
theorem dX0_addStatement_49 : decode cX0_addStatement 49 = .ok (.invokestatic 47, 3) := by decide +kernel
theorem dX0_addStatement_52 : decode cX0_addStatement 52 = .ok (.aload_n 0, 1) := by decide +kernel
theorem dX0_addStatement_53 : decode cX0_addStatement 53 = .ok (.getfield 15, 3) := by decide +kernel
theorem dX0_addStatement_56 : decode cX0_addStatement 56 = .ok (.aload_n 0, 1) := by decide +kernel
theorem dX0_addStatement_57 : decode cX0_addStatement 57 = .ok (.getfield 27, 3) := by decide +kernel
theorem dX0_addStatement_60 : decode cX0_addStatement 60 = .ok (.iload_n 2, 1) := by decide +kernel
theorem dX0_addStatement_61 : decode cX0_addStatement 61 = .ok (.invokestatic 47, 3) := by decide +kernel
theorem dX0_addStatement_64 : decode cX0_addStatement 64 = .ok (.aload_n 0, 1) := by decide +kernel
theorem dX0_addStatement_65 : decode cX0_addStatement 65 = .ok (.getfield 18, 3) := by decide +kernel
theorem dX0_addStatement_68 : decode cX0_addStatement 68 = .ok (.aload_n 0, 1) := by decide +kernel
theorem dX0_addStatement_69 : decode cX0_addStatement 69 = .ok (.getfield 27, 3) := by decide +kernel
theorem dX0_addStatement_72 : decode cX0_addStatement 72 = .ok (.iload_n 3, 1) := by decide +kernel
theorem dX0_addStatement_73 : decode cX0_addStatement 73 = .ok (.invokestatic 47, 3) := by decide +kernel
theorem dX0_addStatement_76 : decode cX0_addStatement 76 = .ok (.aload_n 0, 1) := by decide +kernel
theorem dX0_addStatement_77 : decode cX0_addStatement 77 = .ok (.getfield 21, 3) := by decide +kernel
theorem dX0_addStatement_80 : decode cX0_addStatement 80 = .ok (.aload_n 0, 1) := by decide +kernel
theorem dX0_addStatement_81 : decode cX0_addStatement 81 = .ok (.getfield 27, 3) := by decide +kernel
theorem dX0_addStatement_84 : decode cX0_addStatement 84 = .ok (.iconst 0, 1) := by decide +kernel
theorem dX0_addStatement_85 : decode cX0_addStatement 85 = .ok (.invokestatic 47, 3) := by decide +kernel
theorem dX0_addStatement_88 : decode cX0_addStatement 88 = .ok (.aload_n 0, 1) := by decide +kernel
theorem dX0_addStatement_89 : decode cX0_addStatement 89 = .ok (.dup, 1) := by decide +kernel
theorem dX0_addStatement_90 : decode cX0_addStatement 90 = .ok (.getfield 27, 3) := by decide +kernel
theorem dX0_addStatement_93 : decode cX0_addStatement 93 = .ok (.iconst 1, 1) := by decide +kernel
theorem dX0_addStatement_94 : decode cX0_addStatement 94 = .ok (.iadd, 1) := by decide +kernel
theorem dX0_addStatement_95 : decode cX0_addStatement 95 = .ok (.putfield 27, 3) := by decide +kernel
theorem dX0_addStatement_98 : decode cX0_addStatement 98 = .ok (.iconst 1, 1) := by decide +kernel
theorem dX0_addStatement_99 : decode cX0_addStatement 99 = .ok (.ireturn, 1) := by decide +kernel
theorem dX0_addVerdict_0 : decode cX0_addVerdict 0 = .ok (.aload_n 0, 1) := by decide +kernel
theorem dX0_addVerdict_1 : decode cX0_addVerdict 1 = .ok (.iload_n 1, 1) := by decide +kernel
theorem dX0_addVerdict_2 : decode cX0_addVerdict 2 = .ok (.invokevirtual 51, 3) := by decide +kernel
theorem dX0_addVerdict_5 : decode cX0_addVerdict 5 = .ok (.ifCond .eq 11, 3) := by decide +kernel
theorem dX0_addVerdict_8 : decode cX0_addVerdict 8 = .ok (.aload_n 0, 1) := by decide +kernel
theorem dX0_addVerdict_9 : decode cX0_addVerdict 9 = .ok (.iload_n 1, 1) := by decide +kernel
theorem dX0_addVerdict_10 : decode cX0_addVerdict 10 = .ok (.invokevirtual 55, 3) := by decide +kernel
theorem dX0_addVerdict_13 : decode cX0_addVerdict 13 = .ok (.ifCond .eq 5, 3) := by decide +kernel
theorem dX0_addVerdict_16 : decode cX0_addVerdict 16 = .ok (.iconst 0, 1) := by decide +kernel
theorem dX0_addVerdict_17 : decode cX0_addVerdict 17 = .ok (.ireturn, 1) := by decide +kernel
theorem dX0_addVerdict_18 : decode cX0_addVerdict 18 = .ok (.aload_n 0, 1) := by decide +kernel
theorem dX0_addVerdict_19 : decode cX0_addVerdict 19 = .ok (.dup, 1) := by decide +kernel
theorem dX0_addVerdict_20 : decode cX0_addVerdict 20 = .ok (.getfield 31, 3) := by decide +kernel
theorem dX0_addVerdict_23 : decode cX0_addVerdict 23 = .ok (.iload_n 1, 1) := by decide +kernel
theorem dX0_addVerdict_24 : decode cX0_addVerdict 24 = .ok (.invokestatic 58, 3) := by decide +kernel
theorem dX0_addVerdict_27 : decode cX0_addVerdict 27 = .ok (.ior, 1) := by decide +kernel
theorem dX0_addVerdict_28 : decode cX0_addVerdict 28 = .ok (.putfield 31, 3) := by decide +kernel
theorem dX0_addVerdict_31 : decode cX0_addVerdict 31 = .ok (.iconst 1, 1) := by decide +kernel
theorem dX0_addVerdict_32 : decode cX0_addVerdict 32 = .ok (.ireturn, 1) := by decide +kernel
theorem dX0_addHang_0 : decode cX0_addHang 0 = .ok (.aload_n 0, 1) := by decide +kernel
theorem dX0_addHang_1 : decode cX0_addHang 1 = .ok (.iload_n 1, 1) := by decide +kernel
theorem dX0_addHang_2 : decode cX0_addHang 2 = .ok (.invokevirtual 51, 3) := by decide +kernel
theorem dX0_addHang_5 : decode cX0_addHang 5 = .ok (.ifCond .eq 24, 3) := by decide +kernel
theorem dX0_addHang_8 : decode cX0_addHang 8 = .ok (.aload_n 0, 1) := by decide +kernel
theorem dX0_addHang_9 : decode cX0_addHang 9 = .ok (.iload_n 2, 1) := by decide +kernel
theorem dX0_addHang_10 : decode cX0_addHang 10 = .ok (.invokevirtual 51, 3) := by decide +kernel
theorem dX0_addHang_13 : decode cX0_addHang 13 = .ok (.ifCond .eq 16, 3) := by decide +kernel
theorem dX0_addHang_16 : decode cX0_addHang 16 = .ok (.iload_n 1, 1) := by decide +kernel
theorem dX0_addHang_17 : decode cX0_addHang 17 = .ok (.iload_n 2, 1) := by decide +kernel
theorem dX0_addHang_18 : decode cX0_addHang 18 = .ok (.if_icmp .eq 11, 3) := by decide +kernel
theorem dX0_addHang_21 : decode cX0_addHang 21 = .ok (.aload_n 0, 1) := by decide +kernel
theorem dX0_addHang_22 : decode cX0_addHang 22 = .ok (.iload_n 1, 1) := by decide +kernel
theorem dX0_addHang_23 : decode cX0_addHang 23 = .ok (.invokevirtual 55, 3) := by decide +kernel
theorem dX0_addHang_26 : decode cX0_addHang 26 = .ok (.ifCond .eq 5, 3) := by decide +kernel
theorem dX0_addHang_29 : decode cX0_addHang 29 = .ok (.iconst 0, 1) := by decide +kernel
theorem dX0_addHang_30 : decode cX0_addHang 30 = .ok (.ireturn, 1) := by decide +kernel
theorem dX0_addHang_31 : decode cX0_addHang 31 = .ok (.aload_n 0, 1) := by decide +kernel
theorem dX0_addHang_32 : decode cX0_addHang 32 = .ok (.getfield 21, 3) := by decide +kernel
theorem dX0_addHang_35 : decode cX0_addHang 35 = .ok (.iload_n 1, 1) := by decide +kernel
theorem dX0_addHang_36 : decode cX0_addHang 36 = .ok (.aload_n 0, 1) := by decide +kernel
theorem dX0_addHang_37 : decode cX0_addHang 37 = .ok (.getfield 21, 3) := by decide +kernel
theorem dX0_addHang_40 : decode cX0_addHang 40 = .ok (.iload_n 1, 1) := by decide +kernel
theorem dX0_addHang_41 : decode cX0_addHang 41 = .ok (.invokestatic 62, 3) := by decide +kernel
theorem dX0_addHang_44 : decode cX0_addHang 44 = .ok (.iload_n 2, 1) := by decide +kernel
theorem dX0_addHang_45 : decode cX0_addHang 45 = .ok (.invokestatic 58, 3) := by decide +kernel
theorem dX0_addHang_48 : decode cX0_addHang 48 = .ok (.ior, 1) := by decide +kernel
theorem dX0_addHang_49 : decode cX0_addHang 49 = .ok (.invokestatic 47, 3) := by decide +kernel
theorem dX0_addHang_52 : decode cX0_addHang 52 = .ok (.iconst 1, 1) := by decide +kernel
theorem dX0_addHang_53 : decode cX0_addHang 53 = .ok (.ireturn, 1) := by decide +kernel
theorem dX0_addPerson_0 : decode cX0_addPerson 0 = .ok (.aload_n 0, 1) := by decide +kernel
theorem dX0_addPerson_1 : decode cX0_addPerson 1 = .ok (.getfield 34, 3) := by decide +kernel
theorem dX0_addPerson_4 : decode cX0_addPerson 4 = .ok (.iconst 5, 1) := by decide +kernel
theorem dX0_addPerson_5 : decode cX0_addPerson 5 = .ok (.if_icmp .ge 19, 3) := by decide +kernel
theorem dX0_addPerson_8 : decode cX0_addPerson 8 = .ok (.aload_n 0, 1) := by decide +kernel
theorem dX0_addPerson_9 : decode cX0_addPerson 9 = .ok (.iload_n 1, 1) := by decide +kernel
theorem dX0_addPerson_10 : decode cX0_addPerson 10 = .ok (.invokevirtual 55, 3) := by decide +kernel
theorem dX0_addPerson_13 : decode cX0_addPerson 13 = .ok (.ifCond .eq 11, 3) := by decide +kernel
theorem dX0_addPerson_16 : decode cX0_addPerson 16 = .ok (.aload_n 0, 1) := by decide +kernel
theorem dX0_addPerson_17 : decode cX0_addPerson 17 = .ok (.iload_n 2, 1) := by decide +kernel
theorem dX0_addPerson_18 : decode cX0_addPerson 18 = .ok (.invokevirtual 55, 3) := by decide +kernel
theorem dX0_addPerson_21 : decode cX0_addPerson 21 = .ok (.ifCond .ne 5, 3) := by decide +kernel
theorem dX0_addPerson_24 : decode cX0_addPerson 24 = .ok (.iconst 0, 1) := by decide +kernel
theorem dX0_addPerson_25 : decode cX0_addPerson 25 = .ok (.ireturn, 1) := by decide +kernel
theorem dX0_addPerson_26 : decode cX0_addPerson 26 = .ok (.aload_n 0, 1) := by decide +kernel
theorem dX0_addPerson_27 : decode cX0_addPerson 27 = .ok (.getfield 24, 3) := by decide +kernel
theorem dX0_addPerson_30 : decode cX0_addPerson 30 = .ok (.aload_n 0, 1) := by decide +kernel
theorem dX0_addPerson_31 : decode cX0_addPerson 31 = .ok (.getfield 34, 3) := by decide +kernel
theorem dX0_addPerson_34 : decode cX0_addPerson 34 = .ok (.iload_n 1, 1) := by decide +kernel
theorem dX0_addPerson_35 : decode cX0_addPerson 35 = .ok (.invokestatic 58, 3) := by decide +kernel
theorem dX0_addPerson_38 : decode cX0_addPerson 38 = .ok (.iload_n 2, 1) := by decide +kernel
theorem dX0_addPerson_39 : decode cX0_addPerson 39 = .ok (.invokestatic 58, 3) := by decide +kernel
theorem dX0_addPerson_42 : decode cX0_addPerson 42 = .ok (.ior, 1) := by decide +kernel
theorem dX0_addPerson_43 : decode cX0_addPerson 43 = .ok (.invokestatic 47, 3) := by decide +kernel
theorem dX0_addPerson_46 : decode cX0_addPerson 46 = .ok (.aload_n 0, 1) := by decide +kernel
theorem dX0_addPerson_47 : decode cX0_addPerson 47 = .ok (.dup, 1) := by decide +kernel
theorem dX0_addPerson_48 : decode cX0_addPerson 48 = .ok (.getfield 34, 3) := by decide +kernel
theorem dX0_addPerson_51 : decode cX0_addPerson 51 = .ok (.iconst 1, 1) := by decide +kernel
theorem dX0_addPerson_52 : decode cX0_addPerson 52 = .ok (.iadd, 1) := by decide +kernel
theorem dX0_addPerson_53 : decode cX0_addPerson 53 = .ok (.putfield 34, 3) := by decide +kernel
theorem dX0_addPerson_56 : decode cX0_addPerson 56 = .ok (.iconst 1, 1) := by decide +kernel
theorem dX0_addPerson_57 : decode cX0_addPerson 57 = .ok (.ireturn, 1) := by decide +kernel
theorem dX0_isStatement_0 : decode cX0_isStatement 0 = .ok (.iload_n 1, 1) := by decide +kernel
theorem dX0_isStatement_1 : decode cX0_isStatement 1 = .ok (.ifCond .lt 15, 3) := by decide +kernel
theorem dX0_isStatement_4 : decode cX0_isStatement 4 = .ok (.iload_n 1, 1) := by decide +kernel
theorem dX0_isStatement_5 : decode cX0_isStatement 5 = .ok (.aload_n 0, 1) := by decide +kernel
theorem dX0_isStatement_6 : decode cX0_isStatement 6 = .ok (.getfield 27, 3) := by decide +kernel
theorem dX0_isStatement_9 : decode cX0_isStatement 9 = .ok (.if_icmp .ge 7, 3) := by decide +kernel
theorem dX0_isStatement_12 : decode cX0_isStatement 12 = .ok (.iconst 1, 1) := by decide +kernel
theorem dX0_isStatement_13 : decode cX0_isStatement 13 = .ok (.goto 4, 3) := by decide +kernel
theorem dX0_isStatement_16 : decode cX0_isStatement 16 = .ok (.iconst 0, 1) := by decide +kernel
theorem dX0_isStatement_17 : decode cX0_isStatement 17 = .ok (.ireturn, 1) := by decide +kernel
theorem dX0_isNight_0 : decode cX0_isNight 0 = .ok (.aload_n 0, 1) := by decide +kernel
theorem dX0_isNight_1 : decode cX0_isNight 1 = .ok (.iload_n 1, 1) := by decide +kernel
theorem dX0_isNight_2 : decode cX0_isNight 2 = .ok (.invokevirtual 51, 3) := by decide +kernel
theorem dX0_isNight_5 : decode cX0_isNight 5 = .ok (.ifCond .eq 19, 3) := by decide +kernel
theorem dX0_isNight_8 : decode cX0_isNight 8 = .ok (.aload_n 0, 1) := by decide +kernel
theorem dX0_isNight_9 : decode cX0_isNight 9 = .ok (.getfield 9, 3) := by decide +kernel
theorem dX0_isNight_12 : decode cX0_isNight 12 = .ok (.iload_n 1, 1) := by decide +kernel
theorem dX0_isNight_13 : decode cX0_isNight 13 = .ok (.invokestatic 62, 3) := by decide +kernel
theorem dX0_isNight_16 : decode cX0_isNight 16 = .ok (.iconst 4, 1) := by decide +kernel
theorem dX0_isNight_17 : decode cX0_isNight 17 = .ok (.if_icmp .ne 7, 3) := by decide +kernel
theorem dX0_isNight_20 : decode cX0_isNight 20 = .ok (.iconst 1, 1) := by decide +kernel
theorem dX0_isNight_21 : decode cX0_isNight 21 = .ok (.goto 4, 3) := by decide +kernel
theorem dX0_isNight_24 : decode cX0_isNight 24 = .ok (.iconst 0, 1) := by decide +kernel
theorem dX0_isNight_25 : decode cX0_isNight 25 = .ok (.ireturn, 1) := by decide +kernel
theorem dX0_isVerdict_0 : decode cX0_isVerdict 0 = .ok (.aload_n 0, 1) := by decide +kernel
theorem dX0_isVerdict_1 : decode cX0_isVerdict 1 = .ok (.iload_n 1, 1) := by decide +kernel
theorem dX0_isVerdict_2 : decode cX0_isVerdict 2 = .ok (.invokevirtual 51, 3) := by decide +kernel
theorem dX0_isVerdict_5 : decode cX0_isVerdict 5 = .ok (.ifCond .eq 18, 3) := by decide +kernel
theorem dX0_isVerdict_8 : decode cX0_isVerdict 8 = .ok (.aload_n 0, 1) := by decide +kernel
theorem dX0_isVerdict_9 : decode cX0_isVerdict 9 = .ok (.getfield 31, 3) := by decide +kernel
theorem dX0_isVerdict_12 : decode cX0_isVerdict 12 = .ok (.iload_n 1, 1) := by decide +kernel
theorem dX0_isVerdict_13 : decode cX0_isVerdict 13 = .ok (.invokestatic 66, 3) := by decide +kernel
theorem dX0_isVerdict_16 : decode cX0_isVerdict 16 = .ok (.ifCond .eq 7, 3) := by decide +kernel
theorem dX0_isVerdict_19 : decode cX0_isVerdict 19 = .ok (.iconst 1, 1) := by decide +kernel
theorem dX0_isVerdict_20 : decode cX0_isVerdict 20 = .ok (.goto 4, 3) := by decide +kernel
theorem dX0_isVerdict_23 : decode cX0_isVerdict 23 = .ok (.iconst 0, 1) := by decide +kernel
theorem dX0_isVerdict_24 : decode cX0_isVerdict 24 = .ok (.ireturn, 1) := by decide +kernel
theorem dX0_all_0 : decode cX0_all 0 = .ok (.iconst 1, 1) := by decide +kernel
theorem dX0_all_1 : decode cX0_all 1 = .ok (.aload_n 0, 1) := by decide +kernel
theorem dX0_all_2 : decode cX0_all 2 = .ok (.getfield 27, 3) := by decide +kernel
theorem dX0_all_5 : decode cX0_all 5 = .ok (.ishl, 1) := by decide +kernel
theorem dX0_all_6 : decode cX0_all 6 = .ok (.iconst 1, 1) := by decide +kernel
theorem dX0_all_7 : decode cX0_all 7 = .ok (.isub, 1) := by decide +kernel
theorem dX0_all_8 : decode cX0_all 8 = .ok (.ireturn, 1) := by decide +kernel
theorem dX0_doers_0 : decode cX0_doers 0 = .ok (.iconst 0, 1) := by decide +kernel
theorem dX0_doers_1 : decode cX0_doers 1 = .ok (.istore_n 2, 1) := by decide +kernel
theorem dX0_doers_2 : decode cX0_doers 2 = .ok (.iconst 0, 1) := by decide +kernel
theorem dX0_doers_3 : decode cX0_doers 3 = .ok (.istore_n 3, 1) := by decide +kernel
theorem dX0_doers_4 : decode cX0_doers 4 = .ok (.iload_n 3, 1) := by decide +kernel
theorem dX0_doers_5 : decode cX0_doers 5 = .ok (.aload_n 0, 1) := by decide +kernel
theorem dX0_doers_6 : decode cX0_doers 6 = .ok (.getfield 34, 3) := by decide +kernel
theorem dX0_doers_9 : decode cX0_doers 9 = .ok (.if_icmp .ge 30, 3) := by decide +kernel
theorem dX0_doers_12 : decode cX0_doers 12 = .ok (.aload_n 0, 1) := by decide +kernel
theorem dX0_doers_13 : decode cX0_doers 13 = .ok (.getfield 24, 3) := by decide +kernel
theorem dX0_doers_16 : decode cX0_doers 16 = .ok (.iload_n 3, 1) := by decide +kernel
theorem dX0_doers_17 : decode cX0_doers 17 = .ok (.invokestatic 62, 3) := by decide +kernel
theorem dX0_doers_20 : decode cX0_doers 20 = .ok (.iload_n 1, 1) := by decide +kernel
theorem dX0_doers_21 : decode cX0_doers 21 = .ok (.invokestatic 66, 3) := by decide +kernel
theorem dX0_doers_24 : decode cX0_doers 24 = .ok (.ifCond .eq 9, 3) := by decide +kernel
theorem dX0_doers_27 : decode cX0_doers 27 = .ok (.iload_n 2, 1) := by decide +kernel
theorem dX0_doers_28 : decode cX0_doers 28 = .ok (.iconst 1, 1) := by decide +kernel
theorem dX0_doers_29 : decode cX0_doers 29 = .ok (.iload_n 3, 1) := by decide +kernel
theorem dX0_doers_30 : decode cX0_doers 30 = .ok (.ishl, 1) := by decide +kernel
theorem dX0_doers_31 : decode cX0_doers 31 = .ok (.ior, 1) := by decide +kernel
theorem dX0_doers_32 : decode cX0_doers 32 = .ok (.istore_n 2, 1) := by decide +kernel
theorem dX0_doers_33 : decode cX0_doers 33 = .ok (.iinc 3 1, 3) := by decide +kernel
theorem dX0_doers_36 : decode cX0_doers 36 = .ok (.goto (-32), 3) := by decide +kernel
theorem dX0_doers_39 : decode cX0_doers 39 = .ok (.iload_n 2, 1) := by decide +kernel
theorem dX0_doers_40 : decode cX0_doers 40 = .ok (.ireturn, 1) := by decide +kernel
theorem dX0_costOf_0 : decode cX0_costOf 0 = .ok (.iconst 0, 1) := by decide +kernel
theorem dX0_costOf_1 : decode cX0_costOf 1 = .ok (.istore_n 3, 1) := by decide +kernel
theorem dX0_costOf_2 : decode cX0_costOf 2 = .ok (.bipush (-4), 2) := by decide +kernel
theorem dX0_costOf_4 : decode cX0_costOf 4 = .ok (.istore 4, 2) := by decide +kernel
theorem dX0_costOf_6 : decode cX0_costOf 6 = .ok (.iconst 0, 1) := by decide +kernel
theorem dX0_costOf_7 : decode cX0_costOf 7 = .ok (.istore 5, 2) := by decide +kernel
theorem dX0_costOf_9 : decode cX0_costOf 9 = .ok (.iload 5, 2) := by decide +kernel
theorem dX0_costOf_11 : decode cX0_costOf 11 = .ok (.iload_n 2, 1) := by decide +kernel
theorem dX0_costOf_12 : decode cX0_costOf 12 = .ok (.if_icmp .ge 94, 3) := by decide +kernel
theorem dX0_costOf_15 : decode cX0_costOf 15 = .ok (.aload_n 1, 1) := by decide +kernel
theorem dX0_costOf_16 : decode cX0_costOf 16 = .ok (.iload 5, 2) := by decide +kernel
theorem dX0_costOf_18 : decode cX0_costOf 18 = .ok (.invokestatic 62, 3) := by decide +kernel
theorem dX0_costOf_21 : decode cX0_costOf 21 = .ok (.istore 6, 2) := by decide +kernel
theorem dX0_costOf_23 : decode cX0_costOf 23 = .ok (.aload_n 0, 1) := by decide +kernel
theorem dX0_costOf_24 : decode cX0_costOf 24 = .ok (.getfield 9, 3) := by decide +kernel
theorem dX0_costOf_27 : decode cX0_costOf 27 = .ok (.iload 6, 2) := by decide +kernel
theorem dX0_costOf_29 : decode cX0_costOf 29 = .ok (.invokestatic 62, 3) := by decide +kernel
theorem dX0_costOf_32 : decode cX0_costOf 32 = .ok (.istore 7, 2) := by decide +kernel
theorem dX0_costOf_34 : decode cX0_costOf 34 = .ok (.iload_n 3, 1) := by decide +kernel
theorem dX0_costOf_35 : decode cX0_costOf 35 = .ok (.aload_n 0, 1) := by decide +kernel
theorem dX0_costOf_36 : decode cX0_costOf 36 = .ok (.getfield 15, 3) := by decide +kernel
theorem dX0_costOf_39 : decode cX0_costOf 39 = .ok (.iload 6, 2) := by decide +kernel
theorem dX0_costOf_41 : decode cX0_costOf 41 = .ok (.invokestatic 62, 3) := by decide +kernel
theorem dX0_costOf_44 : decode cX0_costOf 44 = .ok (.iadd, 1) := by decide +kernel
theorem dX0_costOf_45 : decode cX0_costOf 45 = .ok (.istore_n 3, 1) := by decide +kernel
theorem dX0_costOf_46 : decode cX0_costOf 46 = .ok (.iload 7, 2) := by decide +kernel
theorem dX0_costOf_48 : decode cX0_costOf 48 = .ok (.iconst 1, 1) := by decide +kernel
theorem dX0_costOf_49 : decode cX0_costOf 49 = .ok (.if_icmp .ne 15, 3) := by decide +kernel
theorem dX0_costOf_52 : decode cX0_costOf 52 = .ok (.iload 4, 2) := by decide +kernel
theorem dX0_costOf_54 : decode cX0_costOf 54 = .ok (.iconst 1, 1) := by decide +kernel
theorem dX0_costOf_55 : decode cX0_costOf 55 = .ok (.if_icmp .ne 9, 3) := by decide +kernel
theorem dX0_costOf_58 : decode cX0_costOf 58 = .ok (.iinc 3 2, 3) := by decide +kernel
theorem dX0_costOf_61 : decode cX0_costOf 61 = .ok (.goto 35, 3) := by decide +kernel
theorem dX0_costOf_64 : decode cX0_costOf 64 = .ok (.iload 7, 2) := by decide +kernel
theorem dX0_costOf_66 : decode cX0_costOf 66 = .ok (.iconst 2, 1) := by decide +kernel
theorem dX0_costOf_67 : decode cX0_costOf 67 = .ok (.if_icmp .ne 18, 3) := by decide +kernel
theorem dX0_costOf_70 : decode cX0_costOf 70 = .ok (.iload_n 3, 1) := by decide +kernel
theorem dX0_costOf_71 : decode cX0_costOf 71 = .ok (.aload_n 0, 1) := by decide +kernel
theorem dX0_costOf_72 : decode cX0_costOf 72 = .ok (.getfield 15, 3) := by decide +kernel
theorem dX0_costOf_75 : decode cX0_costOf 75 = .ok (.iload 6, 2) := by decide +kernel
theorem dX0_costOf_77 : decode cX0_costOf 77 = .ok (.invokestatic 62, 3) := by decide +kernel
theorem dX0_costOf_80 : decode cX0_costOf 80 = .ok (.iadd, 1) := by decide +kernel
theorem dX0_costOf_81 : decode cX0_costOf 81 = .ok (.istore_n 3, 1) := by decide +kernel
theorem dX0_costOf_82 : decode cX0_costOf 82 = .ok (.goto 14, 3) := by decide +kernel
theorem dX0_costOf_85 : decode cX0_costOf 85 = .ok (.iload 7, 2) := by decide +kernel
theorem dX0_costOf_87 : decode cX0_costOf 87 = .ok (.iconst 3, 1) := by decide +kernel
theorem dX0_costOf_88 : decode cX0_costOf 88 = .ok (.if_icmp .ne 8, 3) := by decide +kernel
theorem dX0_costOf_91 : decode cX0_costOf 91 = .ok (.iload_n 3, 1) := by decide +kernel
theorem dX0_costOf_92 : decode cX0_costOf 92 = .ok (.iload 5, 2) := by decide +kernel
theorem dX0_costOf_94 : decode cX0_costOf 94 = .ok (.iadd, 1) := by decide +kernel
theorem dX0_costOf_95 : decode cX0_costOf 95 = .ok (.istore_n 3, 1) := by decide +kernel
theorem dX0_costOf_96 : decode cX0_costOf 96 = .ok (.iload 7, 2) := by decide +kernel
theorem dX0_costOf_98 : decode cX0_costOf 98 = .ok (.istore 4, 2) := by decide +kernel
theorem dX0_costOf_100 : decode cX0_costOf 100 = .ok (.iinc 5 1, 3) := by decide +kernel
theorem dX0_costOf_103 : decode cX0_costOf 103 = .ok (.goto (-94), 3) := by decide +kernel
theorem dX0_costOf_106 : decode cX0_costOf 106 = .ok (.iload_n 3, 1) := by decide +kernel
theorem dX0_costOf_107 : decode cX0_costOf 107 = .ok (.ireturn, 1) := by decide +kernel
theorem dX0_daysOf_0 : decode cX0_daysOf 0 = .ok (.iconst 0, 1) := by decide +kernel
theorem dX0_daysOf_1 : decode cX0_daysOf 1 = .ok (.istore_n 3, 1) := by decide +kernel
theorem dX0_daysOf_2 : decode cX0_daysOf 2 = .ok (.iconst 0, 1) := by decide +kernel
theorem dX0_daysOf_3 : decode cX0_daysOf 3 = .ok (.istore 4, 2) := by decide +kernel
theorem dX0_daysOf_5 : decode cX0_daysOf 5 = .ok (.iload 4, 2) := by decide +kernel
theorem dX0_daysOf_7 : decode cX0_daysOf 7 = .ok (.iload_n 2, 1) := by decide +kernel
theorem dX0_daysOf_8 : decode cX0_daysOf 8 = .ok (.if_icmp .ge 25, 3) := by decide +kernel
theorem dX0_daysOf_11 : decode cX0_daysOf 11 = .ok (.iload_n 3, 1) := by decide +kernel
theorem dX0_daysOf_12 : decode cX0_daysOf 12 = .ok (.aload_n 0, 1) := by decide +kernel
theorem dX0_daysOf_13 : decode cX0_daysOf 13 = .ok (.getfield 18, 3) := by decide +kernel
theorem dX0_daysOf_16 : decode cX0_daysOf 16 = .ok (.aload_n 1, 1) := by decide +kernel
theorem dX0_daysOf_17 : decode cX0_daysOf 17 = .ok (.iload 4, 2) := by decide +kernel
theorem dX0_daysOf_19 : decode cX0_daysOf 19 = .ok (.invokestatic 62, 3) := by decide +kernel
theorem dX0_daysOf_22 : decode cX0_daysOf 22 = .ok (.invokestatic 62, 3) := by decide +kernel
theorem dX0_daysOf_25 : decode cX0_daysOf 25 = .ok (.iadd, 1) := by decide +kernel
theorem dX0_daysOf_26 : decode cX0_daysOf 26 = .ok (.istore_n 3, 1) := by decide +kernel
theorem dX0_daysOf_27 : decode cX0_daysOf 27 = .ok (.iinc 4 1, 3) := by decide +kernel
theorem dX0_daysOf_30 : decode cX0_daysOf 30 = .ok (.goto (-25), 3) := by decide +kernel
theorem dX0_daysOf_33 : decode cX0_daysOf 33 = .ok (.iload_n 3, 1) := by decide +kernel
theorem dX0_daysOf_34 : decode cX0_daysOf 34 = .ok (.ireturn, 1) := by decide +kernel
theorem dX1_init_0 : decode cX1_init 0 = .ok (.aload_n 0, 1) := by decide +kernel
theorem dX1_init_1 : decode cX1_init 1 = .ok (.invokespecial 3, 3) := by decide +kernel
theorem dX1_init_4 : decode cX1_init 4 = .ok (.aload_n 0, 1) := by decide +kernel
theorem dX1_init_5 : decode cX1_init 5 = .ok (.bipush 10, 2) := by decide +kernel
theorem dX1_init_7 : decode cX1_init 7 = .ok (.newarray .int, 2) := by decide +kernel
theorem dX1_init_9 : decode cX1_init 9 = .ok (.putfield 9, 3) := by decide +kernel
theorem dX1_init_12 : decode cX1_init 12 = .ok (.return_, 1) := by decide +kernel
theorem dX1_clear_0 : decode cX1_clear 0 = .ok (.aload_n 0, 1) := by decide +kernel
theorem dX1_clear_1 : decode cX1_clear 1 = .ok (.iconst 0, 1) := by decide +kernel
theorem dX1_clear_2 : decode cX1_clear 2 = .ok (.putfield 15, 3) := by decide +kernel
theorem dX1_clear_5 : decode cX1_clear 5 = .ok (.aload_n 0, 1) := by decide +kernel
theorem dX1_clear_6 : decode cX1_clear 6 = .ok (.iconst 0, 1) := by decide +kernel
theorem dX1_clear_7 : decode cX1_clear 7 = .ok (.putfield 19, 3) := by decide +kernel
theorem dX1_clear_10 : decode cX1_clear 10 = .ok (.return_, 1) := by decide +kernel
theorem dX1_copyFrom_0 : decode cX1_copyFrom 0 = .ok (.aload_n 1, 1) := by decide +kernel
theorem dX1_copyFrom_1 : decode cX1_copyFrom 1 = .ok (.getfield 9, 3) := by decide +kernel
theorem dX1_copyFrom_4 : decode cX1_copyFrom 4 = .ok (.iconst 0, 1) := by decide +kernel
theorem dX1_copyFrom_5 : decode cX1_copyFrom 5 = .ok (.aload_n 0, 1) := by decide +kernel
theorem dX1_copyFrom_6 : decode cX1_copyFrom 6 = .ok (.getfield 9, 3) := by decide +kernel
theorem dX1_copyFrom_9 : decode cX1_copyFrom 9 = .ok (.iconst 0, 1) := by decide +kernel
theorem dX1_copyFrom_10 : decode cX1_copyFrom 10 = .ok (.bipush 10, 2) := by decide +kernel
theorem dX1_copyFrom_12 : decode cX1_copyFrom 12 = .ok (.invokestatic 22, 3) := by decide +kernel
theorem dX1_copyFrom_15 : decode cX1_copyFrom 15 = .ok (.aload_n 0, 1) := by decide +kernel
theorem dX1_copyFrom_16 : decode cX1_copyFrom 16 = .ok (.aload_n 1, 1) := by decide +kernel
theorem dX1_copyFrom_17 : decode cX1_copyFrom 17 = .ok (.getfield 15, 3) := by decide +kernel
theorem dX1_copyFrom_20 : decode cX1_copyFrom 20 = .ok (.putfield 15, 3) := by decide +kernel
theorem dX1_copyFrom_23 : decode cX1_copyFrom 23 = .ok (.aload_n 0, 1) := by decide +kernel
theorem dX1_copyFrom_24 : decode cX1_copyFrom 24 = .ok (.aload_n 1, 1) := by decide +kernel
theorem dX1_copyFrom_25 : decode cX1_copyFrom 25 = .ok (.getfield 19, 3) := by decide +kernel
theorem dX1_copyFrom_28 : decode cX1_copyFrom 28 = .ok (.putfield 19, 3) := by decide +kernel
theorem dX1_copyFrom_31 : decode cX1_copyFrom 31 = .ok (.return_, 1) := by decide +kernel
theorem dX1_add_0 : decode cX1_add 0 = .ok (.aload_n 0, 1) := by decide +kernel
theorem dX1_add_1 : decode cX1_add 1 = .ok (.getfield 9, 3) := by decide +kernel
theorem dX1_add_4 : decode cX1_add 4 = .ok (.aload_n 0, 1) := by decide +kernel
theorem dX1_add_5 : decode cX1_add 5 = .ok (.getfield 15, 3) := by decide +kernel
theorem dX1_add_8 : decode cX1_add 8 = .ok (.iload_n 1, 1) := by decide +kernel
theorem dX1_add_9 : decode cX1_add 9 = .ok (.invokestatic 28, 3) := by decide +kernel
theorem dX1_add_12 : decode cX1_add 12 = .ok (.aload_n 0, 1) := by decide +kernel
theorem dX1_add_13 : decode cX1_add 13 = .ok (.dup, 1) := by decide +kernel
theorem dX1_add_14 : decode cX1_add 14 = .ok (.getfield 15, 3) := by decide +kernel
theorem dX1_add_17 : decode cX1_add 17 = .ok (.iconst 1, 1) := by decide +kernel
theorem dX1_add_18 : decode cX1_add 18 = .ok (.iadd, 1) := by decide +kernel
theorem dX1_add_19 : decode cX1_add 19 = .ok (.putfield 15, 3) := by decide +kernel
theorem dX1_add_22 : decode cX1_add 22 = .ok (.return_, 1) := by decide +kernel
theorem dX1_members_0 : decode cX1_members 0 = .ok (.iconst 0, 1) := by decide +kernel
theorem dX1_members_1 : decode cX1_members 1 = .ok (.istore_n 1, 1) := by decide +kernel
theorem dX1_members_2 : decode cX1_members 2 = .ok (.iconst 0, 1) := by decide +kernel
theorem dX1_members_3 : decode cX1_members 3 = .ok (.istore_n 2, 1) := by decide +kernel
theorem dX1_members_4 : decode cX1_members 4 = .ok (.iload_n 2, 1) := by decide +kernel
theorem dX1_members_5 : decode cX1_members 5 = .ok (.aload_n 0, 1) := by decide +kernel
theorem dX1_members_6 : decode cX1_members 6 = .ok (.getfield 15, 3) := by decide +kernel
theorem dX1_members_9 : decode cX1_members 9 = .ok (.if_icmp .ge 23, 3) := by decide +kernel
theorem dX1_members_12 : decode cX1_members 12 = .ok (.iload_n 1, 1) := by decide +kernel
theorem dX1_members_13 : decode cX1_members 13 = .ok (.aload_n 0, 1) := by decide +kernel
theorem dX1_members_14 : decode cX1_members 14 = .ok (.getfield 9, 3) := by decide +kernel
theorem dX1_members_17 : decode cX1_members 17 = .ok (.iload_n 2, 1) := by decide +kernel
theorem dX1_members_18 : decode cX1_members 18 = .ok (.invokestatic 32, 3) := by decide +kernel
theorem dX1_members_21 : decode cX1_members 21 = .ok (.invokestatic 36, 3) := by decide +kernel
theorem dX1_members_24 : decode cX1_members 24 = .ok (.ior, 1) := by decide +kernel
theorem dX1_members_25 : decode cX1_members 25 = .ok (.istore_n 1, 1) := by decide +kernel
theorem dX1_members_26 : decode cX1_members 26 = .ok (.iinc 2 1, 3) := by decide +kernel
theorem dX1_members_29 : decode cX1_members 29 = .ok (.goto (-25), 3) := by decide +kernel
theorem dX1_members_32 : decode cX1_members 32 = .ok (.iload_n 1, 1) := by decide +kernel
theorem dX1_members_33 : decode cX1_members 33 = .ok (.ireturn, 1) := by decide +kernel
theorem dX1_open_0 : decode cX1_open 0 = .ok (.aload_n 0, 1) := by decide +kernel
theorem dX1_open_1 : decode cX1_open 1 = .ok (.getfield 15, 3) := by decide +kernel
theorem dX1_open_4 : decode cX1_open 4 = .ok (.ifCond .ne 15, 3) := by decide +kernel
theorem dX1_open_7 : decode cX1_open 7 = .ok (.aload_n 1, 1) := by decide +kernel
theorem dX1_open_8 : decode cX1_open 8 = .ok (.getfield 40, 3) := by decide +kernel
theorem dX1_open_11 : decode cX1_open 11 = .ok (.aload_n 0, 1) := by decide +kernel
theorem dX1_open_12 : decode cX1_open 12 = .ok (.getfield 19, 3) := by decide +kernel
theorem dX1_open_15 : decode cX1_open 15 = .ok (.iconst (-1), 1) := by decide +kernel
theorem dX1_open_16 : decode cX1_open 16 = .ok (.ixor, 1) := by decide +kernel
theorem dX1_open_17 : decode cX1_open 17 = .ok (.iand, 1) := by decide +kernel
theorem dX1_open_18 : decode cX1_open 18 = .ok (.ireturn, 1) := by decide +kernel
theorem dX1_open_19 : decode cX1_open 19 = .ok (.aload_n 1, 1) := by decide +kernel
theorem dX1_open_20 : decode cX1_open 20 = .ok (.aload_n 0, 1) := by decide +kernel
theorem dX1_open_21 : decode cX1_open 21 = .ok (.getfield 9, 3) := by decide +kernel
theorem dX1_open_24 : decode cX1_open 24 = .ok (.aload_n 0, 1) := by decide +kernel
theorem dX1_open_25 : decode cX1_open 25 = .ok (.getfield 15, 3) := by decide +kernel
theorem dX1_open_28 : decode cX1_open 28 = .ok (.iconst 1, 1) := by decide +kernel
theorem dX1_open_29 : decode cX1_open 29 = .ok (.isub, 1) := by decide +kernel
theorem dX1_open_30 : decode cX1_open 30 = .ok (.invokestatic 32, 3) := by decide +kernel
theorem dX1_open_33 : decode cX1_open 33 = .ok (.aload_n 0, 1) := by decide +kernel
theorem dX1_open_34 : decode cX1_open 34 = .ok (.invokevirtual 45, 3) := by decide +kernel
theorem dX1_open_37 : decode cX1_open 37 = .ok (.aload_n 0, 1) := by decide +kernel
theorem dX1_open_38 : decode cX1_open 38 = .ok (.getfield 19, 3) := by decide +kernel
theorem dX1_open_41 : decode cX1_open 41 = .ok (.invokestatic 49, 3) := by decide +kernel
theorem dX1_open_44 : decode cX1_open 44 = .ok (.ireturn, 1) := by decide +kernel
theorem dX1_isEnded_0 : decode cX1_isEnded 0 = .ok (.aload_n 0, 1) := by decide +kernel
theorem dX1_isEnded_1 : decode cX1_isEnded 1 = .ok (.getfield 15, 3) := by decide +kernel
theorem dX1_isEnded_4 : decode cX1_isEnded 4 = .ok (.ifCond .le 27, 3) := by decide +kernel
theorem dX1_isEnded_7 : decode cX1_isEnded 7 = .ok (.aload_n 1, 1) := by decide +kernel
theorem dX1_isEnded_8 : decode cX1_isEnded 8 = .ok (.aload_n 0, 1) := by decide +kernel
theorem dX1_isEnded_9 : decode cX1_isEnded 9 = .ok (.getfield 9, 3) := by decide +kernel
theorem dX1_isEnded_12 : decode cX1_isEnded 12 = .ok (.aload_n 0, 1) := by decide +kernel
theorem dX1_isEnded_13 : decode cX1_isEnded 13 = .ok (.getfield 15, 3) := by decide +kernel
theorem dX1_isEnded_16 : decode cX1_isEnded 16 = .ok (.iconst 1, 1) := by decide +kernel
theorem dX1_isEnded_17 : decode cX1_isEnded 17 = .ok (.isub, 1) := by decide +kernel
theorem dX1_isEnded_18 : decode cX1_isEnded 18 = .ok (.invokestatic 32, 3) := by decide +kernel
theorem dX1_isEnded_21 : decode cX1_isEnded 21 = .ok (.invokevirtual 53, 3) := by decide +kernel
theorem dX1_isEnded_24 : decode cX1_isEnded 24 = .ok (.ifCond .eq 7, 3) := by decide +kernel
theorem dX1_isEnded_27 : decode cX1_isEnded 27 = .ok (.iconst 1, 1) := by decide +kernel
theorem dX1_isEnded_28 : decode cX1_isEnded 28 = .ok (.goto 4, 3) := by decide +kernel
theorem dX1_isEnded_31 : decode cX1_isEnded 31 = .ok (.iconst 0, 1) := by decide +kernel
theorem dX1_isEnded_32 : decode cX1_isEnded 32 = .ok (.ireturn, 1) := by decide +kernel
theorem dX1_isStuck_0 : decode cX1_isStuck 0 = .ok (.aload_n 0, 1) := by decide +kernel
theorem dX1_isStuck_1 : decode cX1_isStuck 1 = .ok (.getfield 15, 3) := by decide +kernel
theorem dX1_isStuck_4 : decode cX1_isStuck 4 = .ok (.ifCond .le 23, 3) := by decide +kernel
theorem dX1_isStuck_7 : decode cX1_isStuck 7 = .ok (.aload_n 0, 1) := by decide +kernel
theorem dX1_isStuck_8 : decode cX1_isStuck 8 = .ok (.aload_n 1, 1) := by decide +kernel
theorem dX1_isStuck_9 : decode cX1_isStuck 9 = .ok (.invokevirtual 57, 3) := by decide +kernel
theorem dX1_isStuck_12 : decode cX1_isStuck 12 = .ok (.ifCond .ne 15, 3) := by decide +kernel
theorem dX1_isStuck_15 : decode cX1_isStuck 15 = .ok (.aload_n 0, 1) := by decide +kernel
theorem dX1_isStuck_16 : decode cX1_isStuck 16 = .ok (.aload_n 1, 1) := by decide +kernel
theorem dX1_isStuck_17 : decode cX1_isStuck 17 = .ok (.invokevirtual 61, 3) := by decide +kernel
theorem dX1_isStuck_20 : decode cX1_isStuck 20 = .ok (.ifCond .ne 7, 3) := by decide +kernel
theorem dX1_isStuck_23 : decode cX1_isStuck 23 = .ok (.iconst 1, 1) := by decide +kernel
theorem dX1_isStuck_24 : decode cX1_isStuck 24 = .ok (.goto 4, 3) := by decide +kernel
theorem dX1_isStuck_27 : decode cX1_isStuck 27 = .ok (.iconst 0, 1) := by decide +kernel
theorem dX1_isStuck_28 : decode cX1_isStuck 28 = .ok (.ireturn, 1) := by decide +kernel
theorem dX2_init_0 : decode cX2_init 0 = .ok (.aload_n 0, 1) := by decide +kernel
theorem dX2_init_1 : decode cX2_init 1 = .ok (.invokespecial 3, 3) := by decide +kernel
theorem dX2_init_4 : decode cX2_init 4 = .ok (.aload_n 0, 1) := by decide +kernel
theorem dX2_init_5 : decode cX2_init 5 = .ok (.iconst 3, 1) := by decide +kernel
theorem dX2_init_6 : decode cX2_init 6 = .ok (.newarray .int, 2) := by decide +kernel
theorem dX2_init_8 : decode cX2_init 8 = .ok (.putfield 9, 3) := by decide +kernel
theorem dX2_init_11 : decode cX2_init 11 = .ok (.return_, 1) := by decide +kernel
theorem dX2_readAll_0 : decode cX2_readAll 0 = .ok (.aload_n 2, 1) := by decide +kernel
theorem dX2_readAll_1 : decode cX2_readAll 1 = .ok (.invokevirtual 15, 3) := by decide +kernel
theorem dX2_readAll_4 : decode cX2_readAll 4 = .ok (.iconst 0, 1) := by decide +kernel
theorem dX2_readAll_5 : decode cX2_readAll 5 = .ok (.istore_n 3, 1) := by decide +kernel
theorem dX2_readAll_6 : decode cX2_readAll 6 = .ok (.iconst 0, 1) := by decide +kernel
theorem dX2_readAll_7 : decode cX2_readAll 7 = .ok (.istore 4, 2) := by decide +kernel
theorem dX2_readAll_9 : decode cX2_readAll 9 = .ok (.iload 4, 2) := by decide +kernel
theorem dX2_readAll_11 : decode cX2_readAll 11 = .ok (.sipush 200, 3) := by decide +kernel
theorem dX2_readAll_14 : decode cX2_readAll 14 = .ok (.if_icmp .ge 52, 3) := by decide +kernel
theorem dX2_readAll_17 : decode cX2_readAll 17 = .ok (.iload_n 3, 1) := by decide +kernel
theorem dX2_readAll_18 : decode cX2_readAll 18 = .ok (.aload_n 1, 1) := by decide +kernel
theorem dX2_readAll_19 : decode cX2_readAll 19 = .ok (.getfield 20, 3) := by decide +kernel
theorem dX2_readAll_22 : decode cX2_readAll 22 = .ok (.if_icmp .ge 44, 3) := by decide +kernel
theorem dX2_readAll_25 : decode cX2_readAll 25 = .ok (.aload_n 0, 1) := by decide +kernel
theorem dX2_readAll_26 : decode cX2_readAll 26 = .ok (.aload_n 1, 1) := by decide +kernel
theorem dX2_readAll_27 : decode cX2_readAll 27 = .ok (.iload_n 3, 1) := by decide +kernel
theorem dX2_readAll_28 : decode cX2_readAll 28 = .ok (.iconst 1, 1) := by decide +kernel
theorem dX2_readAll_29 : decode cX2_readAll 29 = .ok (.iadd, 1) := by decide +kernel
theorem dX2_readAll_30 : decode cX2_readAll 30 = .ok (.invokevirtual 26, 3) := by decide +kernel
theorem dX2_readAll_33 : decode cX2_readAll 33 = .ok (.istore 5, 2) := by decide +kernel
theorem dX2_readAll_35 : decode cX2_readAll 35 = .ok (.iload 5, 2) := by decide +kernel
theorem dX2_readAll_37 : decode cX2_readAll 37 = .ok (.bipush (-4), 2) := by decide +kernel
theorem dX2_readAll_39 : decode cX2_readAll 39 = .ok (.if_icmp .eq 16, 3) := by decide +kernel
theorem dX2_readAll_42 : decode cX2_readAll 42 = .ok (.aload_n 0, 1) := by decide +kernel
theorem dX2_readAll_43 : decode cX2_readAll 43 = .ok (.aload_n 1, 1) := by decide +kernel
theorem dX2_readAll_44 : decode cX2_readAll 44 = .ok (.iload_n 3, 1) := by decide +kernel
theorem dX2_readAll_45 : decode cX2_readAll 45 = .ok (.invokevirtual 30, 3) := by decide +kernel
theorem dX2_readAll_48 : decode cX2_readAll 48 = .ok (.aload_n 2, 1) := by decide +kernel
theorem dX2_readAll_49 : decode cX2_readAll 49 = .ok (.invokevirtual 34, 3) := by decide +kernel
theorem dX2_readAll_52 : decode cX2_readAll 52 = .ok (.ifCond .ne 5, 3) := by decide +kernel
theorem dX2_readAll_55 : decode cX2_readAll 55 = .ok (.iload_n 3, 1) := by decide +kernel
theorem dX2_readAll_56 : decode cX2_readAll 56 = .ok (.ireturn, 1) := by decide +kernel
theorem dX2_readAll_57 : decode cX2_readAll 57 = .ok (.iload 5, 2) := by decide +kernel
theorem dX2_readAll_59 : decode cX2_readAll 59 = .ok (.istore_n 3, 1) := by decide +kernel
theorem dX2_readAll_60 : decode cX2_readAll 60 = .ok (.iinc 4 1, 3) := by decide +kernel
theorem dX2_readAll_63 : decode cX2_readAll 63 = .ok (.goto (-54), 3) := by decide +kernel
theorem dX2_readAll_66 : decode cX2_readAll 66 = .ok (.bipush (-4), 2) := by decide +kernel
theorem dX2_readAll_68 : decode cX2_readAll 68 = .ok (.ireturn, 1) := by decide +kernel
theorem dX2_readNumbers_0 : decode cX2_readNumbers 0 = .ok (.iload_n 2, 1) := by decide +kernel
theorem dX2_readNumbers_1 : decode cX2_readNumbers 1 = .ok (.istore_n 3, 1) := by decide +kernel
theorem dX2_readNumbers_2 : decode cX2_readNumbers 2 = .ok (.iconst 0, 1) := by decide +kernel
theorem dX2_readNumbers_3 : decode cX2_readNumbers 3 = .ok (.istore 4, 2) := by decide +kernel
theorem dX2_readNumbers_5 : decode cX2_readNumbers 5 = .ok (.iload 4, 2) := by decide +kernel
theorem dX2_readNumbers_7 : decode cX2_readNumbers 7 = .ok (.iconst 3, 1) := by decide +kernel
theorem dX2_readNumbers_8 : decode cX2_readNumbers 8 = .ok (.if_icmp .ge 88, 3) := by decide +kernel
theorem dX2_readNumbers_11 : decode cX2_readNumbers 11 = .ok (.aload_n 1, 1) := by decide +kernel
theorem dX2_readNumbers_12 : decode cX2_readNumbers 12 = .ok (.iload_n 3, 1) := by decide +kernel
theorem dX2_readNumbers_13 : decode cX2_readNumbers 13 = .ok (.invokestatic 38, 3) := by decide +kernel
theorem dX2_readNumbers_16 : decode cX2_readNumbers 16 = .ok (.istore 5, 2) := by decide +kernel
theorem dX2_readNumbers_18 : decode cX2_readNumbers 18 = .ok (.aload_n 0, 1) := by decide +kernel
theorem dX2_readNumbers_19 : decode cX2_readNumbers 19 = .ok (.getfield 9, 3) := by decide +kernel
theorem dX2_readNumbers_22 : decode cX2_readNumbers 22 = .ok (.iload 4, 2) := by decide +kernel
theorem dX2_readNumbers_24 : decode cX2_readNumbers 24 = .ok (.aload_n 1, 1) := by decide +kernel
theorem dX2_readNumbers_25 : decode cX2_readNumbers 25 = .ok (.iload_n 3, 1) := by decide +kernel
theorem dX2_readNumbers_26 : decode cX2_readNumbers 26 = .ok (.iload 5, 2) := by decide +kernel
theorem dX2_readNumbers_28 : decode cX2_readNumbers 28 = .ok (.invokestatic 41, 3) := by decide +kernel
theorem dX2_readNumbers_31 : decode cX2_readNumbers 31 = .ok (.invokestatic 45, 3) := by decide +kernel
theorem dX2_readNumbers_34 : decode cX2_readNumbers 34 = .ok (.aload_n 0, 1) := by decide +kernel
theorem dX2_readNumbers_35 : decode cX2_readNumbers 35 = .ok (.iload 4, 2) := by decide +kernel
theorem dX2_readNumbers_37 : decode cX2_readNumbers 37 = .ok (.iconst 1, 1) := by decide +kernel
theorem dX2_readNumbers_38 : decode cX2_readNumbers 38 = .ok (.iadd, 1) := by decide +kernel
theorem dX2_readNumbers_39 : decode cX2_readNumbers 39 = .ok (.putfield 49, 3) := by decide +kernel
theorem dX2_readNumbers_42 : decode cX2_readNumbers 42 = .ok (.aload_n 1, 1) := by decide +kernel
theorem dX2_readNumbers_43 : decode cX2_readNumbers 43 = .ok (.iload_n 3, 1) := by decide +kernel
theorem dX2_readNumbers_44 : decode cX2_readNumbers 44 = .ok (.iload 5, 2) := by decide +kernel
theorem dX2_readNumbers_46 : decode cX2_readNumbers 46 = .ok (.iadd, 1) := by decide +kernel
theorem dX2_readNumbers_47 : decode cX2_readNumbers 47 = .ok (.invokevirtual 30, 3) := by decide +kernel
theorem dX2_readNumbers_50 : decode cX2_readNumbers 50 = .ok (.istore 6, 2) := by decide +kernel
theorem dX2_readNumbers_52 : decode cX2_readNumbers 52 = .ok (.iload 5, 2) := by decide +kernel
theorem dX2_readNumbers_54 : decode cX2_readNumbers 54 = .ok (.ifCond .eq 17, 3) := by decide +kernel
theorem dX2_readNumbers_57 : decode cX2_readNumbers 57 = .ok (.iload 6, 2) := by decide +kernel
theorem dX2_readNumbers_59 : decode cX2_readNumbers 59 = .ok (.bipush 44, 2) := by decide +kernel
theorem dX2_readNumbers_61 : decode cX2_readNumbers 61 = .ok (.if_icmp .eq 13, 3) := by decide +kernel
theorem dX2_readNumbers_64 : decode cX2_readNumbers 64 = .ok (.iload 6, 2) := by decide +kernel
theorem dX2_readNumbers_66 : decode cX2_readNumbers 66 = .ok (.bipush 59, 2) := by decide +kernel
theorem dX2_readNumbers_68 : decode cX2_readNumbers 68 = .ok (.if_icmp .eq 6, 3) := by decide +kernel
theorem dX2_readNumbers_71 : decode cX2_readNumbers 71 = .ok (.bipush (-4), 2) := by decide +kernel
theorem dX2_readNumbers_73 : decode cX2_readNumbers 73 = .ok (.ireturn, 1) := by decide +kernel
theorem dX2_readNumbers_74 : decode cX2_readNumbers 74 = .ok (.iload_n 3, 1) := by decide +kernel
theorem dX2_readNumbers_75 : decode cX2_readNumbers 75 = .ok (.iload 5, 2) := by decide +kernel
theorem dX2_readNumbers_77 : decode cX2_readNumbers 77 = .ok (.iconst 1, 1) := by decide +kernel
theorem dX2_readNumbers_78 : decode cX2_readNumbers 78 = .ok (.iadd, 1) := by decide +kernel
theorem dX2_readNumbers_79 : decode cX2_readNumbers 79 = .ok (.iadd, 1) := by decide +kernel
theorem dX2_readNumbers_80 : decode cX2_readNumbers 80 = .ok (.istore_n 3, 1) := by decide +kernel
theorem dX2_readNumbers_81 : decode cX2_readNumbers 81 = .ok (.iload 6, 2) := by decide +kernel
theorem dX2_readNumbers_83 : decode cX2_readNumbers 83 = .ok (.bipush 59, 2) := by decide +kernel
theorem dX2_readNumbers_85 : decode cX2_readNumbers 85 = .ok (.if_icmp .ne 5, 3) := by decide +kernel
theorem dX2_readNumbers_88 : decode cX2_readNumbers 88 = .ok (.iload_n 3, 1) := by decide +kernel
theorem dX2_readNumbers_89 : decode cX2_readNumbers 89 = .ok (.ireturn, 1) := by decide +kernel
theorem dX2_readNumbers_90 : decode cX2_readNumbers 90 = .ok (.iinc 4 1, 3) := by decide +kernel
theorem dX2_readNumbers_93 : decode cX2_readNumbers 93 = .ok (.goto (-88), 3) := by decide +kernel
theorem dX2_readNumbers_96 : decode cX2_readNumbers 96 = .ok (.bipush (-4), 2) := by decide +kernel
theorem dX2_readNumbers_98 : decode cX2_readNumbers 98 = .ok (.ireturn, 1) := by decide +kernel
theorem dX2_figuresFrom_0 : decode cX2_figuresFrom 0 = .ok (.aload_n 0, 1) := by decide +kernel
theorem dX2_figuresFrom_1 : decode cX2_figuresFrom 1 = .ok (.iload_n 1, 1) := by decide +kernel
theorem dX2_figuresFrom_2 : decode cX2_figuresFrom 2 = .ok (.invokevirtual 30, 3) := by decide +kernel
theorem dX2_figuresFrom_5 : decode cX2_figuresFrom 5 = .ok (.invokestatic 52, 3) := by decide +kernel
theorem dX2_figuresFrom_8 : decode cX2_figuresFrom 8 = .ok (.ifCond .ne 5, 3) := by decide +kernel
theorem dX2_figuresFrom_11 : decode cX2_figuresFrom 11 = .ok (.iconst 0, 1) := by decide +kernel
theorem dX2_figuresFrom_12 : decode cX2_figuresFrom 12 = .ok (.ireturn, 1) := by decide +kernel
theorem dX2_figuresFrom_13 : decode cX2_figuresFrom 13 = .ok (.aload_n 0, 1) := by decide +kernel
theorem dX2_figuresFrom_14 : decode cX2_figuresFrom 14 = .ok (.iload_n 1, 1) := by decide +kernel
theorem dX2_figuresFrom_15 : decode cX2_figuresFrom 15 = .ok (.iconst 1, 1) := by decide +kernel
theorem dX2_figuresFrom_16 : decode cX2_figuresFrom 16 = .ok (.iadd, 1) := by decide +kernel
theorem dX2_figuresFrom_17 : decode cX2_figuresFrom 17 = .ok (.invokevirtual 30, 3) := by decide +kernel
theorem dX2_figuresFrom_20 : decode cX2_figuresFrom 20 = .ok (.invokestatic 52, 3) := by decide +kernel
theorem dX2_figuresFrom_23 : decode cX2_figuresFrom 23 = .ok (.ifCond .eq 7, 3) := by decide +kernel
theorem dX2_figuresFrom_26 : decode cX2_figuresFrom 26 = .ok (.iconst 2, 1) := by decide +kernel
theorem dX2_figuresFrom_27 : decode cX2_figuresFrom 27 = .ok (.goto 4, 3) := by decide +kernel
theorem dX2_figuresFrom_30 : decode cX2_figuresFrom 30 = .ok (.iconst 1, 1) := by decide +kernel
theorem dX2_figuresFrom_31 : decode cX2_figuresFrom 31 = .ok (.ireturn, 1) := by decide +kernel
theorem dX2_numberFrom_0 : decode cX2_numberFrom 0 = .ok (.iconst 0, 1) := by decide +kernel
theorem dX2_numberFrom_1 : decode cX2_numberFrom 1 = .ok (.istore_n 3, 1) := by decide +kernel
theorem dX2_numberFrom_2 : decode cX2_numberFrom 2 = .ok (.iconst 0, 1) := by decide +kernel
theorem dX2_numberFrom_3 : decode cX2_numberFrom 3 = .ok (.istore 4, 2) := by decide +kernel
theorem dX2_numberFrom_5 : decode cX2_numberFrom 5 = .ok (.iload 4, 2) := by decide +kernel
theorem dX2_numberFrom_7 : decode cX2_numberFrom 7 = .ok (.iload_n 2, 1) := by decide +kernel
theorem dX2_numberFrom_8 : decode cX2_numberFrom 8 = .ok (.if_icmp .ge 26, 3) := by decide +kernel
theorem dX2_numberFrom_11 : decode cX2_numberFrom 11 = .ok (.iload_n 3, 1) := by decide +kernel
theorem dX2_numberFrom_12 : decode cX2_numberFrom 12 = .ok (.bipush 10, 2) := by decide +kernel
theorem dX2_numberFrom_14 : decode cX2_numberFrom 14 = .ok (.imul, 1) := by decide +kernel
theorem dX2_numberFrom_15 : decode cX2_numberFrom 15 = .ok (.aload_n 0, 1) := by decide +kernel
theorem dX2_numberFrom_16 : decode cX2_numberFrom 16 = .ok (.iload_n 1, 1) := by decide +kernel
theorem dX2_numberFrom_17 : decode cX2_numberFrom 17 = .ok (.iload 4, 2) := by decide +kernel
theorem dX2_numberFrom_19 : decode cX2_numberFrom 19 = .ok (.iadd, 1) := by decide +kernel
theorem dX2_numberFrom_20 : decode cX2_numberFrom 20 = .ok (.invokevirtual 30, 3) := by decide +kernel
theorem dX2_numberFrom_23 : decode cX2_numberFrom 23 = .ok (.iadd, 1) := by decide +kernel
theorem dX2_numberFrom_24 : decode cX2_numberFrom 24 = .ok (.bipush 48, 2) := by decide +kernel
theorem dX2_numberFrom_26 : decode cX2_numberFrom 26 = .ok (.isub, 1) := by decide +kernel
theorem dX2_numberFrom_27 : decode cX2_numberFrom 27 = .ok (.istore_n 3, 1) := by decide +kernel
theorem dX2_numberFrom_28 : decode cX2_numberFrom 28 = .ok (.iinc 4 1, 3) := by decide +kernel
theorem dX2_numberFrom_31 : decode cX2_numberFrom 31 = .ok (.goto (-26), 3) := by decide +kernel
theorem dX2_numberFrom_34 : decode cX2_numberFrom 34 = .ok (.iload_n 3, 1) := by decide +kernel
theorem dX2_numberFrom_35 : decode cX2_numberFrom 35 = .ok (.ireturn, 1) := by decide +kernel
theorem dX2_isFigure_0 : decode cX2_isFigure 0 = .ok (.iload_n 0, 1) := by decide +kernel
theorem dX2_isFigure_1 : decode cX2_isFigure 1 = .ok (.bipush 48, 2) := by decide +kernel
theorem dX2_isFigure_3 : decode cX2_isFigure 3 = .ok (.if_icmp .lt 13, 3) := by decide +kernel
theorem dX2_isFigure_6 : decode cX2_isFigure 6 = .ok (.iload_n 0, 1) := by decide +kernel
theorem dX2_isFigure_7 : decode cX2_isFigure 7 = .ok (.bipush 57, 2) := by decide +kernel
theorem dX2_isFigure_9 : decode cX2_isFigure 9 = .ok (.if_icmp .gt 7, 3) := by decide +kernel
theorem dX2_isFigure_12 : decode cX2_isFigure 12 = .ok (.iconst 1, 1) := by decide +kernel
theorem dX2_isFigure_13 : decode cX2_isFigure 13 = .ok (.goto 4, 3) := by decide +kernel
theorem dX2_isFigure_16 : decode cX2_isFigure 16 = .ok (.iconst 0, 1) := by decide +kernel
theorem dX2_isFigure_17 : decode cX2_isFigure 17 = .ok (.ireturn, 1) := by decide +kernel
theorem dX2_tell_0 : decode cX2_tell 0 = .ok (.aload_n 0, 1) := by decide +kernel
theorem dX2_tell_1 : decode cX2_tell 1 = .ok (.getfield 9, 3) := by decide +kernel
theorem dX2_tell_4 : decode cX2_tell 4 = .ok (.iconst 0, 1) := by decide +kernel
theorem dX2_tell_5 : decode cX2_tell 5 = .ok (.invokestatic 56, 3) := by decide +kernel
theorem dX2_tell_8 : decode cX2_tell 8 = .ok (.istore_n 3, 1) := by decide +kernel
theorem dX2_tell_9 : decode cX2_tell 9 = .ok (.aload_n 0, 1) := by decide +kernel
theorem dX2_tell_10 : decode cX2_tell 10 = .ok (.getfield 9, 3) := by decide +kernel
theorem dX2_tell_13 : decode cX2_tell 13 = .ok (.iconst 1, 1) := by decide +kernel
theorem dX2_tell_14 : decode cX2_tell 14 = .ok (.invokestatic 56, 3) := by decide +kernel
theorem dX2_tell_17 : decode cX2_tell 17 = .ok (.istore 4, 2) := by decide +kernel
theorem dX2_tell_19 : decode cX2_tell 19 = .ok (.aload_n 0, 1) := by decide +kernel
theorem dX2_tell_20 : decode cX2_tell 20 = .ok (.getfield 9, 3) := by decide +kernel
theorem dX2_tell_23 : decode cX2_tell 23 = .ok (.iconst 2, 1) := by decide +kernel
theorem dX2_tell_24 : decode cX2_tell 24 = .ok (.invokestatic 56, 3) := by decide +kernel
theorem dX2_tell_27 : decode cX2_tell 27 = .ok (.istore 5, 2) := by decide +kernel
theorem dX2_tell_29 : decode cX2_tell 29 = .ok (.iload_n 1, 1) := by decide +kernel
theorem dX2_tell_30 : decode cX2_tell 30 = .ok (.tableswitch 138 112 118 #[114, 138, 90, 42, 138, 138, 68], 42) := by decide +kernel
theorem dX2_tell_72 : decode cX2_tell 72 = .ok (.aload_n 0, 1) := by decide +kernel
theorem dX2_tell_73 : decode cX2_tell 73 = .ok (.getfield 49, 3) := by decide +kernel
theorem dX2_tell_76 : decode cX2_tell 76 = .ok (.iconst 3, 1) := by decide +kernel
theorem dX2_tell_77 : decode cX2_tell 77 = .ok (.if_icmp .ne 19, 3) := by decide +kernel
theorem dX2_tell_80 : decode cX2_tell 80 = .ok (.aload_n 2, 1) := by decide +kernel
theorem dX2_tell_81 : decode cX2_tell 81 = .ok (.iload_n 3, 1) := by decide +kernel
theorem dX2_tell_82 : decode cX2_tell 82 = .ok (.iload 4, 2) := by decide +kernel
theorem dX2_tell_84 : decode cX2_tell 84 = .ok (.iload 5, 2) := by decide +kernel
theorem dX2_tell_86 : decode cX2_tell 86 = .ok (.invokevirtual 60, 3) := by decide +kernel
theorem dX2_tell_89 : decode cX2_tell 89 = .ok (.ifCond .eq 7, 3) := by decide +kernel
theorem dX2_tell_92 : decode cX2_tell 92 = .ok (.iconst 1, 1) := by decide +kernel
theorem dX2_tell_93 : decode cX2_tell 93 = .ok (.goto 4, 3) := by decide +kernel
theorem dX2_tell_96 : decode cX2_tell 96 = .ok (.iconst 0, 1) := by decide +kernel
theorem dX2_tell_97 : decode cX2_tell 97 = .ok (.ireturn, 1) := by decide +kernel
theorem dX2_tell_98 : decode cX2_tell 98 = .ok (.aload_n 0, 1) := by decide +kernel
theorem dX2_tell_99 : decode cX2_tell 99 = .ok (.getfield 49, 3) := by decide +kernel
theorem dX2_tell_102 : decode cX2_tell 102 = .ok (.iconst 1, 1) := by decide +kernel
theorem dX2_tell_103 : decode cX2_tell 103 = .ok (.if_icmp .ne 15, 3) := by decide +kernel
theorem dX2_tell_106 : decode cX2_tell 106 = .ok (.aload_n 2, 1) := by decide +kernel
theorem dX2_tell_107 : decode cX2_tell 107 = .ok (.iload_n 3, 1) := by decide +kernel
theorem dX2_tell_108 : decode cX2_tell 108 = .ok (.invokevirtual 64, 3) := by decide +kernel
theorem dX2_tell_111 : decode cX2_tell 111 = .ok (.ifCond .eq 7, 3) := by decide +kernel
theorem dX2_tell_114 : decode cX2_tell 114 = .ok (.iconst 1, 1) := by decide +kernel
theorem dX2_tell_115 : decode cX2_tell 115 = .ok (.goto 4, 3) := by decide +kernel
theorem dX2_tell_118 : decode cX2_tell 118 = .ok (.iconst 0, 1) := by decide +kernel
theorem dX2_tell_119 : decode cX2_tell 119 = .ok (.ireturn, 1) := by decide +kernel
theorem dX2_tell_120 : decode cX2_tell 120 = .ok (.aload_n 0, 1) := by decide +kernel
theorem dX2_tell_121 : decode cX2_tell 121 = .ok (.getfield 49, 3) := by decide +kernel
theorem dX2_tell_124 : decode cX2_tell 124 = .ok (.iconst 2, 1) := by decide +kernel
theorem dX2_tell_125 : decode cX2_tell 125 = .ok (.if_icmp .ne 17, 3) := by decide +kernel
theorem dX2_tell_128 : decode cX2_tell 128 = .ok (.aload_n 2, 1) := by decide +kernel
theorem dX2_tell_129 : decode cX2_tell 129 = .ok (.iload_n 3, 1) := by decide +kernel
theorem dX2_tell_130 : decode cX2_tell 130 = .ok (.iload 4, 2) := by decide +kernel
theorem dX2_tell_132 : decode cX2_tell 132 = .ok (.invokevirtual 67, 3) := by decide +kernel
theorem dX2_tell_135 : decode cX2_tell 135 = .ok (.ifCond .eq 7, 3) := by decide +kernel
theorem dX2_tell_138 : decode cX2_tell 138 = .ok (.iconst 1, 1) := by decide +kernel
theorem dX2_tell_139 : decode cX2_tell 139 = .ok (.goto 4, 3) := by decide +kernel
theorem dX2_tell_142 : decode cX2_tell 142 = .ok (.iconst 0, 1) := by decide +kernel
theorem dX2_tell_143 : decode cX2_tell 143 = .ok (.ireturn, 1) := by decide +kernel
theorem dX2_tell_144 : decode cX2_tell 144 = .ok (.aload_n 0, 1) := by decide +kernel
theorem dX2_tell_145 : decode cX2_tell 145 = .ok (.getfield 49, 3) := by decide +kernel
theorem dX2_tell_148 : decode cX2_tell 148 = .ok (.iconst 2, 1) := by decide +kernel
theorem dX2_tell_149 : decode cX2_tell 149 = .ok (.if_icmp .ne 17, 3) := by decide +kernel
theorem dX2_tell_152 : decode cX2_tell 152 = .ok (.aload_n 2, 1) := by decide +kernel
theorem dX2_tell_153 : decode cX2_tell 153 = .ok (.iload_n 3, 1) := by decide +kernel
theorem dX2_tell_154 : decode cX2_tell 154 = .ok (.iload 4, 2) := by decide +kernel
theorem dX2_tell_156 : decode cX2_tell 156 = .ok (.invokevirtual 71, 3) := by decide +kernel
theorem dX2_tell_159 : decode cX2_tell 159 = .ok (.ifCond .eq 7, 3) := by decide +kernel
theorem dX2_tell_162 : decode cX2_tell 162 = .ok (.iconst 1, 1) := by decide +kernel
theorem dX2_tell_163 : decode cX2_tell 163 = .ok (.goto 4, 3) := by decide +kernel
theorem dX2_tell_166 : decode cX2_tell 166 = .ok (.iconst 0, 1) := by decide +kernel
theorem dX2_tell_167 : decode cX2_tell 167 = .ok (.ireturn, 1) := by decide +kernel
theorem dX2_tell_168 : decode cX2_tell 168 = .ok (.iconst 0, 1) := by decide +kernel
theorem dX2_tell_169 : decode cX2_tell 169 = .ok (.ireturn, 1) := by decide +kernel
theorem dX3_init_0 : decode cX3_init 0 = .ok (.aload_n 0, 1) := by decide +kernel
theorem dX3_init_1 : decode cX3_init 1 = .ok (.invokespecial 3, 3) := by decide +kernel
theorem dX3_init_4 : decode cX3_init 4 = .ok (.aload_n 0, 1) := by decide +kernel
theorem dX3_init_5 : decode cX3_init 5 = .ok (.sipush 200, 3) := by decide +kernel
theorem dX3_init_8 : decode cX3_init 8 = .ok (.newarray .int, 2) := by decide +kernel
theorem dX3_init_10 : decode cX3_init 10 = .ok (.putfield 9, 3) := by decide +kernel
theorem dX3_init_13 : decode cX3_init 13 = .ok (.return_, 1) := by decide +kernel
theorem dX3_add_0 : decode cX3_add 0 = .ok (.aload_n 0, 1) := by decide +kernel
theorem dX3_add_1 : decode cX3_add 1 = .ok (.getfield 15, 3) := by decide +kernel
theorem dX3_add_4 : decode cX3_add 4 = .ok (.sipush 200, 3) := by decide +kernel
theorem dX3_add_7 : decode cX3_add 7 = .ok (.if_icmp .lt 5, 3) := by decide +kernel
theorem dX3_add_10 : decode cX3_add 10 = .ok (.iconst 0, 1) := by decide +kernel
theorem dX3_add_11 : decode cX3_add 11 = .ok (.ireturn, 1) := by decide +kernel
theorem dX3_add_12 : decode cX3_add 12 = .ok (.aload_n 0, 1) := by decide +kernel
theorem dX3_add_13 : decode cX3_add 13 = .ok (.getfield 9, 3) := by decide +kernel
theorem dX3_add_16 : decode cX3_add 16 = .ok (.aload_n 0, 1) := by decide +kernel
theorem dX3_add_17 : decode cX3_add 17 = .ok (.getfield 15, 3) := by decide +kernel
theorem dX3_add_20 : decode cX3_add 20 = .ok (.iload_n 1, 1) := by decide +kernel
theorem dX3_add_21 : decode cX3_add 21 = .ok (.invokestatic 19, 3) := by decide +kernel
theorem dX3_add_24 : decode cX3_add 24 = .ok (.aload_n 0, 1) := by decide +kernel
theorem dX3_add_25 : decode cX3_add 25 = .ok (.dup, 1) := by decide +kernel
theorem dX3_add_26 : decode cX3_add 26 = .ok (.getfield 15, 3) := by decide +kernel
theorem dX3_add_29 : decode cX3_add 29 = .ok (.iconst 1, 1) := by decide +kernel
theorem dX3_add_30 : decode cX3_add 30 = .ok (.iadd, 1) := by decide +kernel
theorem dX3_add_31 : decode cX3_add 31 = .ok (.putfield 15, 3) := by decide +kernel
theorem dX3_add_34 : decode cX3_add 34 = .ok (.iconst 1, 1) := by decide +kernel
theorem dX3_add_35 : decode cX3_add 35 = .ok (.ireturn, 1) := by decide +kernel
theorem dX3_addAll_0 : decode cX3_addAll 0 = .ok (.iconst 0, 1) := by decide +kernel
theorem dX3_addAll_1 : decode cX3_addAll 1 = .ok (.istore_n 2, 1) := by decide +kernel
theorem dX3_addAll_2 : decode cX3_addAll 2 = .ok (.iload_n 2, 1) := by decide +kernel
theorem dX3_addAll_3 : decode cX3_addAll 3 = .ok (.aload_n 1, 1) := by decide +kernel
theorem dX3_addAll_4 : decode cX3_addAll 4 = .ok (.invokevirtual 23, 3) := by decide +kernel
theorem dX3_addAll_7 : decode cX3_addAll 7 = .ok (.if_icmp .ge 19, 3) := by decide +kernel
theorem dX3_addAll_10 : decode cX3_addAll 10 = .ok (.aload_n 0, 1) := by decide +kernel
theorem dX3_addAll_11 : decode cX3_addAll 11 = .ok (.aload_n 1, 1) := by decide +kernel
theorem dX3_addAll_12 : decode cX3_addAll 12 = .ok (.iload_n 2, 1) := by decide +kernel
theorem dX3_addAll_13 : decode cX3_addAll 13 = .ok (.invokevirtual 28, 3) := by decide +kernel
theorem dX3_addAll_16 : decode cX3_addAll 16 = .ok (.invokevirtual 32, 3) := by decide +kernel
theorem dX3_addAll_19 : decode cX3_addAll 19 = .ok (.pop, 1) := by decide +kernel
theorem dX3_addAll_20 : decode cX3_addAll 20 = .ok (.iinc 2 1, 3) := by decide +kernel
theorem dX3_addAll_23 : decode cX3_addAll 23 = .ok (.goto (-21), 3) := by decide +kernel
theorem dX3_addAll_26 : decode cX3_addAll 26 = .ok (.return_, 1) := by decide +kernel
theorem dX3_clear_0 : decode cX3_clear 0 = .ok (.aload_n 0, 1) := by decide +kernel
theorem dX3_clear_1 : decode cX3_clear 1 = .ok (.iconst 0, 1) := by decide +kernel
theorem dX3_clear_2 : decode cX3_clear 2 = .ok (.putfield 15, 3) := by decide +kernel
theorem dX3_clear_5 : decode cX3_clear 5 = .ok (.return_, 1) := by decide +kernel
theorem dX3_letterAt_0 : decode cX3_letterAt 0 = .ok (.iload_n 1, 1) := by decide +kernel
theorem dX3_letterAt_1 : decode cX3_letterAt 1 = .ok (.aload_n 0, 1) := by decide +kernel
theorem dX3_letterAt_2 : decode cX3_letterAt 2 = .ok (.getfield 15, 3) := by decide +kernel
theorem dX3_letterAt_5 : decode cX3_letterAt 5 = .ok (.if_icmp .ge 14, 3) := by decide +kernel
theorem dX3_letterAt_8 : decode cX3_letterAt 8 = .ok (.aload_n 0, 1) := by decide +kernel
theorem dX3_letterAt_9 : decode cX3_letterAt 9 = .ok (.getfield 9, 3) := by decide +kernel
theorem dX3_letterAt_12 : decode cX3_letterAt 12 = .ok (.iload_n 1, 1) := by decide +kernel
theorem dX3_letterAt_13 : decode cX3_letterAt 13 = .ok (.invokestatic 36, 3) := by decide +kernel
theorem dX3_letterAt_16 : decode cX3_letterAt 16 = .ok (.goto 5, 3) := by decide +kernel
theorem dX3_letterAt_19 : decode cX3_letterAt 19 = .ok (.bipush (-4), 2) := by decide +kernel
theorem dX3_letterAt_21 : decode cX3_letterAt 21 = .ok (.ireturn, 1) := by decide +kernel
theorem dX4_init_0 : decode cX4_init 0 = .ok (.aload_n 0, 1) := by decide +kernel
theorem dX4_init_1 : decode cX4_init 1 = .ok (.invokespecial 1, 3) := by decide +kernel
theorem dX4_init_4 : decode cX4_init 4 = .ok (.aload_n 0, 1) := by decide +kernel
theorem dX4_init_5 : decode cX4_init 5 = .ok (.iload_n 1, 1) := by decide +kernel
theorem dX4_init_6 : decode cX4_init 6 = .ok (.iconst 1, 1) := by decide +kernel
theorem dX4_init_7 : decode cX4_init 7 = .ok (.invokestatic 7, 3) := by decide +kernel
theorem dX4_init_10 : decode cX4_init 10 = .ok (.anewarray 13, 3) := by decide +kernel
theorem dX4_init_13 : decode cX4_init 13 = .ok (.putfield 15, 3) := by decide +kernel
theorem dX4_init_16 : decode cX4_init 16 = .ok (.iconst 0, 1) := by decide +kernel
theorem dX4_init_17 : decode cX4_init 17 = .ok (.istore_n 2, 1) := by decide +kernel
theorem dX4_init_18 : decode cX4_init 18 = .ok (.iload_n 2, 1) := by decide +kernel
theorem dX4_init_19 : decode cX4_init 19 = .ok (.aload_n 0, 1) := by decide +kernel
theorem dX4_init_20 : decode cX4_init 20 = .ok (.getfield 15, 3) := by decide +kernel
theorem dX4_init_23 : decode cX4_init 23 = .ok (.arraylength, 1) := by decide +kernel
theorem dX4_init_24 : decode cX4_init 24 = .ok (.if_icmp .ge 22, 3) := by decide +kernel
theorem dX4_init_27 : decode cX4_init 27 = .ok (.aload_n 0, 1) := by decide +kernel
theorem dX4_init_28 : decode cX4_init 28 = .ok (.getfield 15, 3) := by decide +kernel
theorem dX4_init_31 : decode cX4_init 31 = .ok (.iload_n 2, 1) := by decide +kernel
theorem dX4_init_32 : decode cX4_init 32 = .ok (.new 13, 3) := by decide +kernel
theorem dX4_init_35 : decode cX4_init 35 = .ok (.dup, 1) := by decide +kernel
theorem dX4_init_36 : decode cX4_init 36 = .ok (.invokespecial 21, 3) := by decide +kernel
theorem dX4_init_39 : decode cX4_init 39 = .ok (.aastore, 1) := by decide +kernel
theorem dX4_init_40 : decode cX4_init 40 = .ok (.iinc 2 1, 3) := by decide +kernel
theorem dX4_init_43 : decode cX4_init 43 = .ok (.goto (-25), 3) := by decide +kernel
theorem dX4_init_46 : decode cX4_init 46 = .ok (.return_, 1) := by decide +kernel
theorem dX4_clear_0 : decode cX4_clear 0 = .ok (.aload_n 0, 1) := by decide +kernel
theorem dX4_clear_1 : decode cX4_clear 1 = .ok (.iconst 0, 1) := by decide +kernel
theorem dX4_clear_2 : decode cX4_clear 2 = .ok (.putfield 22, 3) := by decide +kernel
theorem dX4_clear_5 : decode cX4_clear 5 = .ok (.return_, 1) := by decide +kernel
theorem dX4_add_0 : decode cX4_add 0 = .ok (.aload_n 0, 1) := by decide +kernel
theorem dX4_add_1 : decode cX4_add 1 = .ok (.aload_n 0, 1) := by decide +kernel
theorem dX4_add_2 : decode cX4_add 2 = .ok (.getfield 26, 3) := by decide +kernel
theorem dX4_add_5 : decode cX4_add 5 = .ok (.invokevirtual 29, 3) := by decide +kernel
theorem dX4_add_8 : decode cX4_add 8 = .ok (.astore_n 2, 1) := by decide +kernel
theorem dX4_add_9 : decode cX4_add 9 = .ok (.aload_n 2, 1) := by decide +kernel
theorem dX4_add_10 : decode cX4_add 10 = .ok (.ifnonnull 4, 3) := by decide +kernel
theorem dX4_add_13 : decode cX4_add 13 = .ok (.return_, 1) := by decide +kernel
theorem dX4_add_14 : decode cX4_add 14 = .ok (.aload_n 2, 1) := by decide +kernel
theorem dX4_add_15 : decode cX4_add 15 = .ok (.aload_n 1, 1) := by decide +kernel
theorem dX4_add_16 : decode cX4_add 16 = .ok (.invokevirtual 33, 3) := by decide +kernel
theorem dX4_add_19 : decode cX4_add 19 = .ok (.aload_n 0, 1) := by decide +kernel
theorem dX4_add_20 : decode cX4_add 20 = .ok (.aload_n 0, 1) := by decide +kernel
theorem dX4_add_21 : decode cX4_add 21 = .ok (.getfield 26, 3) := by decide +kernel
theorem dX4_add_24 : decode cX4_add 24 = .ok (.iconst 1, 1) := by decide +kernel
theorem dX4_add_25 : decode cX4_add 25 = .ok (.iadd, 1) := by decide +kernel
theorem dX4_add_26 : decode cX4_add 26 = .ok (.aload_n 0, 1) := by decide +kernel
theorem dX4_add_27 : decode cX4_add 27 = .ok (.getfield 15, 3) := by decide +kernel
theorem dX4_add_30 : decode cX4_add 30 = .ok (.arraylength, 1) := by decide +kernel
theorem dX4_add_31 : decode cX4_add 31 = .ok (.if_icmp .ge 12, 3) := by decide +kernel
theorem dX4_add_34 : decode cX4_add 34 = .ok (.aload_n 0, 1) := by decide +kernel
theorem dX4_add_35 : decode cX4_add 35 = .ok (.getfield 26, 3) := by decide +kernel
theorem dX4_add_38 : decode cX4_add 38 = .ok (.iconst 1, 1) := by decide +kernel
theorem dX4_add_39 : decode cX4_add 39 = .ok (.iadd, 1) := by decide +kernel
theorem dX4_add_40 : decode cX4_add 40 = .ok (.goto 4, 3) := by decide +kernel
theorem dX4_add_43 : decode cX4_add 43 = .ok (.iconst 0, 1) := by decide +kernel
theorem dX4_add_44 : decode cX4_add 44 = .ok (.putfield 26, 3) := by decide +kernel
theorem dX4_add_47 : decode cX4_add 47 = .ok (.aload_n 0, 1) := by decide +kernel
theorem dX4_add_48 : decode cX4_add 48 = .ok (.aload_n 0, 1) := by decide +kernel
theorem dX4_add_49 : decode cX4_add 49 = .ok (.getfield 22, 3) := by decide +kernel
theorem dX4_add_52 : decode cX4_add 52 = .ok (.iconst 1, 1) := by decide +kernel
theorem dX4_add_53 : decode cX4_add 53 = .ok (.iadd, 1) := by decide +kernel
theorem dX4_add_54 : decode cX4_add 54 = .ok (.aload_n 0, 1) := by decide +kernel
theorem dX4_add_55 : decode cX4_add 55 = .ok (.getfield 15, 3) := by decide +kernel
theorem dX4_add_58 : decode cX4_add 58 = .ok (.arraylength, 1) := by decide +kernel
theorem dX4_add_59 : decode cX4_add 59 = .ok (.invokestatic 37, 3) := by decide +kernel
theorem dX4_add_62 : decode cX4_add 62 = .ok (.putfield 22, 3) := by decide +kernel
theorem dX4_add_65 : decode cX4_add 65 = .ok (.return_, 1) := by decide +kernel
theorem dX4_takeLatest_0 : decode cX4_takeLatest 0 = .ok (.aload_n 0, 1) := by decide +kernel
theorem dX4_takeLatest_1 : decode cX4_takeLatest 1 = .ok (.getfield 26, 3) := by decide +kernel
theorem dX4_takeLatest_4 : decode cX4_takeLatest 4 = .ok (.ifCond .le 12, 3) := by decide +kernel
theorem dX4_takeLatest_7 : decode cX4_takeLatest 7 = .ok (.aload_n 0, 1) := by decide +kernel
theorem dX4_takeLatest_8 : decode cX4_takeLatest 8 = .ok (.getfield 26, 3) := by decide +kernel
theorem dX4_takeLatest_11 : decode cX4_takeLatest 11 = .ok (.iconst 1, 1) := by decide +kernel
theorem dX4_takeLatest_12 : decode cX4_takeLatest 12 = .ok (.isub, 1) := by decide +kernel
theorem dX4_takeLatest_13 : decode cX4_takeLatest 13 = .ok (.goto 10, 3) := by decide +kernel
theorem dX4_takeLatest_16 : decode cX4_takeLatest 16 = .ok (.aload_n 0, 1) := by decide +kernel
theorem dX4_takeLatest_17 : decode cX4_takeLatest 17 = .ok (.getfield 15, 3) := by decide +kernel
theorem dX4_takeLatest_20 : decode cX4_takeLatest 20 = .ok (.arraylength, 1) := by decide +kernel
theorem dX4_takeLatest_21 : decode cX4_takeLatest 21 = .ok (.iconst 1, 1) := by decide +kernel
theorem dX4_takeLatest_22 : decode cX4_takeLatest 22 = .ok (.isub, 1) := by decide +kernel
theorem dX4_takeLatest_23 : decode cX4_takeLatest 23 = .ok (.istore_n 2, 1) := by decide +kernel
theorem dX4_takeLatest_24 : decode cX4_takeLatest 24 = .ok (.aload_n 0, 1) := by decide +kernel
theorem dX4_takeLatest_25 : decode cX4_takeLatest 25 = .ok (.iload_n 2, 1) := by decide +kernel
theorem dX4_takeLatest_26 : decode cX4_takeLatest 26 = .ok (.invokevirtual 29, 3) := by decide +kernel
theorem dX4_takeLatest_29 : decode cX4_takeLatest 29 = .ok (.astore_n 3, 1) := by decide +kernel
theorem dX4_takeLatest_30 : decode cX4_takeLatest 30 = .ok (.aload_n 0, 1) := by decide +kernel
theorem dX4_takeLatest_31 : decode cX4_takeLatest 31 = .ok (.getfield 22, 3) := by decide +kernel
theorem dX4_takeLatest_34 : decode cX4_takeLatest 34 = .ok (.ifCond .eq 7, 3) := by decide +kernel
theorem dX4_takeLatest_37 : decode cX4_takeLatest 37 = .ok (.aload_n 3, 1) := by decide +kernel
theorem dX4_takeLatest_38 : decode cX4_takeLatest 38 = .ok (.ifnonnull 5, 3) := by decide +kernel
theorem dX4_takeLatest_41 : decode cX4_takeLatest 41 = .ok (.iconst 0, 1) := by decide +kernel
theorem dX4_takeLatest_42 : decode cX4_takeLatest 42 = .ok (.ireturn, 1) := by decide +kernel
theorem dX4_takeLatest_43 : decode cX4_takeLatest 43 = .ok (.aload_n 1, 1) := by decide +kernel
theorem dX4_takeLatest_44 : decode cX4_takeLatest 44 = .ok (.aload_n 3, 1) := by decide +kernel
theorem dX4_takeLatest_45 : decode cX4_takeLatest 45 = .ok (.invokevirtual 33, 3) := by decide +kernel
theorem dX4_takeLatest_48 : decode cX4_takeLatest 48 = .ok (.aload_n 0, 1) := by decide +kernel
theorem dX4_takeLatest_49 : decode cX4_takeLatest 49 = .ok (.iload_n 2, 1) := by decide +kernel
theorem dX4_takeLatest_50 : decode cX4_takeLatest 50 = .ok (.putfield 26, 3) := by decide +kernel
theorem dX4_takeLatest_53 : decode cX4_takeLatest 53 = .ok (.aload_n 0, 1) := by decide +kernel
theorem dX4_takeLatest_54 : decode cX4_takeLatest 54 = .ok (.dup, 1) := by decide +kernel
theorem dX4_takeLatest_55 : decode cX4_takeLatest 55 = .ok (.getfield 22, 3) := by decide +kernel
theorem dX4_takeLatest_58 : decode cX4_takeLatest 58 = .ok (.iconst 1, 1) := by decide +kernel
theorem dX4_takeLatest_59 : decode cX4_takeLatest 59 = .ok (.isub, 1) := by decide +kernel
theorem dX4_takeLatest_60 : decode cX4_takeLatest 60 = .ok (.putfield 22, 3) := by decide +kernel
theorem dX4_takeLatest_63 : decode cX4_takeLatest 63 = .ok (.iconst 1, 1) := by decide +kernel
theorem dX4_takeLatest_64 : decode cX4_takeLatest 64 = .ok (.ireturn, 1) := by decide +kernel
theorem dX4_placeAt_0 : decode cX4_placeAt 0 = .ok (.iload_n 1, 1) := by decide +kernel
theorem dX4_placeAt_1 : decode cX4_placeAt 1 = .ok (.ifCond .lt 21, 3) := by decide +kernel
theorem dX4_placeAt_4 : decode cX4_placeAt 4 = .ok (.iload_n 1, 1) := by decide +kernel
theorem dX4_placeAt_5 : decode cX4_placeAt 5 = .ok (.aload_n 0, 1) := by decide +kernel
theorem dX4_placeAt_6 : decode cX4_placeAt 6 = .ok (.getfield 15, 3) := by decide +kernel
theorem dX4_placeAt_9 : decode cX4_placeAt 9 = .ok (.arraylength, 1) := by decide +kernel
theorem dX4_placeAt_10 : decode cX4_placeAt 10 = .ok (.if_icmp .ge 12, 3) := by decide +kernel
theorem dX4_placeAt_13 : decode cX4_placeAt 13 = .ok (.aload_n 0, 1) := by decide +kernel
theorem dX4_placeAt_14 : decode cX4_placeAt 14 = .ok (.getfield 15, 3) := by decide +kernel
theorem dX4_placeAt_17 : decode cX4_placeAt 17 = .ok (.iload_n 1, 1) := by decide +kernel
theorem dX4_placeAt_18 : decode cX4_placeAt 18 = .ok (.aaload, 1) := by decide +kernel
theorem dX4_placeAt_19 : decode cX4_placeAt 19 = .ok (.goto 4, 3) := by decide +kernel
theorem dX4_placeAt_22 : decode cX4_placeAt 22 = .ok (.aconst_null, 1) := by decide +kernel
theorem dX4_placeAt_23 : decode cX4_placeAt 23 = .ok (.areturn, 1) := by decide +kernel
theorem dX5_init_0 : decode cX5_init 0 = .ok (.aload_n 0, 1) := by decide +kernel
theorem dX5_init_1 : decode cX5_init 1 = .ok (.invokespecial 3, 3) := by decide +kernel
theorem dX5_init_4 : decode cX5_init 4 = .ok (.aload_n 0, 1) := by decide +kernel
theorem dX5_init_5 : decode cX5_init 5 = .ok (.bipush 10, 2) := by decide +kernel
theorem dX5_init_7 : decode cX5_init 7 = .ok (.newarray .int, 2) := by decide +kernel
theorem dX5_init_9 : decode cX5_init 9 = .ok (.putfield 9, 3) := by decide +kernel
theorem dX5_init_12 : decode cX5_init 12 = .ok (.aload_n 0, 1) := by decide +kernel
theorem dX5_init_13 : decode cX5_init 13 = .ok (.bipush 10, 2) := by decide +kernel
theorem dX5_init_15 : decode cX5_init 15 = .ok (.newarray .int, 2) := by decide +kernel
theorem dX5_init_17 : decode cX5_init 17 = .ok (.putfield 15, 3) := by decide +kernel
theorem dX5_init_20 : decode cX5_init 20 = .ok (.aload_n 0, 1) := by decide +kernel
theorem dX5_init_21 : decode cX5_init 21 = .ok (.bipush 10, 2) := by decide +kernel
theorem dX5_init_23 : decode cX5_init 23 = .ok (.newarray .int, 2) := by decide +kernel
theorem dX5_init_25 : decode cX5_init 25 = .ok (.putfield 18, 3) := by decide +kernel
theorem dX5_init_28 : decode cX5_init 28 = .ok (.return_, 1) := by decide +kernel
theorem dX5_walkAll_0 : decode cX5_walkAll 0 = .ok (.aload_n 0, 1) := by decide +kernel
theorem dX5_walkAll_1 : decode cX5_walkAll 1 = .ok (.iconst 0, 1) := by decide +kernel
theorem dX5_walkAll_2 : decode cX5_walkAll 2 = .ok (.putfield 21, 3) := by decide +kernel
theorem dX5_walkAll_5 : decode cX5_walkAll 5 = .ok (.aload_n 0, 1) := by decide +kernel
theorem dX5_walkAll_6 : decode cX5_walkAll 6 = .ok (.iconst 0, 1) := by decide +kernel
theorem dX5_walkAll_7 : decode cX5_walkAll 7 = .ok (.putfield 25, 3) := by decide +kernel
theorem dX5_walkAll_10 : decode cX5_walkAll 10 = .ok (.aload_n 0, 1) := by decide +kernel
theorem dX5_walkAll_11 : decode cX5_walkAll 11 = .ok (.iconst 0, 1) := by decide +kernel
theorem dX5_walkAll_12 : decode cX5_walkAll 12 = .ok (.putfield 28, 3) := by decide +kernel
theorem dX5_walkAll_15 : decode cX5_walkAll 15 = .ok (.aload_n 0, 1) := by decide +kernel
theorem dX5_walkAll_16 : decode cX5_walkAll 16 = .ok (.iconst 0, 1) := by decide +kernel
theorem dX5_walkAll_17 : decode cX5_walkAll 17 = .ok (.putfield 31, 3) := by decide +kernel
theorem dX5_walkAll_20 : decode cX5_walkAll 20 = .ok (.iload_n 3, 1) := by decide +kernel
theorem dX5_walkAll_21 : decode cX5_walkAll 21 = .ok (.iload_n 2, 1) := by decide +kernel
theorem dX5_walkAll_22 : decode cX5_walkAll 22 = .ok (.invokestatic 34, 3) := by decide +kernel
theorem dX5_walkAll_25 : decode cX5_walkAll 25 = .ok (.ifCond .ne 23, 3) := by decide +kernel
theorem dX5_walkAll_28 : decode cX5_walkAll 28 = .ok (.aload_n 0, 1) := by decide +kernel
theorem dX5_walkAll_29 : decode cX5_walkAll 29 = .ok (.getfield 9, 3) := by decide +kernel
theorem dX5_walkAll_32 : decode cX5_walkAll 32 = .ok (.iconst 0, 1) := by decide +kernel
theorem dX5_walkAll_33 : decode cX5_walkAll 33 = .ok (.iload_n 2, 1) := by decide +kernel
theorem dX5_walkAll_34 : decode cX5_walkAll 34 = .ok (.invokestatic 38, 3) := by decide +kernel
theorem dX5_walkAll_37 : decode cX5_walkAll 37 = .ok (.aload_n 0, 1) := by decide +kernel
theorem dX5_walkAll_38 : decode cX5_walkAll 38 = .ok (.aload_n 1, 1) := by decide +kernel
theorem dX5_walkAll_39 : decode cX5_walkAll 39 = .ok (.iload_n 3, 1) := by decide +kernel
theorem dX5_walkAll_40 : decode cX5_walkAll 40 = .ok (.iload_n 2, 1) := by decide +kernel
theorem dX5_walkAll_41 : decode cX5_walkAll 41 = .ok (.invokestatic 42, 3) := by decide +kernel
theorem dX5_walkAll_44 : decode cX5_walkAll 44 = .ok (.iconst 1, 1) := by decide +kernel
theorem dX5_walkAll_45 : decode cX5_walkAll 45 = .ok (.invokestatic 46, 3) := by decide +kernel
theorem dX5_walkAll_48 : decode cX5_walkAll 48 = .ok (.return_, 1) := by decide +kernel
theorem dX5_walk_0 : decode cX5_walk 0 = .ok (.aload_n 0, 1) := by decide +kernel
theorem dX5_walk_1 : decode cX5_walk 1 = .ok (.getfield 9, 3) := by decide +kernel
theorem dX5_walk_4 : decode cX5_walk 4 = .ok (.iload 4, 2) := by decide +kernel
theorem dX5_walk_6 : decode cX5_walk 6 = .ok (.iconst 1, 1) := by decide +kernel
theorem dX5_walk_7 : decode cX5_walk 7 = .ok (.isub, 1) := by decide +kernel
theorem dX5_walk_8 : decode cX5_walk 8 = .ok (.invokestatic 50, 3) := by decide +kernel
theorem dX5_walk_11 : decode cX5_walk 11 = .ok (.istore 5, 2) := by decide +kernel
theorem dX5_walk_13 : decode cX5_walk 13 = .ok (.aload_n 1, 1) := by decide +kernel
theorem dX5_walk_14 : decode cX5_walk 14 = .ok (.iload 5, 2) := by decide +kernel
theorem dX5_walk_16 : decode cX5_walk 16 = .ok (.invokevirtual 54, 3) := by decide +kernel
theorem dX5_walk_19 : decode cX5_walk 19 = .ok (.ifCond .eq 12, 3) := by decide +kernel
theorem dX5_walk_22 : decode cX5_walk 22 = .ok (.aload_n 0, 1) := by decide +kernel
theorem dX5_walk_23 : decode cX5_walk 23 = .ok (.aload_n 1, 1) := by decide +kernel
theorem dX5_walk_24 : decode cX5_walk 24 = .ok (.iload_n 3, 1) := by decide +kernel
theorem dX5_walk_25 : decode cX5_walk 25 = .ok (.iload 4, 2) := by decide +kernel
theorem dX5_walk_27 : decode cX5_walk 27 = .ok (.invokevirtual 60, 3) := by decide +kernel
theorem dX5_walk_30 : decode cX5_walk 30 = .ok (.return_, 1) := by decide +kernel
theorem dX5_walk_31 : decode cX5_walk 31 = .ok (.iload 4, 2) := by decide +kernel
theorem dX5_walk_33 : decode cX5_walk 33 = .ok (.bipush 10, 2) := by decide +kernel
theorem dX5_walk_35 : decode cX5_walk 35 = .ok (.if_icmp .lt 4, 3) := by decide +kernel
theorem dX5_walk_38 : decode cX5_walk 38 = .ok (.return_, 1) := by decide +kernel
theorem dX5_walk_39 : decode cX5_walk 39 = .ok (.aload_n 1, 1) := by decide +kernel
theorem dX5_walk_40 : decode cX5_walk 40 = .ok (.iload 5, 2) := by decide +kernel
theorem dX5_walk_42 : decode cX5_walk 42 = .ok (.iload_n 3, 1) := by decide +kernel
theorem dX5_walk_43 : decode cX5_walk 43 = .ok (.iload_n 2, 1) := by decide +kernel
theorem dX5_walk_44 : decode cX5_walk 44 = .ok (.invokestatic 64, 3) := by decide +kernel
theorem dX5_walk_47 : decode cX5_walk 47 = .ok (.istore 6, 2) := by decide +kernel
theorem dX5_walk_49 : decode cX5_walk 49 = .ok (.iconst 0, 1) := by decide +kernel
theorem dX5_walk_50 : decode cX5_walk 50 = .ok (.istore 7, 2) := by decide +kernel
theorem dX5_walk_52 : decode cX5_walk 52 = .ok (.iload 7, 2) := by decide +kernel
theorem dX5_walk_54 : decode cX5_walk 54 = .ok (.bipush 10, 2) := by decide +kernel
theorem dX5_walk_56 : decode cX5_walk 56 = .ok (.if_icmp .ge 47, 3) := by decide +kernel
theorem dX5_walk_59 : decode cX5_walk 59 = .ok (.iload 6, 2) := by decide +kernel
theorem dX5_walk_61 : decode cX5_walk 61 = .ok (.iload 7, 2) := by decide +kernel
theorem dX5_walk_63 : decode cX5_walk 63 = .ok (.invokestatic 34, 3) := by decide +kernel
theorem dX5_walk_66 : decode cX5_walk 66 = .ok (.ifCond .eq 31, 3) := by decide +kernel
theorem dX5_walk_69 : decode cX5_walk 69 = .ok (.aload_n 0, 1) := by decide +kernel
theorem dX5_walk_70 : decode cX5_walk 70 = .ok (.getfield 9, 3) := by decide +kernel
theorem dX5_walk_73 : decode cX5_walk 73 = .ok (.iload 4, 2) := by decide +kernel
theorem dX5_walk_75 : decode cX5_walk 75 = .ok (.iload 7, 2) := by decide +kernel
theorem dX5_walk_77 : decode cX5_walk 77 = .ok (.invokestatic 38, 3) := by decide +kernel
theorem dX5_walk_80 : decode cX5_walk 80 = .ok (.aload_n 0, 1) := by decide +kernel
theorem dX5_walk_81 : decode cX5_walk 81 = .ok (.aload_n 1, 1) := by decide +kernel
theorem dX5_walk_82 : decode cX5_walk 82 = .ok (.iload_n 2, 1) := by decide +kernel
theorem dX5_walk_83 : decode cX5_walk 83 = .ok (.iload_n 3, 1) := by decide +kernel
theorem dX5_walk_84 : decode cX5_walk 84 = .ok (.iload 7, 2) := by decide +kernel
theorem dX5_walk_86 : decode cX5_walk 86 = .ok (.invokestatic 42, 3) := by decide +kernel
theorem dX5_walk_89 : decode cX5_walk 89 = .ok (.ior, 1) := by decide +kernel
theorem dX5_walk_90 : decode cX5_walk 90 = .ok (.iload 4, 2) := by decide +kernel
theorem dX5_walk_92 : decode cX5_walk 92 = .ok (.iconst 1, 1) := by decide +kernel
theorem dX5_walk_93 : decode cX5_walk 93 = .ok (.iadd, 1) := by decide +kernel
theorem dX5_walk_94 : decode cX5_walk 94 = .ok (.invokestatic 46, 3) := by decide +kernel
theorem dX5_walk_97 : decode cX5_walk 97 = .ok (.iinc 7 1, 3) := by decide +kernel
theorem dX5_walk_100 : decode cX5_walk 100 = .ok (.goto (-48), 3) := by decide +kernel
theorem dX5_walk_103 : decode cX5_walk 103 = .ok (.return_, 1) := by decide +kernel
theorem dX5_note_0 : decode cX5_note 0 = .ok (.aload_n 1, 1) := by decide +kernel
theorem dX5_note_1 : decode cX5_note 1 = .ok (.aload_n 0, 1) := by decide +kernel
theorem dX5_note_2 : decode cX5_note 2 = .ok (.getfield 9, 3) := by decide +kernel
theorem dX5_note_5 : decode cX5_note 5 = .ok (.iload_n 3, 1) := by decide +kernel
theorem dX5_note_6 : decode cX5_note 6 = .ok (.invokevirtual 68, 3) := by decide +kernel
theorem dX5_note_9 : decode cX5_note 9 = .ok (.istore 4, 2) := by decide +kernel
theorem dX5_note_11 : decode cX5_note 11 = .ok (.aload_n 0, 1) := by decide +kernel
theorem dX5_note_12 : decode cX5_note 12 = .ok (.getfield 9, 3) := by decide +kernel
theorem dX5_note_15 : decode cX5_note 15 = .ok (.iload_n 3, 1) := by decide +kernel
theorem dX5_note_16 : decode cX5_note 16 = .ok (.iconst 1, 1) := by decide +kernel
theorem dX5_note_17 : decode cX5_note 17 = .ok (.isub, 1) := by decide +kernel
theorem dX5_note_18 : decode cX5_note 18 = .ok (.invokestatic 50, 3) := by decide +kernel
theorem dX5_note_21 : decode cX5_note 21 = .ok (.istore 5, 2) := by decide +kernel
theorem dX5_note_23 : decode cX5_note 23 = .ok (.aload_n 1, 1) := by decide +kernel
theorem dX5_note_24 : decode cX5_note 24 = .ok (.aload_n 0, 1) := by decide +kernel
theorem dX5_note_25 : decode cX5_note 25 = .ok (.getfield 9, 3) := by decide +kernel
theorem dX5_note_28 : decode cX5_note 28 = .ok (.iload_n 3, 1) := by decide +kernel
theorem dX5_note_29 : decode cX5_note 29 = .ok (.invokevirtual 71, 3) := by decide +kernel
theorem dX5_note_32 : decode cX5_note 32 = .ok (.istore 6, 2) := by decide +kernel
theorem dX5_note_34 : decode cX5_note 34 = .ok (.aload_n 0, 1) := by decide +kernel
theorem dX5_note_35 : decode cX5_note 35 = .ok (.getfield 21, 3) := by decide +kernel
theorem dX5_note_38 : decode cX5_note 38 = .ok (.ifCond .ne 7, 3) := by decide +kernel
theorem dX5_note_41 : decode cX5_note 41 = .ok (.iconst 1, 1) := by decide +kernel
theorem dX5_note_42 : decode cX5_note 42 = .ok (.goto 4, 3) := by decide +kernel
theorem dX5_note_45 : decode cX5_note 45 = .ok (.iconst 0, 1) := by decide +kernel
theorem dX5_note_46 : decode cX5_note 46 = .ok (.istore 7, 2) := by decide +kernel
theorem dX5_note_48 : decode cX5_note 48 = .ok (.iload 7, 2) := by decide +kernel
theorem dX5_note_50 : decode cX5_note 50 = .ok (.ifCond .ne 29, 3) := by decide +kernel
theorem dX5_note_53 : decode cX5_note 53 = .ok (.iload 4, 2) := by decide +kernel
theorem dX5_note_55 : decode cX5_note 55 = .ok (.aload_n 0, 1) := by decide +kernel
theorem dX5_note_56 : decode cX5_note 56 = .ok (.getfield 74, 3) := by decide +kernel
theorem dX5_note_59 : decode cX5_note 59 = .ok (.if_icmp .lt 20, 3) := by decide +kernel
theorem dX5_note_62 : decode cX5_note 62 = .ok (.iload 4, 2) := by decide +kernel
theorem dX5_note_64 : decode cX5_note 64 = .ok (.aload_n 0, 1) := by decide +kernel
theorem dX5_note_65 : decode cX5_note 65 = .ok (.getfield 74, 3) := by decide +kernel
theorem dX5_note_68 : decode cX5_note 68 = .ok (.if_icmp .ne 37, 3) := by decide +kernel
theorem dX5_note_71 : decode cX5_note 71 = .ok (.iload_n 3, 1) := by decide +kernel
theorem dX5_note_72 : decode cX5_note 72 = .ok (.aload_n 0, 1) := by decide +kernel
theorem dX5_note_73 : decode cX5_note 73 = .ok (.getfield 77, 3) := by decide +kernel
theorem dX5_note_76 : decode cX5_note 76 = .ok (.if_icmp .ge 29, 3) := by decide +kernel
theorem dX5_note_79 : decode cX5_note 79 = .ok (.aload_n 0, 1) := by decide +kernel
theorem dX5_note_80 : decode cX5_note 80 = .ok (.getfield 9, 3) := by decide +kernel
theorem dX5_note_83 : decode cX5_note 83 = .ok (.iconst 0, 1) := by decide +kernel
theorem dX5_note_84 : decode cX5_note 84 = .ok (.aload_n 0, 1) := by decide +kernel
theorem dX5_note_85 : decode cX5_note 85 = .ok (.getfield 15, 3) := by decide +kernel
theorem dX5_note_88 : decode cX5_note 88 = .ok (.iconst 0, 1) := by decide +kernel
theorem dX5_note_89 : decode cX5_note 89 = .ok (.bipush 10, 2) := by decide +kernel
theorem dX5_note_91 : decode cX5_note 91 = .ok (.invokestatic 80, 3) := by decide +kernel
theorem dX5_note_94 : decode cX5_note 94 = .ok (.aload_n 0, 1) := by decide +kernel
theorem dX5_note_95 : decode cX5_note 95 = .ok (.iload 4, 2) := by decide +kernel
theorem dX5_note_97 : decode cX5_note 97 = .ok (.putfield 74, 3) := by decide +kernel
theorem dX5_note_100 : decode cX5_note 100 = .ok (.aload_n 0, 1) := by decide +kernel
theorem dX5_note_101 : decode cX5_note 101 = .ok (.iload_n 3, 1) := by decide +kernel
theorem dX5_note_102 : decode cX5_note 102 = .ok (.putfield 77, 3) := by decide +kernel
theorem dX5_note_105 : decode cX5_note 105 = .ok (.aload_n 0, 1) := by decide +kernel
theorem dX5_note_106 : decode cX5_note 106 = .ok (.getfield 25, 3) := by decide +kernel
theorem dX5_note_109 : decode cX5_note 109 = .ok (.iload 5, 2) := by decide +kernel
theorem dX5_note_111 : decode cX5_note 111 = .ok (.invokestatic 34, 3) := by decide +kernel
theorem dX5_note_114 : decode cX5_note 114 = .ok (.ifCond .eq 17, 3) := by decide +kernel
theorem dX5_note_117 : decode cX5_note 117 = .ok (.iload 4, 2) := by decide +kernel
theorem dX5_note_119 : decode cX5_note 119 = .ok (.aload_n 0, 1) := by decide +kernel
theorem dX5_note_120 : decode cX5_note 120 = .ok (.getfield 18, 3) := by decide +kernel
theorem dX5_note_123 : decode cX5_note 123 = .ok (.iload 5, 2) := by decide +kernel
theorem dX5_note_125 : decode cX5_note 125 = .ok (.invokestatic 50, 3) := by decide +kernel
theorem dX5_note_128 : decode cX5_note 128 = .ok (.if_icmp .ge 14, 3) := by decide +kernel
theorem dX5_note_131 : decode cX5_note 131 = .ok (.aload_n 0, 1) := by decide +kernel
theorem dX5_note_132 : decode cX5_note 132 = .ok (.getfield 18, 3) := by decide +kernel
theorem dX5_note_135 : decode cX5_note 135 = .ok (.iload 5, 2) := by decide +kernel
theorem dX5_note_137 : decode cX5_note 137 = .ok (.iload 4, 2) := by decide +kernel
theorem dX5_note_139 : decode cX5_note 139 = .ok (.invokestatic 38, 3) := by decide +kernel
theorem dX5_note_142 : decode cX5_note 142 = .ok (.aload_n 0, 1) := by decide +kernel
theorem dX5_note_143 : decode cX5_note 143 = .ok (.iload 7, 2) := by decide +kernel
theorem dX5_note_145 : decode cX5_note 145 = .ok (.ifCond .eq 8, 3) := by decide +kernel
theorem dX5_note_148 : decode cX5_note 148 = .ok (.iload 6, 2) := by decide +kernel
theorem dX5_note_150 : decode cX5_note 150 = .ok (.goto 12, 3) := by decide +kernel
theorem dX5_note_153 : decode cX5_note 153 = .ok (.aload_n 0, 1) := by decide +kernel
theorem dX5_note_154 : decode cX5_note 154 = .ok (.getfield 86, 3) := by decide +kernel
theorem dX5_note_157 : decode cX5_note 157 = .ok (.iload 6, 2) := by decide +kernel
theorem dX5_note_159 : decode cX5_note 159 = .ok (.invokestatic 89, 3) := by decide +kernel
theorem dX5_note_162 : decode cX5_note 162 = .ok (.putfield 86, 3) := by decide +kernel
theorem dX5_note_165 : decode cX5_note 165 = .ok (.aload_n 0, 1) := by decide +kernel
theorem dX5_note_166 : decode cX5_note 166 = .ok (.iload 7, 2) := by decide +kernel
theorem dX5_note_168 : decode cX5_note 168 = .ok (.ifCond .eq 7, 3) := by decide +kernel
theorem dX5_note_171 : decode cX5_note 171 = .ok (.iload_n 2, 1) := by decide +kernel
theorem dX5_note_172 : decode cX5_note 172 = .ok (.goto 9, 3) := by decide +kernel
theorem dX5_note_175 : decode cX5_note 175 = .ok (.aload_n 0, 1) := by decide +kernel
theorem dX5_note_176 : decode cX5_note 176 = .ok (.getfield 28, 3) := by decide +kernel
theorem dX5_note_179 : decode cX5_note 179 = .ok (.iload_n 2, 1) := by decide +kernel
theorem dX5_note_180 : decode cX5_note 180 = .ok (.iand, 1) := by decide +kernel
theorem dX5_note_181 : decode cX5_note 181 = .ok (.putfield 28, 3) := by decide +kernel
theorem dX5_note_184 : decode cX5_note 184 = .ok (.aload_n 0, 1) := by decide +kernel
theorem dX5_note_185 : decode cX5_note 185 = .ok (.dup, 1) := by decide +kernel
theorem dX5_note_186 : decode cX5_note 186 = .ok (.getfield 25, 3) := by decide +kernel
theorem dX5_note_189 : decode cX5_note 189 = .ok (.iload 5, 2) := by decide +kernel
theorem dX5_note_191 : decode cX5_note 191 = .ok (.invokestatic 42, 3) := by decide +kernel
theorem dX5_note_194 : decode cX5_note 194 = .ok (.ior, 1) := by decide +kernel
theorem dX5_note_195 : decode cX5_note 195 = .ok (.putfield 25, 3) := by decide +kernel
theorem dX5_note_198 : decode cX5_note 198 = .ok (.aload_n 0, 1) := by decide +kernel
theorem dX5_note_199 : decode cX5_note 199 = .ok (.dup, 1) := by decide +kernel
theorem dX5_note_200 : decode cX5_note 200 = .ok (.getfield 31, 3) := by decide +kernel
theorem dX5_note_203 : decode cX5_note 203 = .ok (.iload_n 2, 1) := by decide +kernel
theorem dX5_note_204 : decode cX5_note 204 = .ok (.ior, 1) := by decide +kernel
theorem dX5_note_205 : decode cX5_note 205 = .ok (.putfield 31, 3) := by decide +kernel
theorem dX5_note_208 : decode cX5_note 208 = .ok (.aload_n 0, 1) := by decide +kernel
theorem dX5_note_209 : decode cX5_note 209 = .ok (.dup, 1) := by decide +kernel
theorem dX5_note_210 : decode cX5_note 210 = .ok (.getfield 21, 3) := by decide +kernel
theorem dX5_note_213 : decode cX5_note 213 = .ok (.iconst 1, 1) := by decide +kernel
theorem dX5_note_214 : decode cX5_note 214 = .ok (.iadd, 1) := by decide +kernel
theorem dX5_note_215 : decode cX5_note 215 = .ok (.putfield 21, 3) := by decide +kernel
theorem dX5_note_218 : decode cX5_note 218 = .ok (.return_, 1) := by decide +kernel
theorem dX6_init_0 : decode cX6_init 0 = .ok (.aload_n 0, 1) := by decide +kernel
theorem dX6_init_1 : decode cX6_init 1 = .ok (.invokespecial 1, 3) := by decide +kernel
theorem dX6_init_4 : decode cX6_init 4 = .ok (.aload_n 0, 1) := by decide +kernel
theorem dX6_init_5 : decode cX6_init 5 = .ok (.new 7, 3) := by decide +kernel
theorem dX6_init_8 : decode cX6_init 8 = .ok (.dup, 1) := by decide +kernel
theorem dX6_init_9 : decode cX6_init 9 = .ok (.invokespecial 9, 3) := by decide +kernel
theorem dX6_init_12 : decode cX6_init 12 = .ok (.putfield 10, 3) := by decide +kernel
theorem dX6_init_15 : decode cX6_init 15 = .ok (.aload_n 0, 1) := by decide +kernel
theorem dX6_init_16 : decode cX6_init 16 = .ok (.new 16, 3) := by decide +kernel
theorem dX6_init_19 : decode cX6_init 19 = .ok (.dup, 1) := by decide +kernel
theorem dX6_init_20 : decode cX6_init 20 = .ok (.invokespecial 18, 3) := by decide +kernel
theorem dX6_init_23 : decode cX6_init 23 = .ok (.putfield 19, 3) := by decide +kernel
theorem dX6_init_26 : decode cX6_init 26 = .ok (.aload_n 0, 1) := by decide +kernel
theorem dX6_init_27 : decode cX6_init 27 = .ok (.new 23, 3) := by decide +kernel
theorem dX6_init_30 : decode cX6_init 30 = .ok (.dup, 1) := by decide +kernel
theorem dX6_init_31 : decode cX6_init 31 = .ok (.invokespecial 25, 3) := by decide +kernel
theorem dX6_init_34 : decode cX6_init 34 = .ok (.putfield 26, 3) := by decide +kernel
theorem dX6_init_37 : decode cX6_init 37 = .ok (.aload_n 0, 1) := by decide +kernel
theorem dX6_init_38 : decode cX6_init 38 = .ok (.new 23, 3) := by decide +kernel
theorem dX6_init_41 : decode cX6_init 41 = .ok (.dup, 1) := by decide +kernel
theorem dX6_init_42 : decode cX6_init 42 = .ok (.invokespecial 25, 3) := by decide +kernel
theorem dX6_init_45 : decode cX6_init 45 = .ok (.putfield 30, 3) := by decide +kernel
theorem dX6_init_48 : decode cX6_init 48 = .ok (.aload_n 0, 1) := by decide +kernel
theorem dX6_init_49 : decode cX6_init 49 = .ok (.new 33, 3) := by decide +kernel
theorem dX6_init_52 : decode cX6_init 52 = .ok (.dup, 1) := by decide +kernel
theorem dX6_init_53 : decode cX6_init 53 = .ok (.invokespecial 35, 3) := by decide +kernel
theorem dX6_init_56 : decode cX6_init 56 = .ok (.putfield 36, 3) := by decide +kernel
theorem dX6_init_59 : decode cX6_init 59 = .ok (.aload_n 0, 1) := by decide +kernel
theorem dX6_init_60 : decode cX6_init 60 = .ok (.new 40, 3) := by decide +kernel
theorem dX6_init_63 : decode cX6_init 63 = .ok (.dup, 1) := by decide +kernel
theorem dX6_init_64 : decode cX6_init 64 = .ok (.bipush 8, 2) := by decide +kernel
theorem dX6_init_66 : decode cX6_init 66 = .ok (.invokespecial 42, 3) := by decide +kernel
theorem dX6_init_69 : decode cX6_init 69 = .ok (.putfield 45, 3) := by decide +kernel
theorem dX6_init_72 : decode cX6_init 72 = .ok (.aload_n 0, 1) := by decide +kernel
theorem dX6_init_73 : decode cX6_init 73 = .ok (.new 40, 3) := by decide +kernel
theorem dX6_init_76 : decode cX6_init 76 = .ok (.dup, 1) := by decide +kernel
theorem dX6_init_77 : decode cX6_init 77 = .ok (.iconst 2, 1) := by decide +kernel
theorem dX6_init_78 : decode cX6_init 78 = .ok (.invokespecial 42, 3) := by decide +kernel
theorem dX6_init_81 : decode cX6_init 81 = .ok (.putfield 49, 3) := by decide +kernel
theorem dX6_init_84 : decode cX6_init 84 = .ok (.aload_n 0, 1) := by decide +kernel
theorem dX6_init_85 : decode cX6_init 85 = .ok (.new 52, 3) := by decide +kernel
theorem dX6_init_88 : decode cX6_init 88 = .ok (.dup, 1) := by decide +kernel
theorem dX6_init_89 : decode cX6_init 89 = .ok (.invokespecial 54, 3) := by decide +kernel
theorem dX6_init_92 : decode cX6_init 92 = .ok (.putfield 55, 3) := by decide +kernel
theorem dX6_init_95 : decode cX6_init 95 = .ok (.aload_n 0, 1) := by decide +kernel
theorem dX6_init_96 : decode cX6_init 96 = .ok (.new 52, 3) := by decide +kernel
theorem dX6_init_99 : decode cX6_init 99 = .ok (.dup, 1) := by decide +kernel
theorem dX6_init_100 : decode cX6_init 100 = .ok (.invokespecial 54, 3) := by decide +kernel
theorem dX6_init_103 : decode cX6_init 103 = .ok (.putfield 59, 3) := by decide +kernel
theorem dX6_init_106 : decode cX6_init 106 = .ok (.aload_n 0, 1) := by decide +kernel
theorem dX6_init_107 : decode cX6_init 107 = .ok (.getfield 10, 3) := by decide +kernel
theorem dX6_init_110 : decode cX6_init 110 = .ok (.ldc 62, 2) := by decide +kernel
theorem dX6_init_112 : decode cX6_init 112 = .ok (.invokevirtual 64, 3) := by decide +kernel
theorem dX6_init_115 : decode cX6_init 115 = .ok (.aload_n 0, 1) := by decide +kernel
theorem dX6_init_116 : decode cX6_init 116 = .ok (.getfield 19, 3) := by decide +kernel
theorem dX6_init_119 : decode cX6_init 119 = .ok (.aload_n 0, 1) := by decide +kernel
theorem dX6_init_120 : decode cX6_init 120 = .ok (.getfield 10, 3) := by decide +kernel
theorem dX6_init_123 : decode cX6_init 123 = .ok (.aload_n 0, 1) := by decide +kernel
theorem dX6_init_124 : decode cX6_init 124 = .ok (.getfield 26, 3) := by decide +kernel
theorem dX6_init_127 : decode cX6_init 127 = .ok (.invokevirtual 68, 3) := by decide +kernel
theorem dX6_init_130 : decode cX6_init 130 = .ok (.pop, 1) := by decide +kernel
theorem dX6_init_131 : decode cX6_init 131 = .ok (.aload_n 0, 1) := by decide +kernel
theorem dX6_init_132 : decode cX6_init 132 = .ok (.getfield 10, 3) := by decide +kernel
theorem dX6_init_135 : decode cX6_init 135 = .ok (.invokevirtual 72, 3) := by decide +kernel
theorem dX6_init_138 : decode cX6_init 138 = .ok (.return_, 1) := by decide +kernel
theorem dX6_write_0 : decode cX6_write 0 = .ok (.iload_n 1, 1) := by decide +kernel
theorem dX6_write_1 : decode cX6_write 1 = .ok (.bipush 32, 2) := by decide +kernel
theorem dX6_write_3 : decode cX6_write 3 = .ok (.bipush 126, 2) := by decide +kernel
theorem dX6_write_5 : decode cX6_write 5 = .ok (.invokestatic 75, 3) := by decide +kernel
theorem dX6_write_8 : decode cX6_write 8 = .ok (.ifCond .eq 5, 3) := by decide +kernel
theorem dX6_write_11 : decode cX6_write 11 = .ok (.iconst (-1), 1) := by decide +kernel
theorem dX6_write_12 : decode cX6_write 12 = .ok (.ireturn, 1) := by decide +kernel
theorem dX6_write_13 : decode cX6_write 13 = .ok (.aload_n 0, 1) := by decide +kernel
theorem dX6_write_14 : decode cX6_write 14 = .ok (.getfield 10, 3) := by decide +kernel
theorem dX6_write_17 : decode cX6_write 17 = .ok (.iload_n 1, 1) := by decide +kernel
theorem dX6_write_18 : decode cX6_write 18 = .ok (.invokevirtual 79, 3) := by decide +kernel
theorem dX6_write_21 : decode cX6_write 21 = .ok (.ifCond .eq 13, 3) := by decide +kernel
theorem dX6_write_24 : decode cX6_write 24 = .ok (.aload_n 0, 1) := by decide +kernel
theorem dX6_write_25 : decode cX6_write 25 = .ok (.getfield 10, 3) := by decide +kernel
theorem dX6_write_28 : decode cX6_write 28 = .ok (.getfield 83, 3) := by decide +kernel
theorem dX6_write_31 : decode cX6_write 31 = .ok (.goto 5, 3) := by decide +kernel
theorem dX6_write_34 : decode cX6_write 34 = .ok (.bipush (-3), 2) := by decide +kernel
theorem dX6_write_36 : decode cX6_write 36 = .ok (.ireturn, 1) := by decide +kernel
theorem dX6_wipe_0 : decode cX6_wipe 0 = .ok (.aload_n 0, 1) := by decide +kernel
theorem dX6_wipe_1 : decode cX6_wipe 1 = .ok (.getfield 10, 3) := by decide +kernel
theorem dX6_wipe_4 : decode cX6_wipe 4 = .ok (.getfield 83, 3) := by decide +kernel
theorem dX6_wipe_7 : decode cX6_wipe 7 = .ok (.istore_n 1, 1) := by decide +kernel
theorem dX6_wipe_8 : decode cX6_wipe 8 = .ok (.aload_n 0, 1) := by decide +kernel
theorem dX6_wipe_9 : decode cX6_wipe 9 = .ok (.getfield 10, 3) := by decide +kernel
theorem dX6_wipe_12 : decode cX6_wipe 12 = .ok (.invokevirtual 72, 3) := by decide +kernel
theorem dX6_wipe_15 : decode cX6_wipe 15 = .ok (.iload_n 1, 1) := by decide +kernel
theorem dX6_wipe_16 : decode cX6_wipe 16 = .ok (.ireturn, 1) := by decide +kernel
theorem dX6_fault_0 : decode cX6_fault 0 = .ok (.aload_n 0, 1) := by decide +kernel
theorem dX6_fault_1 : decode cX6_fault 1 = .ok (.getfield 19, 3) := by decide +kernel
theorem dX6_fault_4 : decode cX6_fault 4 = .ok (.aload_n 0, 1) := by decide +kernel
theorem dX6_fault_5 : decode cX6_fault 5 = .ok (.getfield 10, 3) := by decide +kernel
theorem dX6_fault_8 : decode cX6_fault 8 = .ok (.aload_n 0, 1) := by decide +kernel
theorem dX6_fault_9 : decode cX6_fault 9 = .ok (.getfield 30, 3) := by decide +kernel
theorem dX6_fault_12 : decode cX6_fault 12 = .ok (.invokevirtual 68, 3) := by decide +kernel
theorem dX6_fault_15 : decode cX6_fault 15 = .ok (.ireturn, 1) := by decide +kernel
theorem dX6_lay_0 : decode cX6_lay 0 = .ok (.aload_n 0, 1) := by decide +kernel
theorem dX6_lay_1 : decode cX6_lay 1 = .ok (.getfield 19, 3) := by decide +kernel
theorem dX6_lay_4 : decode cX6_lay 4 = .ok (.aload_n 0, 1) := by decide +kernel
theorem dX6_lay_5 : decode cX6_lay 5 = .ok (.getfield 10, 3) := by decide +kernel
theorem dX6_lay_8 : decode cX6_lay 8 = .ok (.aload_n 0, 1) := by decide +kernel
theorem dX6_lay_9 : decode cX6_lay 9 = .ok (.getfield 30, 3) := by decide +kernel
theorem dX6_lay_12 : decode cX6_lay 12 = .ok (.invokevirtual 68, 3) := by decide +kernel
theorem dX6_lay_15 : decode cX6_lay 15 = .ok (.bipush (-4), 2) := by decide +kernel
theorem dX6_lay_17 : decode cX6_lay 17 = .ok (.if_icmp .ne 13, 3) := by decide +kernel
theorem dX6_lay_20 : decode cX6_lay 20 = .ok (.aload_n 0, 1) := by decide +kernel
theorem dX6_lay_21 : decode cX6_lay 21 = .ok (.getfield 30, 3) := by decide +kernel
theorem dX6_lay_24 : decode cX6_lay 24 = .ok (.getfield 87, 3) := by decide +kernel
theorem dX6_lay_27 : decode cX6_lay 27 = .ok (.ifCond .ne 6, 3) := by decide +kernel
theorem dX6_lay_30 : decode cX6_lay 30 = .ok (.bipush (-2), 2) := by decide +kernel
theorem dX6_lay_32 : decode cX6_lay 32 = .ok (.ireturn, 1) := by decide +kernel
theorem dX6_lay_33 : decode cX6_lay 33 = .ok (.aload_n 0, 1) := by decide +kernel
theorem dX6_lay_34 : decode cX6_lay 34 = .ok (.getfield 26, 3) := by decide +kernel
theorem dX6_lay_37 : decode cX6_lay 37 = .ok (.aload_n 0, 1) := by decide +kernel
theorem dX6_lay_38 : decode cX6_lay 38 = .ok (.getfield 30, 3) := by decide +kernel
theorem dX6_lay_41 : decode cX6_lay 41 = .ok (.invokevirtual 90, 3) := by decide +kernel
theorem dX6_lay_44 : decode cX6_lay 44 = .ok (.aload_n 0, 1) := by decide +kernel
theorem dX6_lay_45 : decode cX6_lay 45 = .ok (.getfield 36, 3) := by decide +kernel
theorem dX6_lay_48 : decode cX6_lay 48 = .ok (.invokevirtual 94, 3) := by decide +kernel
theorem dX6_lay_51 : decode cX6_lay 51 = .ok (.aload_n 0, 1) := by decide +kernel
theorem dX6_lay_52 : decode cX6_lay 52 = .ok (.getfield 45, 3) := by decide +kernel
theorem dX6_lay_55 : decode cX6_lay 55 = .ok (.invokevirtual 95, 3) := by decide +kernel
theorem dX6_lay_58 : decode cX6_lay 58 = .ok (.aload_n 0, 1) := by decide +kernel
theorem dX6_lay_59 : decode cX6_lay 59 = .ok (.getfield 49, 3) := by decide +kernel
theorem dX6_lay_62 : decode cX6_lay 62 = .ok (.invokevirtual 95, 3) := by decide +kernel
theorem dX6_lay_65 : decode cX6_lay 65 = .ok (.aload_n 0, 1) := by decide +kernel
theorem dX6_lay_66 : decode cX6_lay 66 = .ok (.getfield 26, 3) := by decide +kernel
theorem dX6_lay_69 : decode cX6_lay 69 = .ok (.getfield 96, 3) := by decide +kernel
theorem dX6_lay_72 : decode cX6_lay 72 = .ok (.ireturn, 1) := by decide +kernel
theorem dX6_statement_0 : decode cX6_statement 0 = .ok (.aload_n 0, 1) := by decide +kernel
theorem dX6_statement_1 : decode cX6_statement 1 = .ok (.getfield 26, 3) := by decide +kernel
theorem dX6_statement_4 : decode cX6_statement 4 = .ok (.iload_n 1, 1) := by decide +kernel
theorem dX6_statement_5 : decode cX6_statement 5 = .ok (.invokevirtual 99, 3) := by decide +kernel
theorem dX6_statement_8 : decode cX6_statement 8 = .ok (.ifCond .ne 5, 3) := by decide +kernel
theorem dX6_statement_11 : decode cX6_statement 11 = .ok (.iconst (-1), 1) := by decide +kernel
theorem dX6_statement_12 : decode cX6_statement 12 = .ok (.ireturn, 1) := by decide +kernel
theorem dX6_statement_13 : decode cX6_statement 13 = .ok (.iload_n 2, 1) := by decide +kernel
theorem dX6_statement_14 : decode cX6_statement 14 = .ok (.tableswitch 113 0 5 #[38, 50, 62, 74, 86, 98], 38) := by decide +kernel
theorem dX6_statement_52 : decode cX6_statement 52 = .ok (.aload_n 0, 1) := by decide +kernel
theorem dX6_statement_53 : decode cX6_statement 53 = .ok (.getfield 26, 3) := by decide +kernel
theorem dX6_statement_56 : decode cX6_statement 56 = .ok (.getfield 102, 3) := by decide +kernel
theorem dX6_statement_59 : decode cX6_statement 59 = .ok (.iload_n 1, 1) := by decide +kernel
theorem dX6_statement_60 : decode cX6_statement 60 = .ok (.invokestatic 106, 3) := by decide +kernel
theorem dX6_statement_63 : decode cX6_statement 63 = .ok (.ireturn, 1) := by decide +kernel
theorem dX6_statement_64 : decode cX6_statement 64 = .ok (.aload_n 0, 1) := by decide +kernel
theorem dX6_statement_65 : decode cX6_statement 65 = .ok (.getfield 26, 3) := by decide +kernel
theorem dX6_statement_68 : decode cX6_statement 68 = .ok (.getfield 110, 3) := by decide +kernel
theorem dX6_statement_71 : decode cX6_statement 71 = .ok (.iload_n 1, 1) := by decide +kernel
theorem dX6_statement_72 : decode cX6_statement 72 = .ok (.invokestatic 106, 3) := by decide +kernel
theorem dX6_statement_75 : decode cX6_statement 75 = .ok (.ireturn, 1) := by decide +kernel
theorem dX6_statement_76 : decode cX6_statement 76 = .ok (.aload_n 0, 1) := by decide +kernel
theorem dX6_statement_77 : decode cX6_statement 77 = .ok (.getfield 26, 3) := by decide +kernel
theorem dX6_statement_80 : decode cX6_statement 80 = .ok (.getfield 113, 3) := by decide +kernel
theorem dX6_statement_83 : decode cX6_statement 83 = .ok (.iload_n 1, 1) := by decide +kernel
theorem dX6_statement_84 : decode cX6_statement 84 = .ok (.invokestatic 106, 3) := by decide +kernel
theorem dX6_statement_87 : decode cX6_statement 87 = .ok (.ireturn, 1) := by decide +kernel
theorem dX6_statement_88 : decode cX6_statement 88 = .ok (.aload_n 0, 1) := by decide +kernel
theorem dX6_statement_89 : decode cX6_statement 89 = .ok (.getfield 26, 3) := by decide +kernel
theorem dX6_statement_92 : decode cX6_statement 92 = .ok (.iload_n 1, 1) := by decide +kernel
theorem dX6_statement_93 : decode cX6_statement 93 = .ok (.invokevirtual 116, 3) := by decide +kernel
theorem dX6_statement_96 : decode cX6_statement 96 = .ok (.invokestatic 119, 3) := by decide +kernel
theorem dX6_statement_99 : decode cX6_statement 99 = .ok (.ireturn, 1) := by decide +kernel
theorem dX6_statement_100 : decode cX6_statement 100 = .ok (.aload_n 0, 1) := by decide +kernel
theorem dX6_statement_101 : decode cX6_statement 101 = .ok (.getfield 26, 3) := by decide +kernel
theorem dX6_statement_104 : decode cX6_statement 104 = .ok (.getfield 123, 3) := by decide +kernel
theorem dX6_statement_107 : decode cX6_statement 107 = .ok (.iload_n 1, 1) := by decide +kernel
theorem dX6_statement_108 : decode cX6_statement 108 = .ok (.invokestatic 106, 3) := by decide +kernel
theorem dX6_statement_111 : decode cX6_statement 111 = .ok (.ireturn, 1) := by decide +kernel
theorem dX6_statement_112 : decode cX6_statement 112 = .ok (.aload_n 0, 1) := by decide +kernel
theorem dX6_statement_113 : decode cX6_statement 113 = .ok (.getfield 36, 3) := by decide +kernel
theorem dX6_statement_116 : decode cX6_statement 116 = .ok (.getfield 126, 3) := by decide +kernel
theorem dX6_statement_119 : decode cX6_statement 119 = .ok (.iload_n 1, 1) := by decide +kernel
theorem dX6_statement_120 : decode cX6_statement 120 = .ok (.invokestatic 129, 3) := by decide +kernel
theorem dX6_statement_123 : decode cX6_statement 123 = .ok (.invokestatic 119, 3) := by decide +kernel
theorem dX6_statement_126 : decode cX6_statement 126 = .ok (.ireturn, 1) := by decide +kernel
theorem dX6_statement_127 : decode cX6_statement 127 = .ok (.iconst (-1), 1) := by decide +kernel
theorem dX6_statement_128 : decode cX6_statement 128 = .ok (.ireturn, 1) := by decide +kernel
theorem dX6_argue_0 : decode cX6_argue 0 = .ok (.aload_n 0, 1) := by decide +kernel
theorem dX6_argue_1 : decode cX6_argue 1 = .ok (.getfield 26, 3) := by decide +kernel
theorem dX6_argue_4 : decode cX6_argue 4 = .ok (.iload_n 1, 1) := by decide +kernel
theorem dX6_argue_5 : decode cX6_argue 5 = .ok (.invokevirtual 99, 3) := by decide +kernel
theorem dX6_argue_8 : decode cX6_argue 8 = .ok (.ifCond .ne 5, 3) := by decide +kernel
theorem dX6_argue_11 : decode cX6_argue 11 = .ok (.iconst (-1), 1) := by decide +kernel
theorem dX6_argue_12 : decode cX6_argue 12 = .ok (.ireturn, 1) := by decide +kernel
theorem dX6_argue_13 : decode cX6_argue 13 = .ok (.aload_n 0, 1) := by decide +kernel
theorem dX6_argue_14 : decode cX6_argue 14 = .ok (.getfield 36, 3) := by decide +kernel
theorem dX6_argue_17 : decode cX6_argue 17 = .ok (.aload_n 0, 1) := by decide +kernel
theorem dX6_argue_18 : decode cX6_argue 18 = .ok (.getfield 26, 3) := by decide +kernel
theorem dX6_argue_21 : decode cX6_argue 21 = .ok (.invokevirtual 133, 3) := by decide +kernel
theorem dX6_argue_24 : decode cX6_argue 24 = .ok (.iload_n 1, 1) := by decide +kernel
theorem dX6_argue_25 : decode cX6_argue 25 = .ok (.invokestatic 129, 3) := by decide +kernel
theorem dX6_argue_28 : decode cX6_argue 28 = .ok (.ifCond .ne 6, 3) := by decide +kernel
theorem dX6_argue_31 : decode cX6_argue 31 = .ok (.bipush (-2), 2) := by decide +kernel
theorem dX6_argue_33 : decode cX6_argue 33 = .ok (.ireturn, 1) := by decide +kernel
theorem dX6_argue_34 : decode cX6_argue 34 = .ok (.aload_n 0, 1) := by decide +kernel
theorem dX6_argue_35 : decode cX6_argue 35 = .ok (.getfield 45, 3) := by decide +kernel
theorem dX6_argue_38 : decode cX6_argue 38 = .ok (.aload_n 0, 1) := by decide +kernel
theorem dX6_argue_39 : decode cX6_argue 39 = .ok (.getfield 36, 3) := by decide +kernel
theorem dX6_argue_42 : decode cX6_argue 42 = .ok (.invokevirtual 137, 3) := by decide +kernel
theorem dX6_argue_45 : decode cX6_argue 45 = .ok (.aload_n 0, 1) := by decide +kernel
theorem dX6_argue_46 : decode cX6_argue 46 = .ok (.getfield 36, 3) := by decide +kernel
theorem dX6_argue_49 : decode cX6_argue 49 = .ok (.iload_n 1, 1) := by decide +kernel
theorem dX6_argue_50 : decode cX6_argue 50 = .ok (.invokevirtual 140, 3) := by decide +kernel
theorem dX6_argue_53 : decode cX6_argue 53 = .ok (.aload_n 0, 1) := by decide +kernel
theorem dX6_argue_54 : decode cX6_argue 54 = .ok (.getfield 36, 3) := by decide +kernel
theorem dX6_argue_57 : decode cX6_argue 57 = .ok (.getfield 142, 3) := by decide +kernel
theorem dX6_argue_60 : decode cX6_argue 60 = .ok (.ireturn, 1) := by decide +kernel
theorem dX6_drop_0 : decode cX6_drop 0 = .ok (.aload_n 0, 1) := by decide +kernel
theorem dX6_drop_1 : decode cX6_drop 1 = .ok (.getfield 36, 3) := by decide +kernel
theorem dX6_drop_4 : decode cX6_drop 4 = .ok (.getfield 142, 3) := by decide +kernel
theorem dX6_drop_7 : decode cX6_drop 7 = .ok (.istore_n 1, 1) := by decide +kernel
theorem dX6_drop_8 : decode cX6_drop 8 = .ok (.aload_n 0, 1) := by decide +kernel
theorem dX6_drop_9 : decode cX6_drop 9 = .ok (.getfield 45, 3) := by decide +kernel
theorem dX6_drop_12 : decode cX6_drop 12 = .ok (.aload_n 0, 1) := by decide +kernel
theorem dX6_drop_13 : decode cX6_drop 13 = .ok (.getfield 36, 3) := by decide +kernel
theorem dX6_drop_16 : decode cX6_drop 16 = .ok (.invokevirtual 137, 3) := by decide +kernel
theorem dX6_drop_19 : decode cX6_drop 19 = .ok (.aload_n 0, 1) := by decide +kernel
theorem dX6_drop_20 : decode cX6_drop 20 = .ok (.getfield 36, 3) := by decide +kernel
theorem dX6_drop_23 : decode cX6_drop 23 = .ok (.iconst 0, 1) := by decide +kernel
theorem dX6_drop_24 : decode cX6_drop 24 = .ok (.putfield 142, 3) := by decide +kernel
theorem dX6_drop_27 : decode cX6_drop 27 = .ok (.iload_n 1, 1) := by decide +kernel
theorem dX6_drop_28 : decode cX6_drop 28 = .ok (.ireturn, 1) := by decide +kernel
theorem dX6_strike_0 : decode cX6_strike 0 = .ok (.aload_n 0, 1) := by decide +kernel
theorem dX6_strike_1 : decode cX6_strike 1 = .ok (.getfield 26, 3) := by decide +kernel
theorem dX6_strike_4 : decode cX6_strike 4 = .ok (.iload_n 1, 1) := by decide +kernel
theorem dX6_strike_5 : decode cX6_strike 5 = .ok (.invokevirtual 99, 3) := by decide +kernel
theorem dX6_strike_8 : decode cX6_strike 8 = .ok (.ifCond .ne 5, 3) := by decide +kernel
theorem dX6_strike_11 : decode cX6_strike 11 = .ok (.iconst (-1), 1) := by decide +kernel
theorem dX6_strike_12 : decode cX6_strike 12 = .ok (.ireturn, 1) := by decide +kernel
theorem dX6_strike_13 : decode cX6_strike 13 = .ok (.aload_n 0, 1) := by decide +kernel
theorem dX6_strike_14 : decode cX6_strike 14 = .ok (.getfield 36, 3) := by decide +kernel
theorem dX6_strike_17 : decode cX6_strike 17 = .ok (.invokevirtual 143, 3) := by decide +kernel
theorem dX6_strike_20 : decode cX6_strike 20 = .ok (.iload_n 1, 1) := by decide +kernel
theorem dX6_strike_21 : decode cX6_strike 21 = .ok (.invokestatic 129, 3) := by decide +kernel
theorem dX6_strike_24 : decode cX6_strike 24 = .ok (.ifCond .eq 6, 3) := by decide +kernel
theorem dX6_strike_27 : decode cX6_strike 27 = .ok (.bipush (-2), 2) := by decide +kernel
theorem dX6_strike_29 : decode cX6_strike 29 = .ok (.ireturn, 1) := by decide +kernel
theorem dX6_strike_30 : decode cX6_strike 30 = .ok (.aload_n 0, 1) := by decide +kernel
theorem dX6_strike_31 : decode cX6_strike 31 = .ok (.getfield 45, 3) := by decide +kernel
theorem dX6_strike_34 : decode cX6_strike 34 = .ok (.aload_n 0, 1) := by decide +kernel
theorem dX6_strike_35 : decode cX6_strike 35 = .ok (.getfield 36, 3) := by decide +kernel
theorem dX6_strike_38 : decode cX6_strike 38 = .ok (.invokevirtual 137, 3) := by decide +kernel
theorem dX6_strike_41 : decode cX6_strike 41 = .ok (.aload_n 0, 1) := by decide +kernel
theorem dX6_strike_42 : decode cX6_strike 42 = .ok (.getfield 36, 3) := by decide +kernel
theorem dX6_strike_45 : decode cX6_strike 45 = .ok (.dup, 1) := by decide +kernel
theorem dX6_strike_46 : decode cX6_strike 46 = .ok (.getfield 126, 3) := by decide +kernel
theorem dX6_strike_49 : decode cX6_strike 49 = .ok (.iload_n 1, 1) := by decide +kernel
theorem dX6_strike_50 : decode cX6_strike 50 = .ok (.invokestatic 147, 3) := by decide +kernel
theorem dX6_strike_53 : decode cX6_strike 53 = .ok (.ixor, 1) := by decide +kernel
theorem dX6_strike_54 : decode cX6_strike 54 = .ok (.putfield 126, 3) := by decide +kernel
theorem dX6_strike_57 : decode cX6_strike 57 = .ok (.aload_n 0, 1) := by decide +kernel
theorem dX6_strike_58 : decode cX6_strike 58 = .ok (.getfield 36, 3) := by decide +kernel
theorem dX6_strike_61 : decode cX6_strike 61 = .ok (.getfield 126, 3) := by decide +kernel
theorem dX6_strike_64 : decode cX6_strike 64 = .ok (.iload_n 1, 1) := by decide +kernel
theorem dX6_strike_65 : decode cX6_strike 65 = .ok (.invokestatic 129, 3) := by decide +kernel
theorem dX6_strike_68 : decode cX6_strike 68 = .ok (.invokestatic 119, 3) := by decide +kernel
theorem dX6_strike_71 : decode cX6_strike 71 = .ok (.ireturn, 1) := by decide +kernel
theorem dX6_undo_0 : decode cX6_undo 0 = .ok (.aload_n 0, 1) := by decide +kernel
theorem dX6_undo_1 : decode cX6_undo 1 = .ok (.getfield 45, 3) := by decide +kernel
theorem dX6_undo_4 : decode cX6_undo 4 = .ok (.aload_n 0, 1) := by decide +kernel
theorem dX6_undo_5 : decode cX6_undo 5 = .ok (.getfield 36, 3) := by decide +kernel
theorem dX6_undo_8 : decode cX6_undo 8 = .ok (.invokevirtual 151, 3) := by decide +kernel
theorem dX6_undo_11 : decode cX6_undo 11 = .ok (.ifCond .eq 13, 3) := by decide +kernel
theorem dX6_undo_14 : decode cX6_undo 14 = .ok (.aload_n 0, 1) := by decide +kernel
theorem dX6_undo_15 : decode cX6_undo 15 = .ok (.getfield 45, 3) := by decide +kernel
theorem dX6_undo_18 : decode cX6_undo 18 = .ok (.getfield 155, 3) := by decide +kernel
theorem dX6_undo_21 : decode cX6_undo 21 = .ok (.goto 5, 3) := by decide +kernel
theorem dX6_undo_24 : decode cX6_undo 24 = .ok (.bipush (-2), 2) := by decide +kernel
theorem dX6_undo_26 : decode cX6_undo 26 = .ok (.ireturn, 1) := by decide +kernel
theorem dX6_argued_0 : decode cX6_argued 0 = .ok (.iload_n 1, 1) := by decide +kernel
theorem dX6_argued_1 : decode cX6_argued 1 = .ok (.iconst 0, 1) := by decide +kernel
theorem dX6_argued_2 : decode cX6_argued 2 = .ok (.aload_n 0, 1) := by decide +kernel
theorem dX6_argued_3 : decode cX6_argued 3 = .ok (.getfield 36, 3) := by decide +kernel
theorem dX6_argued_6 : decode cX6_argued 6 = .ok (.getfield 142, 3) := by decide +kernel
theorem dX6_argued_9 : decode cX6_argued 9 = .ok (.iconst 1, 1) := by decide +kernel
theorem dX6_argued_10 : decode cX6_argued 10 = .ok (.isub, 1) := by decide +kernel
theorem dX6_argued_11 : decode cX6_argued 11 = .ok (.invokestatic 75, 3) := by decide +kernel
theorem dX6_argued_14 : decode cX6_argued 14 = .ok (.ifCond .eq 7, 3) := by decide +kernel
theorem dX6_argued_17 : decode cX6_argued 17 = .ok (.iconst (-1), 1) := by decide +kernel
theorem dX6_argued_18 : decode cX6_argued 18 = .ok (.goto 14, 3) := by decide +kernel
theorem dX6_argued_21 : decode cX6_argued 21 = .ok (.aload_n 0, 1) := by decide +kernel
theorem dX6_argued_22 : decode cX6_argued 22 = .ok (.getfield 36, 3) := by decide +kernel
theorem dX6_argued_25 : decode cX6_argued 25 = .ok (.getfield 156, 3) := by decide +kernel
theorem dX6_argued_28 : decode cX6_argued 28 = .ok (.iload_n 1, 1) := by decide +kernel
theorem dX6_argued_29 : decode cX6_argued 29 = .ok (.invokestatic 106, 3) := by decide +kernel
theorem dX6_argued_32 : decode cX6_argued 32 = .ok (.ireturn, 1) := by decide +kernel
theorem dX6_next_0 : decode cX6_next 0 = .ok (.aload_n 0, 1) := by decide +kernel
theorem dX6_next_1 : decode cX6_next 1 = .ok (.getfield 36, 3) := by decide +kernel
theorem dX6_next_4 : decode cX6_next 4 = .ok (.aload_n 0, 1) := by decide +kernel
theorem dX6_next_5 : decode cX6_next 5 = .ok (.getfield 26, 3) := by decide +kernel
theorem dX6_next_8 : decode cX6_next 8 = .ok (.invokevirtual 133, 3) := by decide +kernel
theorem dX6_next_11 : decode cX6_next 11 = .ok (.ireturn, 1) := by decide +kernel
theorem dX6_trial_0 : decode cX6_trial 0 = .ok (.iload_n 1, 1) := by decide +kernel
theorem dX6_trial_1 : decode cX6_trial 1 = .ok (.tableswitch 79 0 2 #[27, 49, 64], 27) := by decide +kernel
theorem dX6_trial_28 : decode cX6_trial 28 = .ok (.aload_n 0, 1) := by decide +kernel
theorem dX6_trial_29 : decode cX6_trial 29 = .ok (.getfield 26, 3) := by decide +kernel
theorem dX6_trial_32 : decode cX6_trial 32 = .ok (.aload_n 0, 1) := by decide +kernel
theorem dX6_trial_33 : decode cX6_trial 33 = .ok (.getfield 36, 3) := by decide +kernel
theorem dX6_trial_36 : decode cX6_trial 36 = .ok (.getfield 156, 3) := by decide +kernel
theorem dX6_trial_39 : decode cX6_trial 39 = .ok (.aload_n 0, 1) := by decide +kernel
theorem dX6_trial_40 : decode cX6_trial 40 = .ok (.getfield 36, 3) := by decide +kernel
theorem dX6_trial_43 : decode cX6_trial 43 = .ok (.getfield 142, 3) := by decide +kernel
theorem dX6_trial_46 : decode cX6_trial 46 = .ok (.invokevirtual 159, 3) := by decide +kernel
theorem dX6_trial_49 : decode cX6_trial 49 = .ok (.ireturn, 1) := by decide +kernel
theorem dX6_trial_50 : decode cX6_trial 50 = .ok (.aload_n 0, 1) := by decide +kernel
theorem dX6_trial_51 : decode cX6_trial 51 = .ok (.getfield 36, 3) := by decide +kernel
theorem dX6_trial_54 : decode cX6_trial 54 = .ok (.aload_n 0, 1) := by decide +kernel
theorem dX6_trial_55 : decode cX6_trial 55 = .ok (.getfield 26, 3) := by decide +kernel
theorem dX6_trial_58 : decode cX6_trial 58 = .ok (.invokevirtual 162, 3) := by decide +kernel
theorem dX6_trial_61 : decode cX6_trial 61 = .ok (.invokestatic 119, 3) := by decide +kernel
theorem dX6_trial_64 : decode cX6_trial 64 = .ok (.ireturn, 1) := by decide +kernel
theorem dX6_trial_65 : decode cX6_trial 65 = .ok (.aload_n 0, 1) := by decide +kernel
theorem dX6_trial_66 : decode cX6_trial 66 = .ok (.getfield 36, 3) := by decide +kernel
theorem dX6_trial_69 : decode cX6_trial 69 = .ok (.aload_n 0, 1) := by decide +kernel
theorem dX6_trial_70 : decode cX6_trial 70 = .ok (.getfield 26, 3) := by decide +kernel
theorem dX6_trial_73 : decode cX6_trial 73 = .ok (.invokevirtual 166, 3) := by decide +kernel
theorem dX6_trial_76 : decode cX6_trial 76 = .ok (.invokestatic 119, 3) := by decide +kernel
theorem dX6_trial_79 : decode cX6_trial 79 = .ok (.ireturn, 1) := by decide +kernel
theorem dX6_trial_80 : decode cX6_trial 80 = .ok (.iconst (-1), 1) := by decide +kernel
theorem dX6_trial_81 : decode cX6_trial 81 = .ok (.ireturn, 1) := by decide +kernel
theorem dX6_chains_0 : decode cX6_chains 0 = .ok (.aload_n 0, 1) := by decide +kernel
theorem dX6_chains_1 : decode cX6_chains 1 = .ok (.getfield 26, 3) := by decide +kernel
theorem dX6_chains_4 : decode cX6_chains 4 = .ok (.iload_n 1, 1) := by decide +kernel
theorem dX6_chains_5 : decode cX6_chains 5 = .ok (.invokevirtual 116, 3) := by decide +kernel
theorem dX6_chains_8 : decode cX6_chains 8 = .ok (.ifCond .ne 5, 3) := by decide +kernel
theorem dX6_chains_11 : decode cX6_chains 11 = .ok (.iconst (-1), 1) := by decide +kernel
theorem dX6_chains_12 : decode cX6_chains 12 = .ok (.ireturn, 1) := by decide +kernel
theorem dX6_chains_13 : decode cX6_chains 13 = .ok (.aload_n 0, 1) := by decide +kernel
theorem dX6_chains_14 : decode cX6_chains 14 = .ok (.getfield 55, 3) := by decide +kernel
theorem dX6_chains_17 : decode cX6_chains 17 = .ok (.aload_n 0, 1) := by decide +kernel
theorem dX6_chains_18 : decode cX6_chains 18 = .ok (.getfield 26, 3) := by decide +kernel
theorem dX6_chains_21 : decode cX6_chains 21 = .ok (.iload_n 1, 1) := by decide +kernel
theorem dX6_chains_22 : decode cX6_chains 22 = .ok (.aload_n 0, 1) := by decide +kernel
theorem dX6_chains_23 : decode cX6_chains 23 = .ok (.getfield 36, 3) := by decide +kernel
theorem dX6_chains_26 : decode cX6_chains 26 = .ok (.getfield 126, 3) := by decide +kernel
theorem dX6_chains_29 : decode cX6_chains 29 = .ok (.invokevirtual 169, 3) := by decide +kernel
theorem dX6_chains_32 : decode cX6_chains 32 = .ok (.aload_n 0, 1) := by decide +kernel
theorem dX6_chains_33 : decode cX6_chains 33 = .ok (.getfield 55, 3) := by decide +kernel
theorem dX6_chains_36 : decode cX6_chains 36 = .ok (.getfield 173, 3) := by decide +kernel
theorem dX6_chains_39 : decode cX6_chains 39 = .ok (.ireturn, 1) := by decide +kernel
theorem dX6_shortest_0 : decode cX6_shortest 0 = .ok (.aload_n 0, 1) := by decide +kernel
theorem dX6_shortest_1 : decode cX6_shortest 1 = .ok (.getfield 26, 3) := by decide +kernel
theorem dX6_shortest_4 : decode cX6_shortest 4 = .ok (.iload_n 1, 1) := by decide +kernel
theorem dX6_shortest_5 : decode cX6_shortest 5 = .ok (.invokevirtual 116, 3) := by decide +kernel
theorem dX6_shortest_8 : decode cX6_shortest 8 = .ok (.ifCond .eq 9, 3) := by decide +kernel
theorem dX6_shortest_11 : decode cX6_shortest 11 = .ok (.iload_n 2, 1) := by decide +kernel
theorem dX6_shortest_12 : decode cX6_shortest 12 = .ok (.bipush (-2), 2) := by decide +kernel
theorem dX6_shortest_14 : decode cX6_shortest 14 = .ok (.if_icmp .ge 5, 3) := by decide +kernel
theorem dX6_shortest_17 : decode cX6_shortest 17 = .ok (.iconst (-1), 1) := by decide +kernel
theorem dX6_shortest_18 : decode cX6_shortest 18 = .ok (.ireturn, 1) := by decide +kernel
theorem dX6_shortest_19 : decode cX6_shortest 19 = .ok (.aload_n 0, 1) := by decide +kernel
theorem dX6_shortest_20 : decode cX6_shortest 20 = .ok (.getfield 55, 3) := by decide +kernel
theorem dX6_shortest_23 : decode cX6_shortest 23 = .ok (.aload_n 0, 1) := by decide +kernel
theorem dX6_shortest_24 : decode cX6_shortest 24 = .ok (.getfield 26, 3) := by decide +kernel
theorem dX6_shortest_27 : decode cX6_shortest 27 = .ok (.iload_n 1, 1) := by decide +kernel
theorem dX6_shortest_28 : decode cX6_shortest 28 = .ok (.aload_n 0, 1) := by decide +kernel
theorem dX6_shortest_29 : decode cX6_shortest 29 = .ok (.getfield 36, 3) := by decide +kernel
theorem dX6_shortest_32 : decode cX6_shortest 32 = .ok (.getfield 126, 3) := by decide +kernel
theorem dX6_shortest_35 : decode cX6_shortest 35 = .ok (.invokevirtual 169, 3) := by decide +kernel
theorem dX6_shortest_38 : decode cX6_shortest 38 = .ok (.aload_n 0, 1) := by decide +kernel
theorem dX6_shortest_39 : decode cX6_shortest 39 = .ok (.getfield 55, 3) := by decide +kernel
theorem dX6_shortest_42 : decode cX6_shortest 42 = .ok (.getfield 173, 3) := by decide +kernel
theorem dX6_shortest_45 : decode cX6_shortest 45 = .ok (.ifCond .ne 6, 3) := by decide +kernel
theorem dX6_shortest_48 : decode cX6_shortest 48 = .ok (.bipush (-4), 2) := by decide +kernel
theorem dX6_shortest_50 : decode cX6_shortest 50 = .ok (.ireturn, 1) := by decide +kernel
theorem dX6_shortest_51 : decode cX6_shortest 51 = .ok (.iload_n 2, 1) := by decide +kernel
theorem dX6_shortest_52 : decode cX6_shortest 52 = .ok (.bipush (-2), 2) := by decide +kernel
theorem dX6_shortest_54 : decode cX6_shortest 54 = .ok (.if_icmp .ne 11, 3) := by decide +kernel
theorem dX6_shortest_57 : decode cX6_shortest 57 = .ok (.aload_n 0, 1) := by decide +kernel
theorem dX6_shortest_58 : decode cX6_shortest 58 = .ok (.getfield 55, 3) := by decide +kernel
theorem dX6_shortest_61 : decode cX6_shortest 61 = .ok (.getfield 176, 3) := by decide +kernel
theorem dX6_shortest_64 : decode cX6_shortest 64 = .ok (.ireturn, 1) := by decide +kernel
theorem dX6_shortest_65 : decode cX6_shortest 65 = .ok (.iload_n 2, 1) := by decide +kernel
theorem dX6_shortest_66 : decode cX6_shortest 66 = .ok (.iconst (-1), 1) := by decide +kernel
theorem dX6_shortest_67 : decode cX6_shortest 67 = .ok (.if_icmp .ne 11, 3) := by decide +kernel
theorem dX6_shortest_70 : decode cX6_shortest 70 = .ok (.aload_n 0, 1) := by decide +kernel
theorem dX6_shortest_71 : decode cX6_shortest 71 = .ok (.getfield 55, 3) := by decide +kernel
theorem dX6_shortest_74 : decode cX6_shortest 74 = .ok (.getfield 179, 3) := by decide +kernel
theorem dX6_shortest_77 : decode cX6_shortest 77 = .ok (.ireturn, 1) := by decide +kernel
theorem dX6_shortest_78 : decode cX6_shortest 78 = .ok (.iload_n 2, 1) := by decide +kernel
theorem dX6_shortest_79 : decode cX6_shortest 79 = .ok (.aload_n 0, 1) := by decide +kernel
theorem dX6_shortest_80 : decode cX6_shortest 80 = .ok (.getfield 55, 3) := by decide +kernel
theorem dX6_shortest_83 : decode cX6_shortest 83 = .ok (.getfield 179, 3) := by decide +kernel
theorem dX6_shortest_86 : decode cX6_shortest 86 = .ok (.if_icmp .ge 17, 3) := by decide +kernel
theorem dX6_shortest_89 : decode cX6_shortest 89 = .ok (.aload_n 0, 1) := by decide +kernel
theorem dX6_shortest_90 : decode cX6_shortest 90 = .ok (.getfield 55, 3) := by decide +kernel
theorem dX6_shortest_93 : decode cX6_shortest 93 = .ok (.getfield 182, 3) := by decide +kernel
theorem dX6_shortest_96 : decode cX6_shortest 96 = .ok (.iload_n 2, 1) := by decide +kernel
theorem dX6_shortest_97 : decode cX6_shortest 97 = .ok (.invokestatic 106, 3) := by decide +kernel
theorem dX6_shortest_100 : decode cX6_shortest 100 = .ok (.goto 5, 3) := by decide +kernel
theorem dX6_shortest_103 : decode cX6_shortest 103 = .ok (.bipush (-4), 2) := by decide +kernel
theorem dX6_shortest_105 : decode cX6_shortest 105 = .ok (.ireturn, 1) := by decide +kernel
theorem dX6_nights_0 : decode cX6_nights 0 = .ok (.aload_n 0, 1) := by decide +kernel
theorem dX6_nights_1 : decode cX6_nights 1 = .ok (.getfield 26, 3) := by decide +kernel
theorem dX6_nights_4 : decode cX6_nights 4 = .ok (.iload_n 1, 1) := by decide +kernel
theorem dX6_nights_5 : decode cX6_nights 5 = .ok (.invokevirtual 116, 3) := by decide +kernel
theorem dX6_nights_8 : decode cX6_nights 8 = .ok (.ifCond .ne 5, 3) := by decide +kernel
theorem dX6_nights_11 : decode cX6_nights 11 = .ok (.iconst (-1), 1) := by decide +kernel
theorem dX6_nights_12 : decode cX6_nights 12 = .ok (.ireturn, 1) := by decide +kernel
theorem dX6_nights_13 : decode cX6_nights 13 = .ok (.aload_n 0, 1) := by decide +kernel
theorem dX6_nights_14 : decode cX6_nights 14 = .ok (.getfield 55, 3) := by decide +kernel
theorem dX6_nights_17 : decode cX6_nights 17 = .ok (.aload_n 0, 1) := by decide +kernel
theorem dX6_nights_18 : decode cX6_nights 18 = .ok (.getfield 26, 3) := by decide +kernel
theorem dX6_nights_21 : decode cX6_nights 21 = .ok (.iload_n 1, 1) := by decide +kernel
theorem dX6_nights_22 : decode cX6_nights 22 = .ok (.aload_n 0, 1) := by decide +kernel
theorem dX6_nights_23 : decode cX6_nights 23 = .ok (.getfield 36, 3) := by decide +kernel
theorem dX6_nights_26 : decode cX6_nights 26 = .ok (.getfield 126, 3) := by decide +kernel
theorem dX6_nights_29 : decode cX6_nights 29 = .ok (.invokevirtual 169, 3) := by decide +kernel
theorem dX6_nights_32 : decode cX6_nights 32 = .ok (.aload_n 0, 1) := by decide +kernel
theorem dX6_nights_33 : decode cX6_nights 33 = .ok (.getfield 55, 3) := by decide +kernel
theorem dX6_nights_36 : decode cX6_nights 36 = .ok (.getfield 185, 3) := by decide +kernel
theorem dX6_nights_39 : decode cX6_nights 39 = .ok (.ireturn, 1) := by decide +kernel
theorem dX6_needed_0 : decode cX6_needed 0 = .ok (.aload_n 0, 1) := by decide +kernel
theorem dX6_needed_1 : decode cX6_needed 1 = .ok (.getfield 26, 3) := by decide +kernel
theorem dX6_needed_4 : decode cX6_needed 4 = .ok (.iload_n 1, 1) := by decide +kernel
theorem dX6_needed_5 : decode cX6_needed 5 = .ok (.invokevirtual 116, 3) := by decide +kernel
theorem dX6_needed_8 : decode cX6_needed 8 = .ok (.ifCond .ne 5, 3) := by decide +kernel
theorem dX6_needed_11 : decode cX6_needed 11 = .ok (.iconst (-1), 1) := by decide +kernel
theorem dX6_needed_12 : decode cX6_needed 12 = .ok (.ireturn, 1) := by decide +kernel
theorem dX6_needed_13 : decode cX6_needed 13 = .ok (.aload_n 0, 1) := by decide +kernel
theorem dX6_needed_14 : decode cX6_needed 14 = .ok (.getfield 55, 3) := by decide +kernel
theorem dX6_needed_17 : decode cX6_needed 17 = .ok (.aload_n 0, 1) := by decide +kernel
theorem dX6_needed_18 : decode cX6_needed 18 = .ok (.getfield 26, 3) := by decide +kernel
theorem dX6_needed_21 : decode cX6_needed 21 = .ok (.iload_n 1, 1) := by decide +kernel
theorem dX6_needed_22 : decode cX6_needed 22 = .ok (.aload_n 0, 1) := by decide +kernel
theorem dX6_needed_23 : decode cX6_needed 23 = .ok (.getfield 36, 3) := by decide +kernel
theorem dX6_needed_26 : decode cX6_needed 26 = .ok (.getfield 126, 3) := by decide +kernel
theorem dX6_needed_29 : decode cX6_needed 29 = .ok (.invokevirtual 169, 3) := by decide +kernel
theorem dX6_needed_32 : decode cX6_needed 32 = .ok (.aload_n 0, 1) := by decide +kernel
theorem dX6_needed_33 : decode cX6_needed 33 = .ok (.getfield 55, 3) := by decide +kernel
theorem dX6_needed_36 : decode cX6_needed 36 = .ok (.getfield 188, 3) := by decide +kernel
theorem dX6_needed_39 : decode cX6_needed 39 = .ok (.ireturn, 1) := by decide +kernel
theorem dX6_forgotten_0 : decode cX6_forgotten 0 = .ok (.iconst 0, 1) := by decide +kernel
theorem dX6_forgotten_1 : decode cX6_forgotten 1 = .ok (.istore_n 1, 1) := by decide +kernel
theorem dX6_forgotten_2 : decode cX6_forgotten 2 = .ok (.iconst 0, 1) := by decide +kernel
theorem dX6_forgotten_3 : decode cX6_forgotten 3 = .ok (.istore_n 2, 1) := by decide +kernel
theorem dX6_forgotten_4 : decode cX6_forgotten 4 = .ok (.iload_n 2, 1) := by decide +kernel
theorem dX6_forgotten_5 : decode cX6_forgotten 5 = .ok (.bipush 10, 2) := by decide +kernel
theorem dX6_forgotten_7 : decode cX6_forgotten 7 = .ok (.if_icmp .ge 49, 3) := by decide +kernel
theorem dX6_forgotten_10 : decode cX6_forgotten 10 = .ok (.aload_n 0, 1) := by decide +kernel
theorem dX6_forgotten_11 : decode cX6_forgotten 11 = .ok (.getfield 26, 3) := by decide +kernel
theorem dX6_forgotten_14 : decode cX6_forgotten 14 = .ok (.iload_n 2, 1) := by decide +kernel
theorem dX6_forgotten_15 : decode cX6_forgotten 15 = .ok (.invokevirtual 116, 3) := by decide +kernel
theorem dX6_forgotten_18 : decode cX6_forgotten 18 = .ok (.ifCond .eq 32, 3) := by decide +kernel
theorem dX6_forgotten_21 : decode cX6_forgotten 21 = .ok (.aload_n 0, 1) := by decide +kernel
theorem dX6_forgotten_22 : decode cX6_forgotten 22 = .ok (.getfield 55, 3) := by decide +kernel
theorem dX6_forgotten_25 : decode cX6_forgotten 25 = .ok (.aload_n 0, 1) := by decide +kernel
theorem dX6_forgotten_26 : decode cX6_forgotten 26 = .ok (.getfield 26, 3) := by decide +kernel
theorem dX6_forgotten_29 : decode cX6_forgotten 29 = .ok (.iload_n 2, 1) := by decide +kernel
theorem dX6_forgotten_30 : decode cX6_forgotten 30 = .ok (.aload_n 0, 1) := by decide +kernel
theorem dX6_forgotten_31 : decode cX6_forgotten 31 = .ok (.getfield 36, 3) := by decide +kernel
theorem dX6_forgotten_34 : decode cX6_forgotten 34 = .ok (.getfield 126, 3) := by decide +kernel
theorem dX6_forgotten_37 : decode cX6_forgotten 37 = .ok (.invokevirtual 169, 3) := by decide +kernel
theorem dX6_forgotten_40 : decode cX6_forgotten 40 = .ok (.iload_n 1, 1) := by decide +kernel
theorem dX6_forgotten_41 : decode cX6_forgotten 41 = .ok (.aload_n 0, 1) := by decide +kernel
theorem dX6_forgotten_42 : decode cX6_forgotten 42 = .ok (.getfield 55, 3) := by decide +kernel
theorem dX6_forgotten_45 : decode cX6_forgotten 45 = .ok (.getfield 191, 3) := by decide +kernel
theorem dX6_forgotten_48 : decode cX6_forgotten 48 = .ok (.ior, 1) := by decide +kernel
theorem dX6_forgotten_49 : decode cX6_forgotten 49 = .ok (.istore_n 1, 1) := by decide +kernel
theorem dX6_forgotten_50 : decode cX6_forgotten 50 = .ok (.iinc 2 1, 3) := by decide +kernel
theorem dX6_forgotten_53 : decode cX6_forgotten 53 = .ok (.goto (-49), 3) := by decide +kernel
theorem dX6_forgotten_56 : decode cX6_forgotten 56 = .ok (.aload_n 0, 1) := by decide +kernel
theorem dX6_forgotten_57 : decode cX6_forgotten 57 = .ok (.getfield 26, 3) := by decide +kernel
theorem dX6_forgotten_60 : decode cX6_forgotten 60 = .ok (.invokevirtual 194, 3) := by decide +kernel
theorem dX6_forgotten_63 : decode cX6_forgotten 63 = .ok (.aload_n 0, 1) := by decide +kernel
theorem dX6_forgotten_64 : decode cX6_forgotten 64 = .ok (.getfield 36, 3) := by decide +kernel
theorem dX6_forgotten_67 : decode cX6_forgotten 67 = .ok (.getfield 126, 3) := by decide +kernel
theorem dX6_forgotten_70 : decode cX6_forgotten 70 = .ok (.iconst (-1), 1) := by decide +kernel
theorem dX6_forgotten_71 : decode cX6_forgotten 71 = .ok (.ixor, 1) := by decide +kernel
theorem dX6_forgotten_72 : decode cX6_forgotten 72 = .ok (.iand, 1) := by decide +kernel
theorem dX6_forgotten_73 : decode cX6_forgotten 73 = .ok (.iload_n 1, 1) := by decide +kernel
theorem dX6_forgotten_74 : decode cX6_forgotten 74 = .ok (.iconst (-1), 1) := by decide +kernel
theorem dX6_forgotten_75 : decode cX6_forgotten 75 = .ok (.ixor, 1) := by decide +kernel
theorem dX6_forgotten_76 : decode cX6_forgotten 76 = .ok (.iand, 1) := by decide +kernel
theorem dX6_forgotten_77 : decode cX6_forgotten 77 = .ok (.ireturn, 1) := by decide +kernel
theorem dX6_both_0 : decode cX6_both 0 = .ok (.aload_n 0, 1) := by decide +kernel
theorem dX6_both_1 : decode cX6_both 1 = .ok (.getfield 26, 3) := by decide +kernel
theorem dX6_both_4 : decode cX6_both 4 = .ok (.iload_n 1, 1) := by decide +kernel
theorem dX6_both_5 : decode cX6_both 5 = .ok (.invokevirtual 116, 3) := by decide +kernel
theorem dX6_both_8 : decode cX6_both 8 = .ok (.ifCond .eq 23, 3) := by decide +kernel
theorem dX6_both_11 : decode cX6_both 11 = .ok (.aload_n 0, 1) := by decide +kernel
theorem dX6_both_12 : decode cX6_both 12 = .ok (.getfield 26, 3) := by decide +kernel
theorem dX6_both_15 : decode cX6_both 15 = .ok (.iload_n 2, 1) := by decide +kernel
theorem dX6_both_16 : decode cX6_both 16 = .ok (.invokevirtual 116, 3) := by decide +kernel
theorem dX6_both_19 : decode cX6_both 19 = .ok (.ifCond .eq 12, 3) := by decide +kernel
theorem dX6_both_22 : decode cX6_both 22 = .ok (.iload_n 3, 1) := by decide +kernel
theorem dX6_both_23 : decode cX6_both 23 = .ok (.iconst 0, 1) := by decide +kernel
theorem dX6_both_24 : decode cX6_both 24 = .ok (.iconst 1, 1) := by decide +kernel
theorem dX6_both_25 : decode cX6_both 25 = .ok (.invokestatic 75, 3) := by decide +kernel
theorem dX6_both_28 : decode cX6_both 28 = .ok (.ifCond .eq 5, 3) := by decide +kernel
theorem dX6_both_31 : decode cX6_both 31 = .ok (.iconst (-1), 1) := by decide +kernel
theorem dX6_both_32 : decode cX6_both 32 = .ok (.ireturn, 1) := by decide +kernel
theorem dX6_both_33 : decode cX6_both 33 = .ok (.aload_n 0, 1) := by decide +kernel
theorem dX6_both_34 : decode cX6_both 34 = .ok (.getfield 55, 3) := by decide +kernel
theorem dX6_both_37 : decode cX6_both 37 = .ok (.aload_n 0, 1) := by decide +kernel
theorem dX6_both_38 : decode cX6_both 38 = .ok (.getfield 26, 3) := by decide +kernel
theorem dX6_both_41 : decode cX6_both 41 = .ok (.iload_n 1, 1) := by decide +kernel
theorem dX6_both_42 : decode cX6_both 42 = .ok (.aload_n 0, 1) := by decide +kernel
theorem dX6_both_43 : decode cX6_both 43 = .ok (.getfield 36, 3) := by decide +kernel
theorem dX6_both_46 : decode cX6_both 46 = .ok (.getfield 126, 3) := by decide +kernel
theorem dX6_both_49 : decode cX6_both 49 = .ok (.invokevirtual 169, 3) := by decide +kernel
theorem dX6_both_52 : decode cX6_both 52 = .ok (.aload_n 0, 1) := by decide +kernel
theorem dX6_both_53 : decode cX6_both 53 = .ok (.getfield 59, 3) := by decide +kernel
theorem dX6_both_56 : decode cX6_both 56 = .ok (.aload_n 0, 1) := by decide +kernel
theorem dX6_both_57 : decode cX6_both 57 = .ok (.getfield 26, 3) := by decide +kernel
theorem dX6_both_60 : decode cX6_both 60 = .ok (.iload_n 2, 1) := by decide +kernel
theorem dX6_both_61 : decode cX6_both 61 = .ok (.aload_n 0, 1) := by decide +kernel
theorem dX6_both_62 : decode cX6_both 62 = .ok (.getfield 36, 3) := by decide +kernel
theorem dX6_both_65 : decode cX6_both 65 = .ok (.getfield 126, 3) := by decide +kernel
theorem dX6_both_68 : decode cX6_both 68 = .ok (.invokevirtual 169, 3) := by decide +kernel
theorem dX6_both_71 : decode cX6_both 71 = .ok (.bipush (-4), 2) := by decide +kernel
theorem dX6_both_73 : decode cX6_both 73 = .ok (.istore 4, 2) := by decide +kernel
theorem dX6_both_75 : decode cX6_both 75 = .ok (.bipush (-4), 2) := by decide +kernel
theorem dX6_both_77 : decode cX6_both 77 = .ok (.istore 5, 2) := by decide +kernel
theorem dX6_both_79 : decode cX6_both 79 = .ok (.iconst 0, 1) := by decide +kernel
theorem dX6_both_80 : decode cX6_both 80 = .ok (.istore 6, 2) := by decide +kernel
theorem dX6_both_82 : decode cX6_both 82 = .ok (.iload 6, 2) := by decide +kernel
theorem dX6_both_84 : decode cX6_both 84 = .ok (.bipush 10, 2) := by decide +kernel
theorem dX6_both_86 : decode cX6_both 86 = .ok (.if_icmp .ge 81, 3) := by decide +kernel
theorem dX6_both_89 : decode cX6_both 89 = .ok (.aload_n 0, 1) := by decide +kernel
theorem dX6_both_90 : decode cX6_both 90 = .ok (.getfield 55, 3) := by decide +kernel
theorem dX6_both_93 : decode cX6_both 93 = .ok (.getfield 185, 3) := by decide +kernel
theorem dX6_both_96 : decode cX6_both 96 = .ok (.aload_n 0, 1) := by decide +kernel
theorem dX6_both_97 : decode cX6_both 97 = .ok (.getfield 59, 3) := by decide +kernel
theorem dX6_both_100 : decode cX6_both 100 = .ok (.getfield 185, 3) := by decide +kernel
theorem dX6_both_103 : decode cX6_both 103 = .ok (.iand, 1) := by decide +kernel
theorem dX6_both_104 : decode cX6_both 104 = .ok (.iload 6, 2) := by decide +kernel
theorem dX6_both_106 : decode cX6_both 106 = .ok (.invokestatic 129, 3) := by decide +kernel
theorem dX6_both_109 : decode cX6_both 109 = .ok (.ifCond .eq 52, 3) := by decide +kernel
theorem dX6_both_112 : decode cX6_both 112 = .ok (.aload_n 0, 1) := by decide +kernel
theorem dX6_both_113 : decode cX6_both 113 = .ok (.getfield 55, 3) := by decide +kernel
theorem dX6_both_116 : decode cX6_both 116 = .ok (.getfield 197, 3) := by decide +kernel
theorem dX6_both_119 : decode cX6_both 119 = .ok (.iload 6, 2) := by decide +kernel
theorem dX6_both_121 : decode cX6_both 121 = .ok (.invokestatic 106, 3) := by decide +kernel
theorem dX6_both_124 : decode cX6_both 124 = .ok (.aload_n 0, 1) := by decide +kernel
theorem dX6_both_125 : decode cX6_both 125 = .ok (.getfield 59, 3) := by decide +kernel
theorem dX6_both_128 : decode cX6_both 128 = .ok (.getfield 197, 3) := by decide +kernel
theorem dX6_both_131 : decode cX6_both 131 = .ok (.iload 6, 2) := by decide +kernel
theorem dX6_both_133 : decode cX6_both 133 = .ok (.invokestatic 106, 3) := by decide +kernel
theorem dX6_both_136 : decode cX6_both 136 = .ok (.iadd, 1) := by decide +kernel
theorem dX6_both_137 : decode cX6_both 137 = .ok (.istore 7, 2) := by decide +kernel
theorem dX6_both_139 : decode cX6_both 139 = .ok (.iload 4, 2) := by decide +kernel
theorem dX6_both_141 : decode cX6_both 141 = .ok (.bipush (-4), 2) := by decide +kernel
theorem dX6_both_143 : decode cX6_both 143 = .ok (.if_icmp .eq 10, 3) := by decide +kernel
theorem dX6_both_146 : decode cX6_both 146 = .ok (.iload 7, 2) := by decide +kernel
theorem dX6_both_148 : decode cX6_both 148 = .ok (.iload 5, 2) := by decide +kernel
theorem dX6_both_150 : decode cX6_both 150 = .ok (.if_icmp .ge 11, 3) := by decide +kernel
theorem dX6_both_153 : decode cX6_both 153 = .ok (.iload 6, 2) := by decide +kernel
theorem dX6_both_155 : decode cX6_both 155 = .ok (.istore 4, 2) := by decide +kernel
theorem dX6_both_157 : decode cX6_both 157 = .ok (.iload 7, 2) := by decide +kernel
theorem dX6_both_159 : decode cX6_both 159 = .ok (.istore 5, 2) := by decide +kernel
theorem dX6_both_161 : decode cX6_both 161 = .ok (.iinc 6 1, 3) := by decide +kernel
theorem dX6_both_164 : decode cX6_both 164 = .ok (.goto (-82), 3) := by decide +kernel
theorem dX6_both_167 : decode cX6_both 167 = .ok (.iload_n 3, 1) := by decide +kernel
theorem dX6_both_168 : decode cX6_both 168 = .ok (.ifCond .ne 8, 3) := by decide +kernel
theorem dX6_both_171 : decode cX6_both 171 = .ok (.iload 4, 2) := by decide +kernel
theorem dX6_both_173 : decode cX6_both 173 = .ok (.goto 5, 3) := by decide +kernel
theorem dX6_both_176 : decode cX6_both 176 = .ok (.iload 5, 2) := by decide +kernel
theorem dX6_both_178 : decode cX6_both 178 = .ok (.ireturn, 1) := by decide +kernel
theorem dX6_byTurns_0 : decode cX6_byTurns 0 = .ok (.aload_n 0, 1) := by decide +kernel
theorem dX6_byTurns_1 : decode cX6_byTurns 1 = .ok (.getfield 26, 3) := by decide +kernel
theorem dX6_byTurns_4 : decode cX6_byTurns 4 = .ok (.iload_n 1, 1) := by decide +kernel
theorem dX6_byTurns_5 : decode cX6_byTurns 5 = .ok (.invokevirtual 116, 3) := by decide +kernel
theorem dX6_byTurns_8 : decode cX6_byTurns 8 = .ok (.ifCond .eq 12, 3) := by decide +kernel
theorem dX6_byTurns_11 : decode cX6_byTurns 11 = .ok (.iload_n 2, 1) := by decide +kernel
theorem dX6_byTurns_12 : decode cX6_byTurns 12 = .ok (.iconst 0, 1) := by decide +kernel
theorem dX6_byTurns_13 : decode cX6_byTurns 13 = .ok (.iconst 1, 1) := by decide +kernel
theorem dX6_byTurns_14 : decode cX6_byTurns 14 = .ok (.invokestatic 75, 3) := by decide +kernel
theorem dX6_byTurns_17 : decode cX6_byTurns 17 = .ok (.ifCond .eq 5, 3) := by decide +kernel
theorem dX6_byTurns_20 : decode cX6_byTurns 20 = .ok (.iconst (-1), 1) := by decide +kernel
theorem dX6_byTurns_21 : decode cX6_byTurns 21 = .ok (.ireturn, 1) := by decide +kernel
theorem dX6_byTurns_22 : decode cX6_byTurns 22 = .ok (.aload_n 0, 1) := by decide +kernel
theorem dX6_byTurns_23 : decode cX6_byTurns 23 = .ok (.iload_n 1, 1) := by decide +kernel
theorem dX6_byTurns_24 : decode cX6_byTurns 24 = .ok (.invokevirtual 200, 3) := by decide +kernel
theorem dX6_byTurns_27 : decode cX6_byTurns 27 = .ok (.istore_n 3, 1) := by decide +kernel
theorem dX6_byTurns_28 : decode cX6_byTurns 28 = .ok (.iload_n 2, 1) := by decide +kernel
theorem dX6_byTurns_29 : decode cX6_byTurns 29 = .ok (.ifCond .ne 20, 3) := by decide +kernel
theorem dX6_byTurns_32 : decode cX6_byTurns 32 = .ok (.iload_n 3, 1) := by decide +kernel
theorem dX6_byTurns_33 : decode cX6_byTurns 33 = .ok (.bipush (-4), 2) := by decide +kernel
theorem dX6_byTurns_35 : decode cX6_byTurns 35 = .ok (.if_icmp .eq 7, 3) := by decide +kernel
theorem dX6_byTurns_38 : decode cX6_byTurns 38 = .ok (.iconst 1, 1) := by decide +kernel
theorem dX6_byTurns_39 : decode cX6_byTurns 39 = .ok (.goto 4, 3) := by decide +kernel
theorem dX6_byTurns_42 : decode cX6_byTurns 42 = .ok (.iconst 0, 1) := by decide +kernel
theorem dX6_byTurns_43 : decode cX6_byTurns 43 = .ok (.invokestatic 119, 3) := by decide +kernel
theorem dX6_byTurns_46 : decode cX6_byTurns 46 = .ok (.goto 4, 3) := by decide +kernel
theorem dX6_byTurns_49 : decode cX6_byTurns 49 = .ok (.iload_n 3, 1) := by decide +kernel
theorem dX6_byTurns_50 : decode cX6_byTurns 50 = .ok (.ireturn, 1) := by decide +kernel
theorem dX6_days_0 : decode cX6_days 0 = .ok (.aload_n 0, 1) := by decide +kernel
theorem dX6_days_1 : decode cX6_days 1 = .ok (.getfield 26, 3) := by decide +kernel
theorem dX6_days_4 : decode cX6_days 4 = .ok (.iload_n 1, 1) := by decide +kernel
theorem dX6_days_5 : decode cX6_days 5 = .ok (.invokevirtual 116, 3) := by decide +kernel
theorem dX6_days_8 : decode cX6_days 8 = .ok (.ifCond .ne 5, 3) := by decide +kernel
theorem dX6_days_11 : decode cX6_days 11 = .ok (.iconst (-1), 1) := by decide +kernel
theorem dX6_days_12 : decode cX6_days 12 = .ok (.ireturn, 1) := by decide +kernel
theorem dX6_days_13 : decode cX6_days 13 = .ok (.aload_n 0, 1) := by decide +kernel
theorem dX6_days_14 : decode cX6_days 14 = .ok (.getfield 55, 3) := by decide +kernel
theorem dX6_days_17 : decode cX6_days 17 = .ok (.aload_n 0, 1) := by decide +kernel
theorem dX6_days_18 : decode cX6_days 18 = .ok (.getfield 26, 3) := by decide +kernel
theorem dX6_days_21 : decode cX6_days 21 = .ok (.iload_n 1, 1) := by decide +kernel
theorem dX6_days_22 : decode cX6_days 22 = .ok (.aload_n 0, 1) := by decide +kernel
theorem dX6_days_23 : decode cX6_days 23 = .ok (.getfield 36, 3) := by decide +kernel
theorem dX6_days_26 : decode cX6_days 26 = .ok (.getfield 126, 3) := by decide +kernel
theorem dX6_days_29 : decode cX6_days 29 = .ok (.invokevirtual 169, 3) := by decide +kernel
theorem dX6_days_32 : decode cX6_days 32 = .ok (.aload_n 0, 1) := by decide +kernel
theorem dX6_days_33 : decode cX6_days 33 = .ok (.getfield 55, 3) := by decide +kernel
theorem dX6_days_36 : decode cX6_days 36 = .ok (.getfield 173, 3) := by decide +kernel
theorem dX6_days_39 : decode cX6_days 39 = .ok (.ifCond .ne 8, 3) := by decide +kernel
theorem dX6_days_42 : decode cX6_days 42 = .ok (.bipush (-4), 2) := by decide +kernel
theorem dX6_days_44 : decode cX6_days 44 = .ok (.goto 10, 3) := by decide +kernel
theorem dX6_days_47 : decode cX6_days 47 = .ok (.aload_n 0, 1) := by decide +kernel
theorem dX6_days_48 : decode cX6_days 48 = .ok (.getfield 55, 3) := by decide +kernel
theorem dX6_days_51 : decode cX6_days 51 = .ok (.getfield 203, 3) := by decide +kernel
theorem dX6_days_54 : decode cX6_days 54 = .ok (.ireturn, 1) := by decide +kernel
theorem dX6_who_0 : decode cX6_who 0 = .ok (.aload_n 0, 1) := by decide +kernel
theorem dX6_who_1 : decode cX6_who 1 = .ok (.getfield 26, 3) := by decide +kernel
theorem dX6_who_4 : decode cX6_who 4 = .ok (.iload_n 1, 1) := by decide +kernel
theorem dX6_who_5 : decode cX6_who 5 = .ok (.invokevirtual 206, 3) := by decide +kernel
theorem dX6_who_8 : decode cX6_who 8 = .ok (.ifCond .eq 14, 3) := by decide +kernel
theorem dX6_who_11 : decode cX6_who 11 = .ok (.aload_n 0, 1) := by decide +kernel
theorem dX6_who_12 : decode cX6_who 12 = .ok (.getfield 26, 3) := by decide +kernel
theorem dX6_who_15 : decode cX6_who 15 = .ok (.iload_n 1, 1) := by decide +kernel
theorem dX6_who_16 : decode cX6_who 16 = .ok (.invokevirtual 209, 3) := by decide +kernel
theorem dX6_who_19 : decode cX6_who 19 = .ok (.goto 4, 3) := by decide +kernel
theorem dX6_who_22 : decode cX6_who 22 = .ok (.iconst (-1), 1) := by decide +kernel
theorem dX6_who_23 : decode cX6_who 23 = .ok (.ireturn, 1) := by decide +kernel
theorem dX6_fits_0 : decode cX6_fits 0 = .ok (.aload_n 0, 1) := by decide +kernel
theorem dX6_fits_1 : decode cX6_fits 1 = .ok (.getfield 26, 3) := by decide +kernel
theorem dX6_fits_4 : decode cX6_fits 4 = .ok (.iload_n 1, 1) := by decide +kernel
theorem dX6_fits_5 : decode cX6_fits 5 = .ok (.invokevirtual 116, 3) := by decide +kernel
theorem dX6_fits_8 : decode cX6_fits 8 = .ok (.ifCond .eq 11, 3) := by decide +kernel
theorem dX6_fits_11 : decode cX6_fits 11 = .ok (.aload_n 0, 1) := by decide +kernel
theorem dX6_fits_12 : decode cX6_fits 12 = .ok (.iload_n 1, 1) := by decide +kernel
theorem dX6_fits_13 : decode cX6_fits 13 = .ok (.invokevirtual 212, 3) := by decide +kernel
theorem dX6_fits_16 : decode cX6_fits 16 = .ok (.goto 4, 3) := by decide +kernel
theorem dX6_fits_19 : decode cX6_fits 19 = .ok (.iconst (-1), 1) := by decide +kernel
theorem dX6_fits_20 : decode cX6_fits 20 = .ok (.ireturn, 1) := by decide +kernel
theorem dX6_look_0 : decode cX6_look 0 = .ok (.aload_n 0, 1) := by decide +kernel
theorem dX6_look_1 : decode cX6_look 1 = .ok (.getfield 26, 3) := by decide +kernel
theorem dX6_look_4 : decode cX6_look 4 = .ok (.iload_n 1, 1) := by decide +kernel
theorem dX6_look_5 : decode cX6_look 5 = .ok (.invokevirtual 116, 3) := by decide +kernel
theorem dX6_look_8 : decode cX6_look 8 = .ok (.ifCond .eq 12, 3) := by decide +kernel
theorem dX6_look_11 : decode cX6_look 11 = .ok (.iload_n 2, 1) := by decide +kernel
theorem dX6_look_12 : decode cX6_look 12 = .ok (.iconst 0, 1) := by decide +kernel
theorem dX6_look_13 : decode cX6_look 13 = .ok (.iconst 1, 1) := by decide +kernel
theorem dX6_look_14 : decode cX6_look 14 = .ok (.invokestatic 75, 3) := by decide +kernel
theorem dX6_look_17 : decode cX6_look 17 = .ok (.ifCond .eq 5, 3) := by decide +kernel
theorem dX6_look_20 : decode cX6_look 20 = .ok (.iconst (-1), 1) := by decide +kernel
theorem dX6_look_21 : decode cX6_look 21 = .ok (.ireturn, 1) := by decide +kernel
theorem dX6_look_22 : decode cX6_look 22 = .ok (.aload_n 0, 1) := by decide +kernel
theorem dX6_look_23 : decode cX6_look 23 = .ok (.getfield 55, 3) := by decide +kernel
theorem dX6_look_26 : decode cX6_look 26 = .ok (.aload_n 0, 1) := by decide +kernel
theorem dX6_look_27 : decode cX6_look 27 = .ok (.getfield 26, 3) := by decide +kernel
theorem dX6_look_30 : decode cX6_look 30 = .ok (.iload_n 1, 1) := by decide +kernel
theorem dX6_look_31 : decode cX6_look 31 = .ok (.aload_n 0, 1) := by decide +kernel
theorem dX6_look_32 : decode cX6_look 32 = .ok (.getfield 36, 3) := by decide +kernel
theorem dX6_look_35 : decode cX6_look 35 = .ok (.getfield 126, 3) := by decide +kernel
theorem dX6_look_38 : decode cX6_look 38 = .ok (.invokevirtual 169, 3) := by decide +kernel
theorem dX6_look_41 : decode cX6_look 41 = .ok (.bipush (-4), 2) := by decide +kernel
theorem dX6_look_43 : decode cX6_look 43 = .ok (.istore_n 3, 1) := by decide +kernel
theorem dX6_look_44 : decode cX6_look 44 = .ok (.bipush (-4), 2) := by decide +kernel
theorem dX6_look_46 : decode cX6_look 46 = .ok (.istore 4, 2) := by decide +kernel
theorem dX6_look_48 : decode cX6_look 48 = .ok (.iconst 0, 1) := by decide +kernel
theorem dX6_look_49 : decode cX6_look 49 = .ok (.istore 5, 2) := by decide +kernel
theorem dX6_look_51 : decode cX6_look 51 = .ok (.iload 5, 2) := by decide +kernel
theorem dX6_look_53 : decode cX6_look 53 = .ok (.bipush 10, 2) := by decide +kernel
theorem dX6_look_55 : decode cX6_look 55 = .ok (.if_icmp .ge 58, 3) := by decide +kernel
theorem dX6_look_58 : decode cX6_look 58 = .ok (.aload_n 0, 1) := by decide +kernel
theorem dX6_look_59 : decode cX6_look 59 = .ok (.getfield 26, 3) := by decide +kernel
theorem dX6_look_62 : decode cX6_look 62 = .ok (.iload 5, 2) := by decide +kernel
theorem dX6_look_64 : decode cX6_look 64 = .ok (.invokevirtual 209, 3) := by decide +kernel
theorem dX6_look_67 : decode cX6_look 67 = .ok (.invokestatic 215, 3) := by decide +kernel
theorem dX6_look_70 : decode cX6_look 70 = .ok (.istore 6, 2) := by decide +kernel
theorem dX6_look_72 : decode cX6_look 72 = .ok (.aload_n 0, 1) := by decide +kernel
theorem dX6_look_73 : decode cX6_look 73 = .ok (.getfield 55, 3) := by decide +kernel
theorem dX6_look_76 : decode cX6_look 76 = .ok (.getfield 185, 3) := by decide +kernel
theorem dX6_look_79 : decode cX6_look 79 = .ok (.iload 5, 2) := by decide +kernel
theorem dX6_look_81 : decode cX6_look 81 = .ok (.invokestatic 129, 3) := by decide +kernel
theorem dX6_look_84 : decode cX6_look 84 = .ok (.ifCond .eq 23, 3) := by decide +kernel
theorem dX6_look_87 : decode cX6_look 87 = .ok (.iload_n 3, 1) := by decide +kernel
theorem dX6_look_88 : decode cX6_look 88 = .ok (.bipush (-4), 2) := by decide +kernel
theorem dX6_look_90 : decode cX6_look 90 = .ok (.if_icmp .eq 10, 3) := by decide +kernel
theorem dX6_look_93 : decode cX6_look 93 = .ok (.iload 6, 2) := by decide +kernel
theorem dX6_look_95 : decode cX6_look 95 = .ok (.iload 4, 2) := by decide +kernel
theorem dX6_look_97 : decode cX6_look 97 = .ok (.if_icmp .le 10, 3) := by decide +kernel
theorem dX6_look_100 : decode cX6_look 100 = .ok (.iload 5, 2) := by decide +kernel
theorem dX6_look_102 : decode cX6_look 102 = .ok (.istore_n 3, 1) := by decide +kernel
theorem dX6_look_103 : decode cX6_look 103 = .ok (.iload 6, 2) := by decide +kernel
theorem dX6_look_105 : decode cX6_look 105 = .ok (.istore 4, 2) := by decide +kernel
theorem dX6_look_107 : decode cX6_look 107 = .ok (.iinc 5 1, 3) := by decide +kernel
theorem dX6_look_110 : decode cX6_look 110 = .ok (.goto (-59), 3) := by decide +kernel
theorem dX6_look_113 : decode cX6_look 113 = .ok (.iload_n 2, 1) := by decide +kernel
theorem dX6_look_114 : decode cX6_look 114 = .ok (.ifCond .ne 7, 3) := by decide +kernel
theorem dX6_look_117 : decode cX6_look 117 = .ok (.iload_n 3, 1) := by decide +kernel
theorem dX6_look_118 : decode cX6_look 118 = .ok (.goto 5, 3) := by decide +kernel
theorem dX6_look_121 : decode cX6_look 121 = .ok (.iload 4, 2) := by decide +kernel
theorem dX6_look_123 : decode cX6_look 123 = .ok (.ireturn, 1) := by decide +kernel
theorem dX6_laid_0 : decode cX6_laid 0 = .ok (.aload_n 0, 1) := by decide +kernel
theorem dX6_laid_1 : decode cX6_laid 1 = .ok (.getfield 26, 3) := by decide +kernel
theorem dX6_laid_4 : decode cX6_laid 4 = .ok (.iload_n 1, 1) := by decide +kernel
theorem dX6_laid_5 : decode cX6_laid 5 = .ok (.invokevirtual 116, 3) := by decide +kernel
theorem dX6_laid_8 : decode cX6_laid 8 = .ok (.ifCond .eq 7, 3) := by decide +kernel
theorem dX6_laid_11 : decode cX6_laid 11 = .ok (.iload_n 2, 1) := by decide +kernel
theorem dX6_laid_12 : decode cX6_laid 12 = .ok (.ifCond .ge 5, 3) := by decide +kernel
theorem dX6_laid_15 : decode cX6_laid 15 = .ok (.iconst (-1), 1) := by decide +kernel
theorem dX6_laid_16 : decode cX6_laid 16 = .ok (.ireturn, 1) := by decide +kernel
theorem dX6_laid_17 : decode cX6_laid 17 = .ok (.aload_n 0, 1) := by decide +kernel
theorem dX6_laid_18 : decode cX6_laid 18 = .ok (.getfield 55, 3) := by decide +kernel
theorem dX6_laid_21 : decode cX6_laid 21 = .ok (.aload_n 0, 1) := by decide +kernel
theorem dX6_laid_22 : decode cX6_laid 22 = .ok (.getfield 26, 3) := by decide +kernel
theorem dX6_laid_25 : decode cX6_laid 25 = .ok (.iload_n 1, 1) := by decide +kernel
theorem dX6_laid_26 : decode cX6_laid 26 = .ok (.aload_n 0, 1) := by decide +kernel
theorem dX6_laid_27 : decode cX6_laid 27 = .ok (.getfield 36, 3) := by decide +kernel
theorem dX6_laid_30 : decode cX6_laid 30 = .ok (.getfield 126, 3) := by decide +kernel
theorem dX6_laid_33 : decode cX6_laid 33 = .ok (.invokevirtual 169, 3) := by decide +kernel
theorem dX6_laid_36 : decode cX6_laid 36 = .ok (.aload_n 0, 1) := by decide +kernel
theorem dX6_laid_37 : decode cX6_laid 37 = .ok (.getfield 55, 3) := by decide +kernel
theorem dX6_laid_40 : decode cX6_laid 40 = .ok (.getfield 173, 3) := by decide +kernel
theorem dX6_laid_43 : decode cX6_laid 43 = .ok (.ifCond .eq 14, 3) := by decide +kernel
theorem dX6_laid_46 : decode cX6_laid 46 = .ok (.iload_n 2, 1) := by decide +kernel
theorem dX6_laid_47 : decode cX6_laid 47 = .ok (.aload_n 0, 1) := by decide +kernel
theorem dX6_laid_48 : decode cX6_laid 48 = .ok (.getfield 55, 3) := by decide +kernel
theorem dX6_laid_51 : decode cX6_laid 51 = .ok (.getfield 179, 3) := by decide +kernel
theorem dX6_laid_54 : decode cX6_laid 54 = .ok (.if_icmp .lt 6, 3) := by decide +kernel
theorem dX6_laid_57 : decode cX6_laid 57 = .ok (.bipush (-4), 2) := by decide +kernel
theorem dX6_laid_59 : decode cX6_laid 59 = .ok (.ireturn, 1) := by decide +kernel
theorem dX6_laid_60 : decode cX6_laid 60 = .ok (.aload_n 0, 1) := by decide +kernel
theorem dX6_laid_61 : decode cX6_laid 61 = .ok (.getfield 26, 3) := by decide +kernel
theorem dX6_laid_64 : decode cX6_laid 64 = .ok (.aload_n 0, 1) := by decide +kernel
theorem dX6_laid_65 : decode cX6_laid 65 = .ok (.getfield 55, 3) := by decide +kernel
theorem dX6_laid_68 : decode cX6_laid 68 = .ok (.getfield 182, 3) := by decide +kernel
theorem dX6_laid_71 : decode cX6_laid 71 = .ok (.iload_n 2, 1) := by decide +kernel
theorem dX6_laid_72 : decode cX6_laid 72 = .ok (.iconst 1, 1) := by decide +kernel
theorem dX6_laid_73 : decode cX6_laid 73 = .ok (.iadd, 1) := by decide +kernel
theorem dX6_laid_74 : decode cX6_laid 74 = .ok (.invokevirtual 220, 3) := by decide +kernel
theorem dX6_laid_77 : decode cX6_laid 77 = .ok (.ireturn, 1) := by decide +kernel
theorem dX6_odds_0 : decode cX6_odds 0 = .ok (.aload_n 0, 1) := by decide +kernel
theorem dX6_odds_1 : decode cX6_odds 1 = .ok (.getfield 26, 3) := by decide +kernel
theorem dX6_odds_4 : decode cX6_odds 4 = .ok (.iload_n 1, 1) := by decide +kernel
theorem dX6_odds_5 : decode cX6_odds 5 = .ok (.invokevirtual 116, 3) := by decide +kernel
theorem dX6_odds_8 : decode cX6_odds 8 = .ok (.ifCond .eq 22, 3) := by decide +kernel
theorem dX6_odds_11 : decode cX6_odds 11 = .ok (.iload_n 2, 1) := by decide +kernel
theorem dX6_odds_12 : decode cX6_odds 12 = .ok (.iconst 0, 1) := by decide +kernel
theorem dX6_odds_13 : decode cX6_odds 13 = .ok (.bipush 10, 2) := by decide +kernel
theorem dX6_odds_15 : decode cX6_odds 15 = .ok (.invokestatic 75, 3) := by decide +kernel
theorem dX6_odds_18 : decode cX6_odds 18 = .ok (.ifCond .ne 12, 3) := by decide +kernel
theorem dX6_odds_21 : decode cX6_odds 21 = .ok (.iload_n 3, 1) := by decide +kernel
theorem dX6_odds_22 : decode cX6_odds 22 = .ok (.iconst 0, 1) := by decide +kernel
theorem dX6_odds_23 : decode cX6_odds 23 = .ok (.iconst 1, 1) := by decide +kernel
theorem dX6_odds_24 : decode cX6_odds 24 = .ok (.invokestatic 75, 3) := by decide +kernel
theorem dX6_odds_27 : decode cX6_odds 27 = .ok (.ifCond .eq 5, 3) := by decide +kernel
theorem dX6_odds_30 : decode cX6_odds 30 = .ok (.iconst (-1), 1) := by decide +kernel
theorem dX6_odds_31 : decode cX6_odds 31 = .ok (.ireturn, 1) := by decide +kernel
theorem dX6_odds_32 : decode cX6_odds 32 = .ok (.aload_n 0, 1) := by decide +kernel
theorem dX6_odds_33 : decode cX6_odds 33 = .ok (.iload_n 1, 1) := by decide +kernel
theorem dX6_odds_34 : decode cX6_odds 34 = .ok (.invokevirtual 212, 3) := by decide +kernel
theorem dX6_odds_37 : decode cX6_odds 37 = .ok (.invokestatic 215, 3) := by decide +kernel
theorem dX6_odds_40 : decode cX6_odds 40 = .ok (.istore 4, 2) := by decide +kernel
theorem dX6_odds_42 : decode cX6_odds 42 = .ok (.iconst 1, 1) := by decide +kernel
theorem dX6_odds_43 : decode cX6_odds 43 = .ok (.istore 5, 2) := by decide +kernel
theorem dX6_odds_45 : decode cX6_odds 45 = .ok (.iconst 1, 1) := by decide +kernel
theorem dX6_odds_46 : decode cX6_odds 46 = .ok (.istore 6, 2) := by decide +kernel
theorem dX6_odds_48 : decode cX6_odds 48 = .ok (.iconst 0, 1) := by decide +kernel
theorem dX6_odds_49 : decode cX6_odds 49 = .ok (.istore 7, 2) := by decide +kernel
theorem dX6_odds_51 : decode cX6_odds 51 = .ok (.iload 7, 2) := by decide +kernel
theorem dX6_odds_53 : decode cX6_odds 53 = .ok (.iload 4, 2) := by decide +kernel
theorem dX6_odds_55 : decode cX6_odds 55 = .ok (.if_icmp .ge 25, 3) := by decide +kernel
theorem dX6_odds_58 : decode cX6_odds 58 = .ok (.iload 5, 2) := by decide +kernel
theorem dX6_odds_60 : decode cX6_odds 60 = .ok (.bipush 10, 2) := by decide +kernel
theorem dX6_odds_62 : decode cX6_odds 62 = .ok (.imul, 1) := by decide +kernel
theorem dX6_odds_63 : decode cX6_odds 63 = .ok (.istore 5, 2) := by decide +kernel
theorem dX6_odds_65 : decode cX6_odds 65 = .ok (.iload 6, 2) := by decide +kernel
theorem dX6_odds_67 : decode cX6_odds 67 = .ok (.bipush 10, 2) := by decide +kernel
theorem dX6_odds_69 : decode cX6_odds 69 = .ok (.iload_n 2, 1) := by decide +kernel
theorem dX6_odds_70 : decode cX6_odds 70 = .ok (.isub, 1) := by decide +kernel
theorem dX6_odds_71 : decode cX6_odds 71 = .ok (.imul, 1) := by decide +kernel
theorem dX6_odds_72 : decode cX6_odds 72 = .ok (.istore 6, 2) := by decide +kernel
theorem dX6_odds_74 : decode cX6_odds 74 = .ok (.iinc 7 1, 3) := by decide +kernel
theorem dX6_odds_77 : decode cX6_odds 77 = .ok (.goto (-26), 3) := by decide +kernel
theorem dX6_odds_80 : decode cX6_odds 80 = .ok (.iload 5, 2) := by decide +kernel
theorem dX6_odds_82 : decode cX6_odds 82 = .ok (.iload 6, 2) := by decide +kernel
theorem dX6_odds_84 : decode cX6_odds 84 = .ok (.isub, 1) := by decide +kernel
theorem dX6_odds_85 : decode cX6_odds 85 = .ok (.istore 7, 2) := by decide +kernel
theorem dX6_odds_87 : decode cX6_odds 87 = .ok (.iload 7, 2) := by decide +kernel
theorem dX6_odds_89 : decode cX6_odds 89 = .ok (.iload 5, 2) := by decide +kernel
theorem dX6_odds_91 : decode cX6_odds 91 = .ok (.invokestatic 223, 3) := by decide +kernel
theorem dX6_odds_94 : decode cX6_odds 94 = .ok (.istore 8, 2) := by decide +kernel
theorem dX6_odds_96 : decode cX6_odds 96 = .ok (.iload 8, 2) := by decide +kernel
theorem dX6_odds_98 : decode cX6_odds 98 = .ok (.ifCond .ne 5, 3) := by decide +kernel
theorem dX6_odds_101 : decode cX6_odds 101 = .ok (.iconst (-1), 1) := by decide +kernel
theorem dX6_odds_102 : decode cX6_odds 102 = .ok (.ireturn, 1) := by decide +kernel
theorem dX6_odds_103 : decode cX6_odds 103 = .ok (.iload_n 3, 1) := by decide +kernel
theorem dX6_odds_104 : decode cX6_odds 104 = .ok (.ifCond .ne 11, 3) := by decide +kernel
theorem dX6_odds_107 : decode cX6_odds 107 = .ok (.iload 7, 2) := by decide +kernel
theorem dX6_odds_109 : decode cX6_odds 109 = .ok (.iload 8, 2) := by decide +kernel
theorem dX6_odds_111 : decode cX6_odds 111 = .ok (.idiv, 1) := by decide +kernel
theorem dX6_odds_112 : decode cX6_odds 112 = .ok (.goto 8, 3) := by decide +kernel
theorem dX6_odds_115 : decode cX6_odds 115 = .ok (.iload 5, 2) := by decide +kernel
theorem dX6_odds_117 : decode cX6_odds 117 = .ok (.iload 8, 2) := by decide +kernel
theorem dX6_odds_119 : decode cX6_odds 119 = .ok (.idiv, 1) := by decide +kernel
theorem dX6_odds_120 : decode cX6_odds 120 = .ok (.ireturn, 1) := by decide +kernel
theorem dX6_trialBy_0 : decode cX6_trialBy 0 = .ok (.iload_n 1, 1) := by decide +kernel
theorem dX6_trialBy_1 : decode cX6_trialBy 1 = .ok (.iconst 0, 1) := by decide +kernel
theorem dX6_trialBy_2 : decode cX6_trialBy 2 = .ok (.sipush 9999, 3) := by decide +kernel
theorem dX6_trialBy_5 : decode cX6_trialBy 5 = .ok (.invokestatic 75, 3) := by decide +kernel
theorem dX6_trialBy_8 : decode cX6_trialBy 8 = .ok (.ifCond .ne 23, 3) := by decide +kernel
theorem dX6_trialBy_11 : decode cX6_trialBy 11 = .ok (.aload_n 0, 1) := by decide +kernel
theorem dX6_trialBy_12 : decode cX6_trialBy 12 = .ok (.getfield 26, 3) := by decide +kernel
theorem dX6_trialBy_15 : decode cX6_trialBy 15 = .ok (.iload_n 2, 1) := by decide +kernel
theorem dX6_trialBy_16 : decode cX6_trialBy 16 = .ok (.invokevirtual 116, 3) := by decide +kernel
theorem dX6_trialBy_19 : decode cX6_trialBy 19 = .ok (.ifCond .eq 12, 3) := by decide +kernel
theorem dX6_trialBy_22 : decode cX6_trialBy 22 = .ok (.iload_n 3, 1) := by decide +kernel
theorem dX6_trialBy_23 : decode cX6_trialBy 23 = .ok (.iconst 0, 1) := by decide +kernel
theorem dX6_trialBy_24 : decode cX6_trialBy 24 = .ok (.iconst 1, 1) := by decide +kernel
theorem dX6_trialBy_25 : decode cX6_trialBy 25 = .ok (.invokestatic 75, 3) := by decide +kernel
theorem dX6_trialBy_28 : decode cX6_trialBy 28 = .ok (.ifCond .eq 5, 3) := by decide +kernel
theorem dX6_trialBy_31 : decode cX6_trialBy 31 = .ok (.iconst (-1), 1) := by decide +kernel
theorem dX6_trialBy_32 : decode cX6_trialBy 32 = .ok (.ireturn, 1) := by decide +kernel
theorem dX6_trialBy_33 : decode cX6_trialBy 33 = .ok (.aload_n 0, 1) := by decide +kernel
theorem dX6_trialBy_34 : decode cX6_trialBy 34 = .ok (.getfield 36, 3) := by decide +kernel
theorem dX6_trialBy_37 : decode cX6_trialBy 37 = .ok (.getfield 126, 3) := by decide +kernel
theorem dX6_trialBy_40 : decode cX6_trialBy 40 = .ok (.iload_n 2, 1) := by decide +kernel
theorem dX6_trialBy_41 : decode cX6_trialBy 41 = .ok (.invokestatic 129, 3) := by decide +kernel
theorem dX6_trialBy_44 : decode cX6_trialBy 44 = .ok (.ifCond .eq 7, 3) := by decide +kernel
theorem dX6_trialBy_47 : decode cX6_trialBy 47 = .ok (.iconst 1, 1) := by decide +kernel
theorem dX6_trialBy_48 : decode cX6_trialBy 48 = .ok (.goto 5, 3) := by decide +kernel
theorem dX6_trialBy_51 : decode cX6_trialBy 51 = .ok (.bipush 10, 2) := by decide +kernel
theorem dX6_trialBy_53 : decode cX6_trialBy 53 = .ok (.istore 4, 2) := by decide +kernel
theorem dX6_trialBy_55 : decode cX6_trialBy 55 = .ok (.iload_n 2, 1) := by decide +kernel
theorem dX6_trialBy_56 : decode cX6_trialBy 56 = .ok (.invokestatic 147, 3) := by decide +kernel
theorem dX6_trialBy_59 : decode cX6_trialBy 59 = .ok (.istore 5, 2) := by decide +kernel
theorem dX6_trialBy_61 : decode cX6_trialBy 61 = .ok (.iload_n 2, 1) := by decide +kernel
theorem dX6_trialBy_62 : decode cX6_trialBy 62 = .ok (.istore 6, 2) := by decide +kernel
theorem dX6_trialBy_64 : decode cX6_trialBy 64 = .ok (.iconst 1, 1) := by decide +kernel
theorem dX6_trialBy_65 : decode cX6_trialBy 65 = .ok (.istore 7, 2) := by decide +kernel
theorem dX6_trialBy_67 : decode cX6_trialBy 67 = .ok (.iload 7, 2) := by decide +kernel
theorem dX6_trialBy_69 : decode cX6_trialBy 69 = .ok (.iload 4, 2) := by decide +kernel
theorem dX6_trialBy_71 : decode cX6_trialBy 71 = .ok (.if_icmp .ge 70, 3) := by decide +kernel
theorem dX6_trialBy_74 : decode cX6_trialBy 74 = .ok (.aload_n 0, 1) := by decide +kernel
theorem dX6_trialBy_75 : decode cX6_trialBy 75 = .ok (.getfield 26, 3) := by decide +kernel
theorem dX6_trialBy_78 : decode cX6_trialBy 78 = .ok (.iload 6, 2) := by decide +kernel
theorem dX6_trialBy_80 : decode cX6_trialBy 80 = .ok (.iload 5, 2) := by decide +kernel
theorem dX6_trialBy_82 : decode cX6_trialBy 82 = .ok (.aload_n 0, 1) := by decide +kernel
theorem dX6_trialBy_83 : decode cX6_trialBy 83 = .ok (.getfield 36, 3) := by decide +kernel
theorem dX6_trialBy_86 : decode cX6_trialBy 86 = .ok (.getfield 126, 3) := by decide +kernel
theorem dX6_trialBy_89 : decode cX6_trialBy 89 = .ok (.invokestatic 227, 3) := by decide +kernel
theorem dX6_trialBy_92 : decode cX6_trialBy 92 = .ok (.istore 8, 2) := by decide +kernel
theorem dX6_trialBy_94 : decode cX6_trialBy 94 = .ok (.iload 8, 2) := by decide +kernel
theorem dX6_trialBy_96 : decode cX6_trialBy 96 = .ok (.invokestatic 215, 3) := by decide +kernel
theorem dX6_trialBy_99 : decode cX6_trialBy 99 = .ok (.istore 9, 2) := by decide +kernel
theorem dX6_trialBy_101 : decode cX6_trialBy 101 = .ok (.iload 9, 2) := by decide +kernel
theorem dX6_trialBy_103 : decode cX6_trialBy 103 = .ok (.ifCond .ne 6, 3) := by decide +kernel
theorem dX6_trialBy_106 : decode cX6_trialBy 106 = .ok (.goto 35, 3) := by decide +kernel
theorem dX6_trialBy_109 : decode cX6_trialBy 109 = .ok (.iload 8, 2) := by decide +kernel
theorem dX6_trialBy_111 : decode cX6_trialBy 111 = .ok (.iload_n 1, 1) := by decide +kernel
theorem dX6_trialBy_112 : decode cX6_trialBy 112 = .ok (.iload 7, 2) := by decide +kernel
theorem dX6_trialBy_114 : decode cX6_trialBy 114 = .ok (.invokestatic 231, 3) := by decide +kernel
theorem dX6_trialBy_117 : decode cX6_trialBy 117 = .ok (.iload 9, 2) := by decide +kernel
theorem dX6_trialBy_119 : decode cX6_trialBy 119 = .ok (.irem, 1) := by decide +kernel
theorem dX6_trialBy_120 : decode cX6_trialBy 120 = .ok (.invokestatic 234, 3) := by decide +kernel
theorem dX6_trialBy_123 : decode cX6_trialBy 123 = .ok (.istore 6, 2) := by decide +kernel
theorem dX6_trialBy_125 : decode cX6_trialBy 125 = .ok (.iload 5, 2) := by decide +kernel
theorem dX6_trialBy_127 : decode cX6_trialBy 127 = .ok (.iload 6, 2) := by decide +kernel
theorem dX6_trialBy_129 : decode cX6_trialBy 129 = .ok (.invokestatic 147, 3) := by decide +kernel
theorem dX6_trialBy_132 : decode cX6_trialBy 132 = .ok (.ior, 1) := by decide +kernel
theorem dX6_trialBy_133 : decode cX6_trialBy 133 = .ok (.istore 5, 2) := by decide +kernel
theorem dX6_trialBy_135 : decode cX6_trialBy 135 = .ok (.iinc 7 1, 3) := by decide +kernel
theorem dX6_trialBy_138 : decode cX6_trialBy 138 = .ok (.goto (-71), 3) := by decide +kernel
theorem dX6_trialBy_141 : decode cX6_trialBy 141 = .ok (.iload_n 3, 1) := by decide +kernel
theorem dX6_trialBy_142 : decode cX6_trialBy 142 = .ok (.ifCond .ne 6, 3) := by decide +kernel
theorem dX6_trialBy_145 : decode cX6_trialBy 145 = .ok (.iload 7, 2) := by decide +kernel
theorem dX6_trialBy_147 : decode cX6_trialBy 147 = .ok (.ireturn, 1) := by decide +kernel
theorem dX6_trialBy_148 : decode cX6_trialBy 148 = .ok (.aload_n 0, 1) := by decide +kernel
theorem dX6_trialBy_149 : decode cX6_trialBy 149 = .ok (.getfield 26, 3) := by decide +kernel
theorem dX6_trialBy_152 : decode cX6_trialBy 152 = .ok (.iload 6, 2) := by decide +kernel
theorem dX6_trialBy_154 : decode cX6_trialBy 154 = .ok (.invokevirtual 206, 3) := by decide +kernel
theorem dX6_trialBy_157 : decode cX6_trialBy 157 = .ok (.ifCond .eq 8, 3) := by decide +kernel
theorem dX6_trialBy_160 : decode cX6_trialBy 160 = .ok (.iload 6, 2) := by decide +kernel
theorem dX6_trialBy_162 : decode cX6_trialBy 162 = .ok (.goto 5, 3) := by decide +kernel
theorem dX6_trialBy_165 : decode cX6_trialBy 165 = .ok (.bipush (-4), 2) := by decide +kernel
theorem dX6_trialBy_167 : decode cX6_trialBy 167 = .ok (.ireturn, 1) := by decide +kernel
theorem dX6_keep_0 : decode cX6_keep 0 = .ok (.aload_n 0, 1) := by decide +kernel
theorem dX6_keep_1 : decode cX6_keep 1 = .ok (.getfield 49, 3) := by decide +kernel
theorem dX6_keep_4 : decode cX6_keep 4 = .ok (.getfield 155, 3) := by decide +kernel
theorem dX6_keep_7 : decode cX6_keep 7 = .ok (.iconst 2, 1) := by decide +kernel
theorem dX6_keep_8 : decode cX6_keep 8 = .ok (.if_icmp .lt 6, 3) := by decide +kernel
theorem dX6_keep_11 : decode cX6_keep 11 = .ok (.bipush (-3), 2) := by decide +kernel
theorem dX6_keep_13 : decode cX6_keep 13 = .ok (.ireturn, 1) := by decide +kernel
theorem dX6_keep_14 : decode cX6_keep 14 = .ok (.aload_n 0, 1) := by decide +kernel
theorem dX6_keep_15 : decode cX6_keep 15 = .ok (.getfield 49, 3) := by decide +kernel
theorem dX6_keep_18 : decode cX6_keep 18 = .ok (.aload_n 0, 1) := by decide +kernel
theorem dX6_keep_19 : decode cX6_keep 19 = .ok (.getfield 36, 3) := by decide +kernel
theorem dX6_keep_22 : decode cX6_keep 22 = .ok (.invokevirtual 137, 3) := by decide +kernel
theorem dX6_keep_25 : decode cX6_keep 25 = .ok (.aload_n 0, 1) := by decide +kernel
theorem dX6_keep_26 : decode cX6_keep 26 = .ok (.getfield 49, 3) := by decide +kernel
theorem dX6_keep_29 : decode cX6_keep 29 = .ok (.getfield 155, 3) := by decide +kernel
theorem dX6_keep_32 : decode cX6_keep 32 = .ok (.ireturn, 1) := by decide +kernel
theorem dX6_back_0 : decode cX6_back 0 = .ok (.aload_n 0, 1) := by decide +kernel
theorem dX6_back_1 : decode cX6_back 1 = .ok (.getfield 49, 3) := by decide +kernel
theorem dX6_back_4 : decode cX6_back 4 = .ok (.aload_n 0, 1) := by decide +kernel
theorem dX6_back_5 : decode cX6_back 5 = .ok (.getfield 36, 3) := by decide +kernel
theorem dX6_back_8 : decode cX6_back 8 = .ok (.invokevirtual 151, 3) := by decide +kernel
theorem dX6_back_11 : decode cX6_back 11 = .ok (.ifCond .ne 6, 3) := by decide +kernel
theorem dX6_back_14 : decode cX6_back 14 = .ok (.bipush (-2), 2) := by decide +kernel
theorem dX6_back_16 : decode cX6_back 16 = .ok (.ireturn, 1) := by decide +kernel
theorem dX6_back_17 : decode cX6_back 17 = .ok (.aload_n 0, 1) := by decide +kernel
theorem dX6_back_18 : decode cX6_back 18 = .ok (.getfield 45, 3) := by decide +kernel
theorem dX6_back_21 : decode cX6_back 21 = .ok (.invokevirtual 95, 3) := by decide +kernel
theorem dX6_back_24 : decode cX6_back 24 = .ok (.aload_n 0, 1) := by decide +kernel
theorem dX6_back_25 : decode cX6_back 25 = .ok (.getfield 49, 3) := by decide +kernel
theorem dX6_back_28 : decode cX6_back 28 = .ok (.getfield 155, 3) := by decide +kernel
theorem dX6_back_31 : decode cX6_back 31 = .ok (.ireturn, 1) := by decide +kernel
theorem dX6_count_0 : decode cX6_count 0 = .ok (.iload_n 1, 1) := by decide +kernel
theorem dX6_count_1 : decode cX6_count 1 = .ok (.tableswitch 117 0 7 #[47, 55, 66, 74, 82, 93, 101, 109], 47) := by decide +kernel
theorem dX6_count_48 : decode cX6_count 48 = .ok (.aload_n 0, 1) := by decide +kernel
theorem dX6_count_49 : decode cX6_count 49 = .ok (.getfield 26, 3) := by decide +kernel
theorem dX6_count_52 : decode cX6_count 52 = .ok (.getfield 96, 3) := by decide +kernel
theorem dX6_count_55 : decode cX6_count 55 = .ok (.ireturn, 1) := by decide +kernel
theorem dX6_count_56 : decode cX6_count 56 = .ok (.aload_n 0, 1) := by decide +kernel
theorem dX6_count_57 : decode cX6_count 57 = .ok (.getfield 26, 3) := by decide +kernel
theorem dX6_count_60 : decode cX6_count 60 = .ok (.getfield 87, 3) := by decide +kernel
theorem dX6_count_63 : decode cX6_count 63 = .ok (.invokestatic 215, 3) := by decide +kernel
theorem dX6_count_66 : decode cX6_count 66 = .ok (.ireturn, 1) := by decide +kernel
theorem dX6_count_67 : decode cX6_count 67 = .ok (.aload_n 0, 1) := by decide +kernel
theorem dX6_count_68 : decode cX6_count 68 = .ok (.getfield 26, 3) := by decide +kernel
theorem dX6_count_71 : decode cX6_count 71 = .ok (.getfield 237, 3) := by decide +kernel
theorem dX6_count_74 : decode cX6_count 74 = .ok (.ireturn, 1) := by decide +kernel
theorem dX6_count_75 : decode cX6_count 75 = .ok (.aload_n 0, 1) := by decide +kernel
theorem dX6_count_76 : decode cX6_count 76 = .ok (.getfield 36, 3) := by decide +kernel
theorem dX6_count_79 : decode cX6_count 79 = .ok (.getfield 142, 3) := by decide +kernel
theorem dX6_count_82 : decode cX6_count 82 = .ok (.ireturn, 1) := by decide +kernel
theorem dX6_count_83 : decode cX6_count 83 = .ok (.aload_n 0, 1) := by decide +kernel
theorem dX6_count_84 : decode cX6_count 84 = .ok (.getfield 36, 3) := by decide +kernel
theorem dX6_count_87 : decode cX6_count 87 = .ok (.getfield 126, 3) := by decide +kernel
theorem dX6_count_90 : decode cX6_count 90 = .ok (.invokestatic 215, 3) := by decide +kernel
theorem dX6_count_93 : decode cX6_count 93 = .ok (.ireturn, 1) := by decide +kernel
theorem dX6_count_94 : decode cX6_count 94 = .ok (.aload_n 0, 1) := by decide +kernel
theorem dX6_count_95 : decode cX6_count 95 = .ok (.getfield 45, 3) := by decide +kernel
theorem dX6_count_98 : decode cX6_count 98 = .ok (.getfield 155, 3) := by decide +kernel
theorem dX6_count_101 : decode cX6_count 101 = .ok (.ireturn, 1) := by decide +kernel
theorem dX6_count_102 : decode cX6_count 102 = .ok (.aload_n 0, 1) := by decide +kernel
theorem dX6_count_103 : decode cX6_count 103 = .ok (.getfield 49, 3) := by decide +kernel
theorem dX6_count_106 : decode cX6_count 106 = .ok (.getfield 155, 3) := by decide +kernel
theorem dX6_count_109 : decode cX6_count 109 = .ok (.ireturn, 1) := by decide +kernel
theorem dX6_count_110 : decode cX6_count 110 = .ok (.aload_n 0, 1) := by decide +kernel
theorem dX6_count_111 : decode cX6_count 111 = .ok (.getfield 10, 3) := by decide +kernel
theorem dX6_count_114 : decode cX6_count 114 = .ok (.getfield 83, 3) := by decide +kernel
theorem dX6_count_117 : decode cX6_count 117 = .ok (.ireturn, 1) := by decide +kernel
theorem dX6_count_118 : decode cX6_count 118 = .ok (.iconst (-1), 1) := by decide +kernel
theorem dX6_count_119 : decode cX6_count 119 = .ok (.ireturn, 1) := by decide +kernel
theorem dX6_fittingPeople_0 : decode cX6_fittingPeople 0 = .ok (.aload_n 0, 1) := by decide +kernel
theorem dX6_fittingPeople_1 : decode cX6_fittingPeople 1 = .ok (.getfield 55, 3) := by decide +kernel
theorem dX6_fittingPeople_4 : decode cX6_fittingPeople 4 = .ok (.aload_n 0, 1) := by decide +kernel
theorem dX6_fittingPeople_5 : decode cX6_fittingPeople 5 = .ok (.getfield 26, 3) := by decide +kernel
theorem dX6_fittingPeople_8 : decode cX6_fittingPeople 8 = .ok (.iload_n 1, 1) := by decide +kernel
theorem dX6_fittingPeople_9 : decode cX6_fittingPeople 9 = .ok (.aload_n 0, 1) := by decide +kernel
theorem dX6_fittingPeople_10 : decode cX6_fittingPeople 10 = .ok (.getfield 36, 3) := by decide +kernel
theorem dX6_fittingPeople_13 : decode cX6_fittingPeople 13 = .ok (.getfield 126, 3) := by decide +kernel
theorem dX6_fittingPeople_16 : decode cX6_fittingPeople 16 = .ok (.invokevirtual 169, 3) := by decide +kernel
theorem dX6_fittingPeople_19 : decode cX6_fittingPeople 19 = .ok (.iconst 0, 1) := by decide +kernel
theorem dX6_fittingPeople_20 : decode cX6_fittingPeople 20 = .ok (.istore_n 2, 1) := by decide +kernel
theorem dX6_fittingPeople_21 : decode cX6_fittingPeople 21 = .ok (.iconst 0, 1) := by decide +kernel
theorem dX6_fittingPeople_22 : decode cX6_fittingPeople 22 = .ok (.istore_n 3, 1) := by decide +kernel
theorem dX6_fittingPeople_23 : decode cX6_fittingPeople 23 = .ok (.iload_n 3, 1) := by decide +kernel
theorem dX6_fittingPeople_24 : decode cX6_fittingPeople 24 = .ok (.bipush 10, 2) := by decide +kernel
theorem dX6_fittingPeople_26 : decode cX6_fittingPeople 26 = .ok (.if_icmp .ge 34, 3) := by decide +kernel
theorem dX6_fittingPeople_29 : decode cX6_fittingPeople 29 = .ok (.aload_n 0, 1) := by decide +kernel
theorem dX6_fittingPeople_30 : decode cX6_fittingPeople 30 = .ok (.getfield 55, 3) := by decide +kernel
theorem dX6_fittingPeople_33 : decode cX6_fittingPeople 33 = .ok (.getfield 185, 3) := by decide +kernel
theorem dX6_fittingPeople_36 : decode cX6_fittingPeople 36 = .ok (.iload_n 3, 1) := by decide +kernel
theorem dX6_fittingPeople_37 : decode cX6_fittingPeople 37 = .ok (.invokestatic 129, 3) := by decide +kernel
theorem dX6_fittingPeople_40 : decode cX6_fittingPeople 40 = .ok (.ifCond .eq 14, 3) := by decide +kernel
theorem dX6_fittingPeople_43 : decode cX6_fittingPeople 43 = .ok (.iload_n 2, 1) := by decide +kernel
theorem dX6_fittingPeople_44 : decode cX6_fittingPeople 44 = .ok (.aload_n 0, 1) := by decide +kernel
theorem dX6_fittingPeople_45 : decode cX6_fittingPeople 45 = .ok (.getfield 26, 3) := by decide +kernel
theorem dX6_fittingPeople_48 : decode cX6_fittingPeople 48 = .ok (.iload_n 3, 1) := by decide +kernel
theorem dX6_fittingPeople_49 : decode cX6_fittingPeople 49 = .ok (.invokevirtual 209, 3) := by decide +kernel
theorem dX6_fittingPeople_52 : decode cX6_fittingPeople 52 = .ok (.ior, 1) := by decide +kernel
theorem dX6_fittingPeople_53 : decode cX6_fittingPeople 53 = .ok (.istore_n 2, 1) := by decide +kernel
theorem dX6_fittingPeople_54 : decode cX6_fittingPeople 54 = .ok (.iinc 3 1, 3) := by decide +kernel
theorem dX6_fittingPeople_57 : decode cX6_fittingPeople 57 = .ok (.goto (-34), 3) := by decide +kernel
theorem dX6_fittingPeople_60 : decode cX6_fittingPeople 60 = .ok (.iload_n 2, 1) := by decide +kernel
theorem dX6_fittingPeople_61 : decode cX6_fittingPeople 61 = .ok (.ireturn, 1) := by decide +kernel
theorem dX6_winningOpening_0 : decode cX6_winningOpening 0 = .ok (.aload_n 0, 1) := by decide +kernel
theorem dX6_winningOpening_1 : decode cX6_winningOpening 1 = .ok (.getfield 36, 3) := by decide +kernel
theorem dX6_winningOpening_4 : decode cX6_winningOpening 4 = .ok (.getfield 126, 3) := by decide +kernel
theorem dX6_winningOpening_7 : decode cX6_winningOpening 7 = .ok (.iload_n 1, 1) := by decide +kernel
theorem dX6_winningOpening_8 : decode cX6_winningOpening 8 = .ok (.invokestatic 129, 3) := by decide +kernel
theorem dX6_winningOpening_11 : decode cX6_winningOpening 11 = .ok (.ifCond .eq 6, 3) := by decide +kernel
theorem dX6_winningOpening_14 : decode cX6_winningOpening 14 = .ok (.bipush (-4), 2) := by decide +kernel
theorem dX6_winningOpening_16 : decode cX6_winningOpening 16 = .ok (.ireturn, 1) := by decide +kernel
theorem dX6_winningOpening_17 : decode cX6_winningOpening 17 = .ok (.aload_n 0, 1) := by decide +kernel
theorem dX6_winningOpening_18 : decode cX6_winningOpening 18 = .ok (.getfield 26, 3) := by decide +kernel
theorem dX6_winningOpening_21 : decode cX6_winningOpening 21 = .ok (.iload_n 1, 1) := by decide +kernel
theorem dX6_winningOpening_22 : decode cX6_winningOpening 22 = .ok (.iload_n 1, 1) := by decide +kernel
theorem dX6_winningOpening_23 : decode cX6_winningOpening 23 = .ok (.invokestatic 147, 3) := by decide +kernel
theorem dX6_winningOpening_26 : decode cX6_winningOpening 26 = .ok (.aload_n 0, 1) := by decide +kernel
theorem dX6_winningOpening_27 : decode cX6_winningOpening 27 = .ok (.getfield 36, 3) := by decide +kernel
theorem dX6_winningOpening_30 : decode cX6_winningOpening 30 = .ok (.getfield 126, 3) := by decide +kernel
theorem dX6_winningOpening_33 : decode cX6_winningOpening 33 = .ok (.invokestatic 227, 3) := by decide +kernel
theorem dX6_winningOpening_36 : decode cX6_winningOpening 36 = .ok (.istore_n 2, 1) := by decide +kernel
theorem dX6_winningOpening_37 : decode cX6_winningOpening 37 = .ok (.iconst 0, 1) := by decide +kernel
theorem dX6_winningOpening_38 : decode cX6_winningOpening 38 = .ok (.istore_n 3, 1) := by decide +kernel
theorem dX6_winningOpening_39 : decode cX6_winningOpening 39 = .ok (.iload_n 3, 1) := by decide +kernel
theorem dX6_winningOpening_40 : decode cX6_winningOpening 40 = .ok (.bipush 10, 2) := by decide +kernel
theorem dX6_winningOpening_42 : decode cX6_winningOpening 42 = .ok (.if_icmp .ge 47, 3) := by decide +kernel
theorem dX6_winningOpening_45 : decode cX6_winningOpening 45 = .ok (.iload_n 2, 1) := by decide +kernel
theorem dX6_winningOpening_46 : decode cX6_winningOpening 46 = .ok (.iload_n 3, 1) := by decide +kernel
theorem dX6_winningOpening_47 : decode cX6_winningOpening 47 = .ok (.invokestatic 129, 3) := by decide +kernel
theorem dX6_winningOpening_50 : decode cX6_winningOpening 50 = .ok (.ifCond .eq 33, 3) := by decide +kernel
theorem dX6_winningOpening_53 : decode cX6_winningOpening 53 = .ok (.aload_n 0, 1) := by decide +kernel
theorem dX6_winningOpening_54 : decode cX6_winningOpening 54 = .ok (.getfield 26, 3) := by decide +kernel
theorem dX6_winningOpening_57 : decode cX6_winningOpening 57 = .ok (.aload_n 0, 1) := by decide +kernel
theorem dX6_winningOpening_58 : decode cX6_winningOpening 58 = .ok (.getfield 36, 3) := by decide +kernel
theorem dX6_winningOpening_61 : decode cX6_winningOpening 61 = .ok (.getfield 126, 3) := by decide +kernel
theorem dX6_winningOpening_64 : decode cX6_winningOpening 64 = .ok (.iload_n 1, 1) := by decide +kernel
theorem dX6_winningOpening_65 : decode cX6_winningOpening 65 = .ok (.invokestatic 147, 3) := by decide +kernel
theorem dX6_winningOpening_68 : decode cX6_winningOpening 68 = .ok (.iload_n 3, 1) := by decide +kernel
theorem dX6_winningOpening_69 : decode cX6_winningOpening 69 = .ok (.invokestatic 147, 3) := by decide +kernel
theorem dX6_winningOpening_72 : decode cX6_winningOpening 72 = .ok (.ior, 1) := by decide +kernel
theorem dX6_winningOpening_73 : decode cX6_winningOpening 73 = .ok (.iload_n 3, 1) := by decide +kernel
theorem dX6_winningOpening_74 : decode cX6_winningOpening 74 = .ok (.iconst 2, 1) := by decide +kernel
theorem dX6_winningOpening_75 : decode cX6_winningOpening 75 = .ok (.invokestatic 240, 3) := by decide +kernel
theorem dX6_winningOpening_78 : decode cX6_winningOpening 78 = .ok (.ifCond .eq 5, 3) := by decide +kernel
theorem dX6_winningOpening_81 : decode cX6_winningOpening 81 = .ok (.iload_n 3, 1) := by decide +kernel
theorem dX6_winningOpening_82 : decode cX6_winningOpening 82 = .ok (.ireturn, 1) := by decide +kernel
theorem dX6_winningOpening_83 : decode cX6_winningOpening 83 = .ok (.iinc 3 1, 3) := by decide +kernel
theorem dX6_winningOpening_86 : decode cX6_winningOpening 86 = .ok (.goto (-47), 3) := by decide +kernel
theorem dX6_winningOpening_89 : decode cX6_winningOpening 89 = .ok (.bipush (-4), 2) := by decide +kernel
theorem dX6_winningOpening_91 : decode cX6_winningOpening 91 = .ok (.ireturn, 1) := by decide +kernel
theorem dX6_isWon_0 : decode cX6_isWon 0 = .ok (.aload_n 0, 1) := by decide +kernel
theorem dX6_isWon_1 : decode cX6_isWon 1 = .ok (.iload_n 3, 1) := by decide +kernel
theorem dX6_isWon_2 : decode cX6_isWon 2 = .ok (.invokevirtual 206, 3) := by decide +kernel
theorem dX6_isWon_5 : decode cX6_isWon 5 = .ok (.ifCond .eq 17, 3) := by decide +kernel
theorem dX6_isWon_8 : decode cX6_isWon 8 = .ok (.aload_n 0, 1) := by decide +kernel
theorem dX6_isWon_9 : decode cX6_isWon 9 = .ok (.iload_n 3, 1) := by decide +kernel
theorem dX6_isWon_10 : decode cX6_isWon 10 = .ok (.invokevirtual 209, 3) := by decide +kernel
theorem dX6_isWon_13 : decode cX6_isWon 13 = .ok (.ifCond .eq 7, 3) := by decide +kernel
theorem dX6_isWon_16 : decode cX6_isWon 16 = .ok (.iconst 1, 1) := by decide +kernel
theorem dX6_isWon_17 : decode cX6_isWon 17 = .ok (.goto 4, 3) := by decide +kernel
theorem dX6_isWon_20 : decode cX6_isWon 20 = .ok (.iconst 0, 1) := by decide +kernel
theorem dX6_isWon_21 : decode cX6_isWon 21 = .ok (.ireturn, 1) := by decide +kernel
theorem dX6_isWon_22 : decode cX6_isWon 22 = .ok (.aload_n 0, 1) := by decide +kernel
theorem dX6_isWon_23 : decode cX6_isWon 23 = .ok (.iload_n 3, 1) := by decide +kernel
theorem dX6_isWon_24 : decode cX6_isWon 24 = .ok (.iload_n 2, 1) := by decide +kernel
theorem dX6_isWon_25 : decode cX6_isWon 25 = .ok (.iload_n 1, 1) := by decide +kernel
theorem dX6_isWon_26 : decode cX6_isWon 26 = .ok (.invokestatic 227, 3) := by decide +kernel
theorem dX6_isWon_29 : decode cX6_isWon 29 = .ok (.istore 5, 2) := by decide +kernel
theorem dX6_isWon_31 : decode cX6_isWon 31 = .ok (.iload 5, 2) := by decide +kernel
theorem dX6_isWon_33 : decode cX6_isWon 33 = .ok (.ifCond .eq 10, 3) := by decide +kernel
theorem dX6_isWon_36 : decode cX6_isWon 36 = .ok (.iload 4, 2) := by decide +kernel
theorem dX6_isWon_38 : decode cX6_isWon 38 = .ok (.bipush 10, 2) := by decide +kernel
theorem dX6_isWon_40 : decode cX6_isWon 40 = .ok (.if_icmp .lt 5, 3) := by decide +kernel
theorem dX6_isWon_43 : decode cX6_isWon 43 = .ok (.iconst 0, 1) := by decide +kernel
theorem dX6_isWon_44 : decode cX6_isWon 44 = .ok (.ireturn, 1) := by decide +kernel
theorem dX6_isWon_45 : decode cX6_isWon 45 = .ok (.iload 4, 2) := by decide +kernel
theorem dX6_isWon_47 : decode cX6_isWon 47 = .ok (.iconst 2, 1) := by decide +kernel
theorem dX6_isWon_48 : decode cX6_isWon 48 = .ok (.irem, 1) := by decide +kernel
theorem dX6_isWon_49 : decode cX6_isWon 49 = .ok (.iconst 1, 1) := by decide +kernel
theorem dX6_isWon_50 : decode cX6_isWon 50 = .ok (.if_icmp .ne 7, 3) := by decide +kernel
theorem dX6_isWon_53 : decode cX6_isWon 53 = .ok (.iconst 1, 1) := by decide +kernel
theorem dX6_isWon_54 : decode cX6_isWon 54 = .ok (.goto 4, 3) := by decide +kernel
theorem dX6_isWon_57 : decode cX6_isWon 57 = .ok (.iconst 0, 1) := by decide +kernel
theorem dX6_isWon_58 : decode cX6_isWon 58 = .ok (.istore 6, 2) := by decide +kernel
theorem dX6_isWon_60 : decode cX6_isWon 60 = .ok (.iconst 0, 1) := by decide +kernel
theorem dX6_isWon_61 : decode cX6_isWon 61 = .ok (.istore 7, 2) := by decide +kernel
theorem dX6_isWon_63 : decode cX6_isWon 63 = .ok (.iload 7, 2) := by decide +kernel
theorem dX6_isWon_65 : decode cX6_isWon 65 = .ok (.bipush 10, 2) := by decide +kernel
theorem dX6_isWon_67 : decode cX6_isWon 67 = .ok (.if_icmp .ge 45, 3) := by decide +kernel
theorem dX6_isWon_70 : decode cX6_isWon 70 = .ok (.iload 5, 2) := by decide +kernel
theorem dX6_isWon_72 : decode cX6_isWon 72 = .ok (.iload 7, 2) := by decide +kernel
theorem dX6_isWon_74 : decode cX6_isWon 74 = .ok (.invokestatic 129, 3) := by decide +kernel
theorem dX6_isWon_77 : decode cX6_isWon 77 = .ok (.ifCond .eq 29, 3) := by decide +kernel
theorem dX6_isWon_80 : decode cX6_isWon 80 = .ok (.aload_n 0, 1) := by decide +kernel
theorem dX6_isWon_81 : decode cX6_isWon 81 = .ok (.iload_n 1, 1) := by decide +kernel
theorem dX6_isWon_82 : decode cX6_isWon 82 = .ok (.iload_n 2, 1) := by decide +kernel
theorem dX6_isWon_83 : decode cX6_isWon 83 = .ok (.iload 7, 2) := by decide +kernel
theorem dX6_isWon_85 : decode cX6_isWon 85 = .ok (.invokestatic 147, 3) := by decide +kernel
theorem dX6_isWon_88 : decode cX6_isWon 88 = .ok (.ior, 1) := by decide +kernel
theorem dX6_isWon_89 : decode cX6_isWon 89 = .ok (.iload 7, 2) := by decide +kernel
theorem dX6_isWon_91 : decode cX6_isWon 91 = .ok (.iload 4, 2) := by decide +kernel
theorem dX6_isWon_93 : decode cX6_isWon 93 = .ok (.iconst 1, 1) := by decide +kernel
theorem dX6_isWon_94 : decode cX6_isWon 94 = .ok (.iadd, 1) := by decide +kernel
theorem dX6_isWon_95 : decode cX6_isWon 95 = .ok (.invokestatic 240, 3) := by decide +kernel
theorem dX6_isWon_98 : decode cX6_isWon 98 = .ok (.iload 6, 2) := by decide +kernel
theorem dX6_isWon_100 : decode cX6_isWon 100 = .ok (.if_icmp .ne 6, 3) := by decide +kernel
theorem dX6_isWon_103 : decode cX6_isWon 103 = .ok (.iload 6, 2) := by decide +kernel
theorem dX6_isWon_105 : decode cX6_isWon 105 = .ok (.ireturn, 1) := by decide +kernel
theorem dX6_isWon_106 : decode cX6_isWon 106 = .ok (.iinc 7 1, 3) := by decide +kernel
theorem dX6_isWon_109 : decode cX6_isWon 109 = .ok (.goto (-46), 3) := by decide +kernel
theorem dX6_isWon_112 : decode cX6_isWon 112 = .ok (.iload 6, 2) := by decide +kernel
theorem dX6_isWon_114 : decode cX6_isWon 114 = .ok (.ifCond .ne 7, 3) := by decide +kernel
theorem dX6_isWon_117 : decode cX6_isWon 117 = .ok (.iconst 1, 1) := by decide +kernel
theorem dX6_isWon_118 : decode cX6_isWon 118 = .ok (.goto 4, 3) := by decide +kernel
theorem dX6_isWon_121 : decode cX6_isWon 121 = .ok (.iconst 0, 1) := by decide +kernel
theorem dX6_isWon_122 : decode cX6_isWon 122 = .ok (.ireturn, 1) := by decide +kernel
theorem dX6_openBehind_0 : decode cX6_openBehind 0 = .ok (.aload_n 0, 1) := by decide +kernel
theorem dX6_openBehind_1 : decode cX6_openBehind 1 = .ok (.getfield 123, 3) := by decide +kernel
theorem dX6_openBehind_4 : decode cX6_openBehind 4 = .ok (.iload_n 1, 1) := by decide +kernel
theorem dX6_openBehind_5 : decode cX6_openBehind 5 = .ok (.invokestatic 106, 3) := by decide +kernel
theorem dX6_openBehind_8 : decode cX6_openBehind 8 = .ok (.iload_n 2, 1) := by decide +kernel
theorem dX6_openBehind_9 : decode cX6_openBehind 9 = .ok (.iconst (-1), 1) := by decide +kernel
theorem dX6_openBehind_10 : decode cX6_openBehind 10 = .ok (.ixor, 1) := by decide +kernel
theorem dX6_openBehind_11 : decode cX6_openBehind 11 = .ok (.iand, 1) := by decide +kernel
theorem dX6_openBehind_12 : decode cX6_openBehind 12 = .ok (.iload_n 3, 1) := by decide +kernel
theorem dX6_openBehind_13 : decode cX6_openBehind 13 = .ok (.iconst (-1), 1) := by decide +kernel
theorem dX6_openBehind_14 : decode cX6_openBehind 14 = .ok (.ixor, 1) := by decide +kernel
theorem dX6_openBehind_15 : decode cX6_openBehind 15 = .ok (.iand, 1) := by decide +kernel
theorem dX6_openBehind_16 : decode cX6_openBehind 16 = .ok (.ireturn, 1) := by decide +kernel
theorem dX6_draw_0 : decode cX6_draw 0 = .ok (.ldc2_w 244, 3) := by decide +kernel
theorem dX6_draw_3 : decode cX6_draw 3 = .ok (.iload_n 0, 1) := by decide +kernel
theorem dX6_draw_4 : decode cX6_draw 4 = .ok (.i2l, 1) := by decide +kernel
theorem dX6_draw_5 : decode cX6_draw 5 = .ok (.lmul, 1) := by decide +kernel
theorem dX6_draw_6 : decode cX6_draw 6 = .ok (.ldc2_w 246, 3) := by decide +kernel
theorem dX6_draw_9 : decode cX6_draw 9 = .ok (.iload_n 1, 1) := by decide +kernel
theorem dX6_draw_10 : decode cX6_draw 10 = .ok (.i2l, 1) := by decide +kernel
theorem dX6_draw_11 : decode cX6_draw 11 = .ok (.lmul, 1) := by decide +kernel
theorem dX6_draw_12 : decode cX6_draw 12 = .ok (.ladd, 1) := by decide +kernel
theorem dX6_draw_13 : decode cX6_draw 13 = .ok (.lconst 1, 1) := by decide +kernel
theorem dX6_draw_14 : decode cX6_draw 14 = .ok (.ladd, 1) := by decide +kernel
theorem dX6_draw_15 : decode cX6_draw 15 = .ok (.lstore_n 2, 1) := by decide +kernel
theorem dX6_draw_16 : decode cX6_draw 16 = .ok (.lload_n 2, 1) := by decide +kernel
theorem dX6_draw_17 : decode cX6_draw 17 = .ok (.lload_n 2, 1) := by decide +kernel
theorem dX6_draw_18 : decode cX6_draw 18 = .ok (.lmul, 1) := by decide +kernel
theorem dX6_draw_19 : decode cX6_draw 19 = .ok (.ldc2_w 248, 3) := by decide +kernel
theorem dX6_draw_22 : decode cX6_draw 22 = .ok (.lrem, 1) := by decide +kernel
theorem dX6_draw_23 : decode cX6_draw 23 = .ok (.ldc2_w 250, 3) := by decide +kernel
theorem dX6_draw_26 : decode cX6_draw 26 = .ok (.ldiv, 1) := by decide +kernel
theorem dX6_draw_27 : decode cX6_draw 27 = .ok (.l2i, 1) := by decide +kernel
theorem dX6_draw_28 : decode cX6_draw 28 = .ok (.ireturn, 1) := by decide +kernel
theorem dX6_bitByRank_0 : decode cX6_bitByRank 0 = .ok (.iconst 0, 1) := by decide +kernel
theorem dX6_bitByRank_1 : decode cX6_bitByRank 1 = .ok (.istore_n 2, 1) := by decide +kernel
theorem dX6_bitByRank_2 : decode cX6_bitByRank 2 = .ok (.iconst 0, 1) := by decide +kernel
theorem dX6_bitByRank_3 : decode cX6_bitByRank 3 = .ok (.istore_n 3, 1) := by decide +kernel
theorem dX6_bitByRank_4 : decode cX6_bitByRank 4 = .ok (.iload_n 3, 1) := by decide +kernel
theorem dX6_bitByRank_5 : decode cX6_bitByRank 5 = .ok (.bipush 10, 2) := by decide +kernel
theorem dX6_bitByRank_7 : decode cX6_bitByRank 7 = .ok (.if_icmp .ge 27, 3) := by decide +kernel
theorem dX6_bitByRank_10 : decode cX6_bitByRank 10 = .ok (.iload_n 0, 1) := by decide +kernel
theorem dX6_bitByRank_11 : decode cX6_bitByRank 11 = .ok (.iload_n 3, 1) := by decide +kernel
theorem dX6_bitByRank_12 : decode cX6_bitByRank 12 = .ok (.invokestatic 129, 3) := by decide +kernel
theorem dX6_bitByRank_15 : decode cX6_bitByRank 15 = .ok (.ifCond .eq 13, 3) := by decide +kernel
theorem dX6_bitByRank_18 : decode cX6_bitByRank 18 = .ok (.iload_n 2, 1) := by decide +kernel
theorem dX6_bitByRank_19 : decode cX6_bitByRank 19 = .ok (.iload_n 1, 1) := by decide +kernel
theorem dX6_bitByRank_20 : decode cX6_bitByRank 20 = .ok (.if_icmp .ne 5, 3) := by decide +kernel
theorem dX6_bitByRank_23 : decode cX6_bitByRank 23 = .ok (.iload_n 3, 1) := by decide +kernel
theorem dX6_bitByRank_24 : decode cX6_bitByRank 24 = .ok (.ireturn, 1) := by decide +kernel
theorem dX6_bitByRank_25 : decode cX6_bitByRank 25 = .ok (.iinc 2 1, 3) := by decide +kernel
theorem dX6_bitByRank_28 : decode cX6_bitByRank 28 = .ok (.iinc 3 1, 3) := by decide +kernel
theorem dX6_bitByRank_31 : decode cX6_bitByRank 31 = .ok (.goto (-27), 3) := by decide +kernel
theorem dX6_bitByRank_34 : decode cX6_bitByRank 34 = .ok (.bipush (-4), 2) := by decide +kernel
theorem dX6_bitByRank_36 : decode cX6_bitByRank 36 = .ok (.ireturn, 1) := by decide +kernel
theorem dX6_commonDivisor_0 : decode cX6_commonDivisor 0 = .ok (.iload_n 0, 1) := by decide +kernel
theorem dX6_commonDivisor_1 : decode cX6_commonDivisor 1 = .ok (.iload_n 1, 1) := by decide +kernel
theorem dX6_commonDivisor_2 : decode cX6_commonDivisor 2 = .ok (.invokestatic 252, 3) := by decide +kernel
theorem dX6_commonDivisor_5 : decode cX6_commonDivisor 5 = .ok (.istore_n 2, 1) := by decide +kernel
theorem dX6_commonDivisor_6 : decode cX6_commonDivisor 6 = .ok (.iload_n 0, 1) := by decide +kernel
theorem dX6_commonDivisor_7 : decode cX6_commonDivisor 7 = .ok (.iload_n 1, 1) := by decide +kernel
theorem dX6_commonDivisor_8 : decode cX6_commonDivisor 8 = .ok (.invokestatic 257, 3) := by decide +kernel
theorem dX6_commonDivisor_11 : decode cX6_commonDivisor 11 = .ok (.istore_n 3, 1) := by decide +kernel
theorem dX6_commonDivisor_12 : decode cX6_commonDivisor 12 = .ok (.iconst 0, 1) := by decide +kernel
theorem dX6_commonDivisor_13 : decode cX6_commonDivisor 13 = .ok (.istore 4, 2) := by decide +kernel
theorem dX6_commonDivisor_15 : decode cX6_commonDivisor 15 = .ok (.iload 4, 2) := by decide +kernel
theorem dX6_commonDivisor_17 : decode cX6_commonDivisor 17 = .ok (.bipush 100, 2) := by decide +kernel
theorem dX6_commonDivisor_19 : decode cX6_commonDivisor 19 = .ok (.if_icmp .ge 23, 3) := by decide +kernel
theorem dX6_commonDivisor_22 : decode cX6_commonDivisor 22 = .ok (.iload_n 3, 1) := by decide +kernel
theorem dX6_commonDivisor_23 : decode cX6_commonDivisor 23 = .ok (.ifCond .le 19, 3) := by decide +kernel
theorem dX6_commonDivisor_26 : decode cX6_commonDivisor 26 = .ok (.iload_n 2, 1) := by decide +kernel
theorem dX6_commonDivisor_27 : decode cX6_commonDivisor 27 = .ok (.iload_n 3, 1) := by decide +kernel
theorem dX6_commonDivisor_28 : decode cX6_commonDivisor 28 = .ok (.irem, 1) := by decide +kernel
theorem dX6_commonDivisor_29 : decode cX6_commonDivisor 29 = .ok (.istore 5, 2) := by decide +kernel
theorem dX6_commonDivisor_31 : decode cX6_commonDivisor 31 = .ok (.iload_n 3, 1) := by decide +kernel
theorem dX6_commonDivisor_32 : decode cX6_commonDivisor 32 = .ok (.istore_n 2, 1) := by decide +kernel
theorem dX6_commonDivisor_33 : decode cX6_commonDivisor 33 = .ok (.iload 5, 2) := by decide +kernel
theorem dX6_commonDivisor_35 : decode cX6_commonDivisor 35 = .ok (.istore_n 3, 1) := by decide +kernel
theorem dX6_commonDivisor_36 : decode cX6_commonDivisor 36 = .ok (.iinc 4 1, 3) := by decide +kernel
theorem dX6_commonDivisor_39 : decode cX6_commonDivisor 39 = .ok (.goto (-24), 3) := by decide +kernel
theorem dX6_commonDivisor_42 : decode cX6_commonDivisor 42 = .ok (.iload_n 2, 1) := by decide +kernel
theorem dX6_commonDivisor_43 : decode cX6_commonDivisor 43 = .ok (.ireturn, 1) := by decide +kernel
theorem dX6_outside_0 : decode cX6_outside 0 = .ok (.iload_n 0, 1) := by decide +kernel
theorem dX6_outside_1 : decode cX6_outside 1 = .ok (.iload_n 1, 1) := by decide +kernel
theorem dX6_outside_2 : decode cX6_outside 2 = .ok (.if_icmp .lt 8, 3) := by decide +kernel
theorem dX6_outside_5 : decode cX6_outside 5 = .ok (.iload_n 0, 1) := by decide +kernel
theorem dX6_outside_6 : decode cX6_outside 6 = .ok (.iload_n 2, 1) := by decide +kernel
theorem dX6_outside_7 : decode cX6_outside 7 = .ok (.if_icmp .le 7, 3) := by decide +kernel
theorem dX6_outside_10 : decode cX6_outside 10 = .ok (.iconst 1, 1) := by decide +kernel
theorem dX6_outside_11 : decode cX6_outside 11 = .ok (.goto 4, 3) := by decide +kernel
theorem dX6_outside_14 : decode cX6_outside 14 = .ok (.iconst 0, 1) := by decide +kernel
theorem dX6_outside_15 : decode cX6_outside 15 = .ok (.ireturn, 1) := by decide +kernel
theorem dX6_asNumber_0 : decode cX6_asNumber 0 = .ok (.iload_n 0, 1) := by decide +kernel
theorem dX6_asNumber_1 : decode cX6_asNumber 1 = .ok (.ifCond .eq 7, 3) := by decide +kernel
theorem dX6_asNumber_4 : decode cX6_asNumber 4 = .ok (.iconst 1, 1) := by decide +kernel
theorem dX6_asNumber_5 : decode cX6_asNumber 5 = .ok (.goto 4, 3) := by decide +kernel
theorem dX6_asNumber_8 : decode cX6_asNumber 8 = .ok (.iconst 0, 1) := by decide +kernel
theorem dX6_asNumber_9 : decode cX6_asNumber 9 = .ok (.ireturn, 1) := by decide +kernel
theorem dX6_bit_0 : decode cX6_bit 0 = .ok (.iload_n 0, 1) := by decide +kernel
theorem dX6_bit_1 : decode cX6_bit 1 = .ok (.ifCond .lt 15, 3) := by decide +kernel
theorem dX6_bit_4 : decode cX6_bit 4 = .ok (.iload_n 0, 1) := by decide +kernel
theorem dX6_bit_5 : decode cX6_bit 5 = .ok (.bipush 10, 2) := by decide +kernel
theorem dX6_bit_7 : decode cX6_bit 7 = .ok (.if_icmp .ge 9, 3) := by decide +kernel
theorem dX6_bit_10 : decode cX6_bit 10 = .ok (.iconst 1, 1) := by decide +kernel
theorem dX6_bit_11 : decode cX6_bit 11 = .ok (.iload_n 0, 1) := by decide +kernel
theorem dX6_bit_12 : decode cX6_bit 12 = .ok (.ishl, 1) := by decide +kernel
theorem dX6_bit_13 : decode cX6_bit 13 = .ok (.goto 4, 3) := by decide +kernel
theorem dX6_bit_16 : decode cX6_bit 16 = .ok (.iconst 0, 1) := by decide +kernel
theorem dX6_bit_17 : decode cX6_bit 17 = .ok (.ireturn, 1) := by decide +kernel
theorem dX6_has_0 : decode cX6_has 0 = .ok (.iload_n 1, 1) := by decide +kernel
theorem dX6_has_1 : decode cX6_has 1 = .ok (.ifCond .lt 22, 3) := by decide +kernel
theorem dX6_has_4 : decode cX6_has 4 = .ok (.iload_n 1, 1) := by decide +kernel
theorem dX6_has_5 : decode cX6_has 5 = .ok (.bipush 10, 2) := by decide +kernel
theorem dX6_has_7 : decode cX6_has 7 = .ok (.if_icmp .ge 16, 3) := by decide +kernel
theorem dX6_has_10 : decode cX6_has 10 = .ok (.iload_n 0, 1) := by decide +kernel
theorem dX6_has_11 : decode cX6_has 11 = .ok (.iload_n 1, 1) := by decide +kernel
theorem dX6_has_12 : decode cX6_has 12 = .ok (.ishr, 1) := by decide +kernel
theorem dX6_has_13 : decode cX6_has 13 = .ok (.iconst 1, 1) := by decide +kernel
theorem dX6_has_14 : decode cX6_has 14 = .ok (.iand, 1) := by decide +kernel
theorem dX6_has_15 : decode cX6_has 15 = .ok (.iconst 1, 1) := by decide +kernel
theorem dX6_has_16 : decode cX6_has 16 = .ok (.if_icmp .ne 7, 3) := by decide +kernel
theorem dX6_has_19 : decode cX6_has 19 = .ok (.iconst 1, 1) := by decide +kernel
theorem dX6_has_20 : decode cX6_has 20 = .ok (.goto 4, 3) := by decide +kernel
theorem dX6_has_23 : decode cX6_has 23 = .ok (.iconst 0, 1) := by decide +kernel
theorem dX6_has_24 : decode cX6_has 24 = .ok (.ireturn, 1) := by decide +kernel
theorem dX6_at_0 : decode cX6_at 0 = .ok (.iload_n 1, 1) := by decide +kernel
theorem dX6_at_1 : decode cX6_at 1 = .ok (.ifCond .lt 15, 3) := by decide +kernel
theorem dX6_at_4 : decode cX6_at 4 = .ok (.iload_n 1, 1) := by decide +kernel
theorem dX6_at_5 : decode cX6_at 5 = .ok (.aload_n 0, 1) := by decide +kernel
theorem dX6_at_6 : decode cX6_at 6 = .ok (.arraylength, 1) := by decide +kernel
theorem dX6_at_7 : decode cX6_at 7 = .ok (.if_icmp .ge 9, 3) := by decide +kernel
theorem dX6_at_10 : decode cX6_at 10 = .ok (.aload_n 0, 1) := by decide +kernel
theorem dX6_at_11 : decode cX6_at 11 = .ok (.iload_n 1, 1) := by decide +kernel
theorem dX6_at_12 : decode cX6_at 12 = .ok (.iaload, 1) := by decide +kernel
theorem dX6_at_13 : decode cX6_at 13 = .ok (.goto 4, 3) := by decide +kernel
theorem dX6_at_16 : decode cX6_at 16 = .ok (.iconst 0, 1) := by decide +kernel
theorem dX6_at_17 : decode cX6_at 17 = .ok (.ireturn, 1) := by decide +kernel
theorem dX6_put_0 : decode cX6_put 0 = .ok (.iload_n 1, 1) := by decide +kernel
theorem dX6_put_1 : decode cX6_put 1 = .ok (.ifCond .lt 13, 3) := by decide +kernel
theorem dX6_put_4 : decode cX6_put 4 = .ok (.iload_n 1, 1) := by decide +kernel
theorem dX6_put_5 : decode cX6_put 5 = .ok (.aload_n 0, 1) := by decide +kernel
theorem dX6_put_6 : decode cX6_put 6 = .ok (.arraylength, 1) := by decide +kernel
theorem dX6_put_7 : decode cX6_put 7 = .ok (.if_icmp .ge 7, 3) := by decide +kernel
theorem dX6_put_10 : decode cX6_put 10 = .ok (.aload_n 0, 1) := by decide +kernel
theorem dX6_put_11 : decode cX6_put 11 = .ok (.iload_n 1, 1) := by decide +kernel
theorem dX6_put_12 : decode cX6_put 12 = .ok (.iload_n 2, 1) := by decide +kernel
theorem dX6_put_13 : decode cX6_put 13 = .ok (.iastore, 1) := by decide +kernel
theorem dX6_put_14 : decode cX6_put 14 = .ok (.return_, 1) := by decide +kernel
theorem dX7_init_0 : decode cX7_init 0 = .ok (.aload_n 0, 1) := by decide +kernel
theorem dX7_init_1 : decode cX7_init 1 = .ok (.invokespecial 1, 3) := by decide +kernel
theorem dX7_init_4 : decode cX7_init 4 = .ok (.aload_n 0, 1) := by decide +kernel
theorem dX7_init_5 : decode cX7_init 5 = .ok (.sipush 200, 3) := by decide +kernel
theorem dX7_init_8 : decode cX7_init 8 = .ok (.newarray .byte, 2) := by decide +kernel
theorem dX7_init_10 : decode cX7_init 10 = .ok (.putfield 7, 3) := by decide +kernel
theorem dX7_init_13 : decode cX7_init 13 = .ok (.aload_n 0, 1) := by decide +kernel
theorem dX7_init_14 : decode cX7_init 14 = .ok (.iconst 2, 1) := by decide +kernel
theorem dX7_init_15 : decode cX7_init 15 = .ok (.newarray .int, 2) := by decide +kernel
theorem dX7_init_17 : decode cX7_init 17 = .ok (.putfield 13, 3) := by decide +kernel
theorem dX7_init_20 : decode cX7_init 20 = .ok (.aload_n 0, 1) := by decide +kernel
theorem dX7_init_21 : decode cX7_init 21 = .ok (.bipush 20, 2) := by decide +kernel
theorem dX7_init_23 : decode cX7_init 23 = .ok (.newarray .int, 2) := by decide +kernel
theorem dX7_init_25 : decode cX7_init 25 = .ok (.putfield 17, 3) := by decide +kernel
theorem dX7_init_28 : decode cX7_init 28 = .ok (.aload_n 0, 1) := by decide +kernel
theorem dX7_init_29 : decode cX7_init 29 = .ok (.bipush 20, 2) := by decide +kernel
theorem dX7_init_31 : decode cX7_init 31 = .ok (.newarray .int, 2) := by decide +kernel
theorem dX7_init_33 : decode cX7_init 33 = .ok (.putfield 20, 3) := by decide +kernel
theorem dX7_init_36 : decode cX7_init 36 = .ok (.aload_n 0, 1) := by decide +kernel
theorem dX7_init_37 : decode cX7_init 37 = .ok (.bipush 20, 2) := by decide +kernel
theorem dX7_init_39 : decode cX7_init 39 = .ok (.newarray .int, 2) := by decide +kernel
theorem dX7_init_41 : decode cX7_init 41 = .ok (.putfield 23, 3) := by decide +kernel
theorem dX7_init_44 : decode cX7_init 44 = .ok (.aload_n 0, 1) := by decide +kernel
theorem dX7_init_45 : decode cX7_init 45 = .ok (.bipush 20, 2) := by decide +kernel
theorem dX7_init_47 : decode cX7_init 47 = .ok (.newarray .int, 2) := by decide +kernel
theorem dX7_init_49 : decode cX7_init 49 = .ok (.putfield 26, 3) := by decide +kernel
theorem dX7_init_52 : decode cX7_init 52 = .ok (.aload_n 0, 1) := by decide +kernel
theorem dX7_init_53 : decode cX7_init 53 = .ok (.iconst 2, 1) := by decide +kernel
theorem dX7_init_54 : decode cX7_init 54 = .ok (.newarray .int, 2) := by decide +kernel
theorem dX7_init_56 : decode cX7_init 56 = .ok (.putfield 29, 3) := by decide +kernel
theorem dX7_init_59 : decode cX7_init 59 = .ok (.aload_n 0, 1) := by decide +kernel
theorem dX7_init_60 : decode cX7_init 60 = .ok (.iconst 2, 1) := by decide +kernel
theorem dX7_init_61 : decode cX7_init 61 = .ok (.newarray .int, 2) := by decide +kernel
theorem dX7_init_63 : decode cX7_init 63 = .ok (.putfield 32, 3) := by decide +kernel
theorem dX7_init_66 : decode cX7_init 66 = .ok (.aload_n 0, 1) := by decide +kernel
theorem dX7_init_67 : decode cX7_init 67 = .ok (.bipush 10, 2) := by decide +kernel
theorem dX7_init_69 : decode cX7_init 69 = .ok (.newarray .int, 2) := by decide +kernel
theorem dX7_init_71 : decode cX7_init 71 = .ok (.putfield 35, 3) := by decide +kernel
theorem dX7_init_74 : decode cX7_init 74 = .ok (.aload_n 0, 1) := by decide +kernel
theorem dX7_init_75 : decode cX7_init 75 = .ok (.sipush 132, 3) := by decide +kernel
theorem dX7_init_78 : decode cX7_init 78 = .ok (.newarray .int, 2) := by decide +kernel
theorem dX7_init_80 : decode cX7_init 80 = .ok (.putfield 38, 3) := by decide +kernel
theorem dX7_init_83 : decode cX7_init 83 = .ok (.aload_n 0, 1) := by decide +kernel
theorem dX7_init_84 : decode cX7_init 84 = .ok (.sipush 10240, 3) := by decide +kernel
theorem dX7_init_87 : decode cX7_init 87 = .ok (.newarray .int, 2) := by decide +kernel
theorem dX7_init_89 : decode cX7_init 89 = .ok (.putfield 41, 3) := by decide +kernel
theorem dX7_init_92 : decode cX7_init 92 = .ok (.aload_n 0, 1) := by decide +kernel
theorem dX7_init_93 : decode cX7_init 93 = .ok (.sipush 10240, 3) := by decide +kernel
theorem dX7_init_96 : decode cX7_init 96 = .ok (.newarray .int, 2) := by decide +kernel
theorem dX7_init_98 : decode cX7_init 98 = .ok (.putfield 44, 3) := by decide +kernel
theorem dX7_init_101 : decode cX7_init 101 = .ok (.aload_n 0, 1) := by decide +kernel
theorem dX7_init_102 : decode cX7_init 102 = .ok (.sipush 10240, 3) := by decide +kernel
theorem dX7_init_105 : decode cX7_init 105 = .ok (.newarray .int, 2) := by decide +kernel
theorem dX7_init_107 : decode cX7_init 107 = .ok (.putfield 47, 3) := by decide +kernel
theorem dX7_init_110 : decode cX7_init 110 = .ok (.aload_n 0, 1) := by decide +kernel
theorem dX7_init_111 : decode cX7_init 111 = .ok (.sipush 10240, 3) := by decide +kernel
theorem dX7_init_114 : decode cX7_init 114 = .ok (.newarray .int, 2) := by decide +kernel
theorem dX7_init_116 : decode cX7_init 116 = .ok (.putfield 50, 3) := by decide +kernel
theorem dX7_init_119 : decode cX7_init 119 = .ok (.aload_n 0, 1) := by decide +kernel
theorem dX7_init_120 : decode cX7_init 120 = .ok (.sipush 10240, 3) := by decide +kernel
theorem dX7_init_123 : decode cX7_init 123 = .ok (.newarray .int, 2) := by decide +kernel
theorem dX7_init_125 : decode cX7_init 125 = .ok (.putfield 53, 3) := by decide +kernel
theorem dX7_init_128 : decode cX7_init 128 = .ok (.aload_n 0, 1) := by decide +kernel
theorem dX7_init_129 : decode cX7_init 129 = .ok (.sipush 10240, 3) := by decide +kernel
theorem dX7_init_132 : decode cX7_init 132 = .ok (.newarray .int, 2) := by decide +kernel
theorem dX7_init_134 : decode cX7_init 134 = .ok (.putfield 56, 3) := by decide +kernel
theorem dX7_init_137 : decode cX7_init 137 = .ok (.aload_n 0, 1) := by decide +kernel
theorem dX7_init_138 : decode cX7_init 138 = .ok (.sipush 10240, 3) := by decide +kernel
theorem dX7_init_141 : decode cX7_init 141 = .ok (.newarray .int, 2) := by decide +kernel
theorem dX7_init_143 : decode cX7_init 143 = .ok (.putfield 59, 3) := by decide +kernel
theorem dX7_init_146 : decode cX7_init 146 = .ok (.aload_n 0, 1) := by decide +kernel
theorem dX7_init_147 : decode cX7_init 147 = .ok (.sipush 10240, 3) := by decide +kernel
theorem dX7_init_150 : decode cX7_init 150 = .ok (.newarray .int, 2) := by decide +kernel
theorem dX7_init_152 : decode cX7_init 152 = .ok (.putfield 62, 3) := by decide +kernel
theorem dX7_init_155 : decode cX7_init 155 = .ok (.aload_n 0, 1) := by decide +kernel
theorem dX7_init_156 : decode cX7_init 156 = .ok (.sipush 10240, 3) := by decide +kernel
theorem dX7_init_159 : decode cX7_init 159 = .ok (.newarray .int, 2) := by decide +kernel
theorem dX7_init_161 : decode cX7_init 161 = .ok (.putfield 65, 3) := by decide +kernel
theorem dX7_init_164 : decode cX7_init 164 = .ok (.aload_n 0, 1) := by decide +kernel
theorem dX7_init_165 : decode cX7_init 165 = .ok (.bipush 10, 2) := by decide +kernel
theorem dX7_init_167 : decode cX7_init 167 = .ok (.newarray .int, 2) := by decide +kernel
theorem dX7_init_169 : decode cX7_init 169 = .ok (.putfield 68, 3) := by decide +kernel
theorem dX7_init_172 : decode cX7_init 172 = .ok (.aload_n 0, 1) := by decide +kernel
theorem dX7_init_173 : decode cX7_init 173 = .ok (.iconst 0, 1) := by decide +kernel
theorem dX7_init_174 : decode cX7_init 174 = .ok (.iconst 3, 1) := by decide +kernel
theorem dX7_init_175 : decode cX7_init 175 = .ok (.iconst 1, 1) := by decide +kernel
theorem dX7_init_176 : decode cX7_init 176 = .ok (.invokevirtual 71, 3) := by decide +kernel
theorem dX7_init_179 : decode cX7_init 179 = .ok (.aload_n 0, 1) := by decide +kernel
theorem dX7_init_180 : decode cX7_init 180 = .ok (.iconst 1, 1) := by decide +kernel
theorem dX7_init_181 : decode cX7_init 181 = .ok (.iconst 2, 1) := by decide +kernel
theorem dX7_init_182 : decode cX7_init 182 = .ok (.iconst 2, 1) := by decide +kernel
theorem dX7_init_183 : decode cX7_init 183 = .ok (.invokevirtual 71, 3) := by decide +kernel
theorem dX7_init_186 : decode cX7_init 186 = .ok (.aload_n 0, 1) := by decide +kernel
theorem dX7_init_187 : decode cX7_init 187 = .ok (.iconst 1, 1) := by decide +kernel
theorem dX7_init_188 : decode cX7_init 188 = .ok (.iconst 5, 1) := by decide +kernel
theorem dX7_init_189 : decode cX7_init 189 = .ok (.iconst 1, 1) := by decide +kernel
theorem dX7_init_190 : decode cX7_init 190 = .ok (.invokevirtual 71, 3) := by decide +kernel
theorem dX7_init_193 : decode cX7_init 193 = .ok (.aload_n 0, 1) := by decide +kernel
theorem dX7_init_194 : decode cX7_init 194 = .ok (.iconst 2, 1) := by decide +kernel
theorem dX7_init_195 : decode cX7_init 195 = .ok (.iconst 4, 1) := by decide +kernel
theorem dX7_init_196 : decode cX7_init 196 = .ok (.iconst 3, 1) := by decide +kernel
theorem dX7_init_197 : decode cX7_init 197 = .ok (.invokevirtual 71, 3) := by decide +kernel
theorem dX7_init_200 : decode cX7_init 200 = .ok (.aload_n 0, 1) := by decide +kernel
theorem dX7_init_201 : decode cX7_init 201 = .ok (.iconst 3, 1) := by decide +kernel
theorem dX7_init_202 : decode cX7_init 202 = .ok (.iconst 1, 1) := by decide +kernel
theorem dX7_init_203 : decode cX7_init 203 = .ok (.iconst 1, 1) := by decide +kernel
theorem dX7_init_204 : decode cX7_init 204 = .ok (.invokevirtual 71, 3) := by decide +kernel
theorem dX7_init_207 : decode cX7_init 207 = .ok (.aload_n 0, 1) := by decide +kernel
theorem dX7_init_208 : decode cX7_init 208 = .ok (.iconst 4, 1) := by decide +kernel
theorem dX7_init_209 : decode cX7_init 209 = .ok (.iconst 0, 1) := by decide +kernel
theorem dX7_init_210 : decode cX7_init 210 = .ok (.iconst 0, 1) := by decide +kernel
theorem dX7_init_211 : decode cX7_init 211 = .ok (.invokevirtual 71, 3) := by decide +kernel
theorem dX7_init_214 : decode cX7_init 214 = .ok (.aload_n 0, 1) := by decide +kernel
theorem dX7_init_215 : decode cX7_init 215 = .ok (.iconst 4, 1) := by decide +kernel
theorem dX7_init_216 : decode cX7_init 216 = .ok (.iconst 2, 1) := by decide +kernel
theorem dX7_init_217 : decode cX7_init 217 = .ok (.iconst 0, 1) := by decide +kernel
theorem dX7_init_218 : decode cX7_init 218 = .ok (.invokevirtual 71, 3) := by decide +kernel
theorem dX7_init_221 : decode cX7_init 221 = .ok (.aload_n 0, 1) := by decide +kernel
theorem dX7_init_222 : decode cX7_init 222 = .ok (.iconst 2, 1) := by decide +kernel
theorem dX7_init_223 : decode cX7_init 223 = .ok (.iconst 3, 1) := by decide +kernel
theorem dX7_init_224 : decode cX7_init 224 = .ok (.iconst 2, 1) := by decide +kernel
theorem dX7_init_225 : decode cX7_init 225 = .ok (.invokevirtual 71, 3) := by decide +kernel
theorem dX7_init_228 : decode cX7_init 228 = .ok (.aload_n 0, 1) := by decide +kernel
theorem dX7_init_229 : decode cX7_init 229 = .ok (.getfield 29, 3) := by decide +kernel
theorem dX7_init_232 : decode cX7_init 232 = .ok (.iconst 1, 1) := by decide +kernel
theorem dX7_init_233 : decode cX7_init 233 = .ok (.sipush 129, 3) := by decide +kernel
theorem dX7_init_236 : decode cX7_init 236 = .ok (.iastore, 1) := by decide +kernel
theorem dX7_init_237 : decode cX7_init 237 = .ok (.aload_n 0, 1) := by decide +kernel
theorem dX7_init_238 : decode cX7_init 238 = .ok (.getfield 26, 3) := by decide +kernel
theorem dX7_init_241 : decode cX7_init 241 = .ok (.bipush 10, 2) := by decide +kernel
theorem dX7_init_243 : decode cX7_init 243 = .ok (.bipush 6, 2) := by decide +kernel
theorem dX7_init_245 : decode cX7_init 245 = .ok (.iastore, 1) := by decide +kernel
theorem dX7_init_246 : decode cX7_init 246 = .ok (.aload_n 0, 1) := by decide +kernel
theorem dX7_init_247 : decode cX7_init 247 = .ok (.getfield 26, 3) := by decide +kernel
theorem dX7_init_250 : decode cX7_init 250 = .ok (.bipush 11, 2) := by decide +kernel
theorem dX7_init_252 : decode cX7_init 252 = .ok (.bipush 9, 2) := by decide +kernel
theorem dX7_init_254 : decode cX7_init 254 = .ok (.iastore, 1) := by decide +kernel
theorem dX7_init_255 : decode cX7_init 255 = .ok (.aload_n 0, 1) := by decide +kernel
theorem dX7_init_256 : decode cX7_init 256 = .ok (.getfield 26, 3) := by decide +kernel
theorem dX7_init_259 : decode cX7_init 259 = .ok (.bipush 12, 2) := by decide +kernel
theorem dX7_init_261 : decode cX7_init 261 = .ok (.bipush 72, 2) := by decide +kernel
theorem dX7_init_263 : decode cX7_init 263 = .ok (.iastore, 1) := by decide +kernel
theorem dX7_init_264 : decode cX7_init 264 = .ok (.aload_n 0, 1) := by decide +kernel
theorem dX7_init_265 : decode cX7_init 265 = .ok (.getfield 26, 3) := by decide +kernel
theorem dX7_init_268 : decode cX7_init 268 = .ok (.bipush 13, 2) := by decide +kernel
theorem dX7_init_270 : decode cX7_init 270 = .ok (.bipush 80, 2) := by decide +kernel
theorem dX7_init_272 : decode cX7_init 272 = .ok (.iastore, 1) := by decide +kernel
theorem dX7_init_273 : decode cX7_init 273 = .ok (.aload_n 0, 1) := by decide +kernel
theorem dX7_init_274 : decode cX7_init 274 = .ok (.getfield 26, 3) := by decide +kernel
theorem dX7_init_277 : decode cX7_init 277 = .ok (.bipush 14, 2) := by decide +kernel
theorem dX7_init_279 : decode cX7_init 279 = .ok (.bipush 32, 2) := by decide +kernel
theorem dX7_init_281 : decode cX7_init 281 = .ok (.iastore, 1) := by decide +kernel
theorem dX7_init_282 : decode cX7_init 282 = .ok (.aload_n 0, 1) := by decide +kernel
theorem dX7_init_283 : decode cX7_init 283 = .ok (.getfield 26, 3) := by decide +kernel
theorem dX7_init_286 : decode cX7_init 286 = .ok (.bipush 17, 2) := by decide +kernel
theorem dX7_init_288 : decode cX7_init 288 = .ok (.bipush 20, 2) := by decide +kernel
theorem dX7_init_290 : decode cX7_init 290 = .ok (.iastore, 1) := by decide +kernel
theorem dX7_init_291 : decode cX7_init 291 = .ok (.aload_n 0, 1) := by decide +kernel
theorem dX7_init_292 : decode cX7_init 292 = .ok (.iconst 5, 1) := by decide +kernel
theorem dX7_init_293 : decode cX7_init 293 = .ok (.iconst 5, 1) := by decide +kernel
theorem dX7_init_294 : decode cX7_init 294 = .ok (.invokevirtual 75, 3) := by decide +kernel
theorem dX7_init_297 : decode cX7_init 297 = .ok (.aload_n 0, 1) := by decide +kernel
theorem dX7_init_298 : decode cX7_init 298 = .ok (.iconst 5, 1) := by decide +kernel
theorem dX7_init_299 : decode cX7_init 299 = .ok (.bipush 6, 2) := by decide +kernel
theorem dX7_init_301 : decode cX7_init 301 = .ok (.invokevirtual 75, 3) := by decide +kernel
theorem dX7_init_304 : decode cX7_init 304 = .ok (.aload_n 0, 1) := by decide +kernel
theorem dX7_init_305 : decode cX7_init 305 = .ok (.invokevirtual 79, 3) := by decide +kernel
theorem dX7_init_308 : decode cX7_init 308 = .ok (.return_, 1) := by decide +kernel
theorem dX7_firstOf_0 : decode cX7_firstOf 0 = .ok (.bipush 10, 2) := by decide +kernel
theorem dX7_firstOf_2 : decode cX7_firstOf 2 = .ok (.aload_n 0, 1) := by decide +kernel
theorem dX7_firstOf_3 : decode cX7_firstOf 3 = .ok (.getfield 13, 3) := by decide +kernel
theorem dX7_firstOf_6 : decode cX7_firstOf 6 = .ok (.iconst 1, 1) := by decide +kernel
theorem dX7_firstOf_7 : decode cX7_firstOf 7 = .ok (.iaload, 1) := by decide +kernel
theorem dX7_firstOf_8 : decode cX7_firstOf 8 = .ok (.iadd, 1) := by decide +kernel
theorem dX7_firstOf_9 : decode cX7_firstOf 9 = .ok (.istore 4, 2) := by decide +kernel
theorem dX7_firstOf_11 : decode cX7_firstOf 11 = .ok (.aload_n 0, 1) := by decide +kernel
theorem dX7_firstOf_12 : decode cX7_firstOf 12 = .ok (.getfield 17, 3) := by decide +kernel
theorem dX7_firstOf_15 : decode cX7_firstOf 15 = .ok (.iload 4, 2) := by decide +kernel
theorem dX7_firstOf_17 : decode cX7_firstOf 17 = .ok (.iload_n 1, 1) := by decide +kernel
theorem dX7_firstOf_18 : decode cX7_firstOf 18 = .ok (.iastore, 1) := by decide +kernel
theorem dX7_firstOf_19 : decode cX7_firstOf 19 = .ok (.aload_n 0, 1) := by decide +kernel
theorem dX7_firstOf_20 : decode cX7_firstOf 20 = .ok (.getfield 20, 3) := by decide +kernel
theorem dX7_firstOf_23 : decode cX7_firstOf 23 = .ok (.iload 4, 2) := by decide +kernel
theorem dX7_firstOf_25 : decode cX7_firstOf 25 = .ok (.iload_n 2, 1) := by decide +kernel
theorem dX7_firstOf_26 : decode cX7_firstOf 26 = .ok (.iastore, 1) := by decide +kernel
theorem dX7_firstOf_27 : decode cX7_firstOf 27 = .ok (.aload_n 0, 1) := by decide +kernel
theorem dX7_firstOf_28 : decode cX7_firstOf 28 = .ok (.getfield 23, 3) := by decide +kernel
theorem dX7_firstOf_31 : decode cX7_firstOf 31 = .ok (.iload 4, 2) := by decide +kernel
theorem dX7_firstOf_33 : decode cX7_firstOf 33 = .ok (.iload_n 3, 1) := by decide +kernel
theorem dX7_firstOf_34 : decode cX7_firstOf 34 = .ok (.iastore, 1) := by decide +kernel
theorem dX7_firstOf_35 : decode cX7_firstOf 35 = .ok (.aload_n 0, 1) := by decide +kernel
theorem dX7_firstOf_36 : decode cX7_firstOf 36 = .ok (.getfield 26, 3) := by decide +kernel
theorem dX7_firstOf_39 : decode cX7_firstOf 39 = .ok (.iload 4, 2) := by decide +kernel
theorem dX7_firstOf_41 : decode cX7_firstOf 41 = .ok (.iconst 0, 1) := by decide +kernel
theorem dX7_firstOf_42 : decode cX7_firstOf 42 = .ok (.iastore, 1) := by decide +kernel
theorem dX7_firstOf_43 : decode cX7_firstOf 43 = .ok (.aload_n 0, 1) := by decide +kernel
theorem dX7_firstOf_44 : decode cX7_firstOf 44 = .ok (.getfield 13, 3) := by decide +kernel
theorem dX7_firstOf_47 : decode cX7_firstOf 47 = .ok (.iconst 1, 1) := by decide +kernel
theorem dX7_firstOf_48 : decode cX7_firstOf 48 = .ok (.dup2, 1) := by decide +kernel
theorem dX7_firstOf_49 : decode cX7_firstOf 49 = .ok (.iaload, 1) := by decide +kernel
theorem dX7_firstOf_50 : decode cX7_firstOf 50 = .ok (.iconst 1, 1) := by decide +kernel
theorem dX7_firstOf_51 : decode cX7_firstOf 51 = .ok (.iadd, 1) := by decide +kernel
theorem dX7_firstOf_52 : decode cX7_firstOf 52 = .ok (.iastore, 1) := by decide +kernel
theorem dX7_firstOf_53 : decode cX7_firstOf 53 = .ok (.return_, 1) := by decide +kernel
theorem dX7_firstPerson_0 : decode cX7_firstPerson 0 = .ok (.aload_n 0, 1) := by decide +kernel
theorem dX7_firstPerson_1 : decode cX7_firstPerson 1 = .ok (.getfield 35, 3) := by decide +kernel
theorem dX7_firstPerson_4 : decode cX7_firstPerson 4 = .ok (.iconst 5, 1) := by decide +kernel
theorem dX7_firstPerson_5 : decode cX7_firstPerson 5 = .ok (.aload_n 0, 1) := by decide +kernel
theorem dX7_firstPerson_6 : decode cX7_firstPerson 6 = .ok (.getfield 32, 3) := by decide +kernel
theorem dX7_firstPerson_9 : decode cX7_firstPerson 9 = .ok (.iconst 1, 1) := by decide +kernel
theorem dX7_firstPerson_10 : decode cX7_firstPerson 10 = .ok (.iaload, 1) := by decide +kernel
theorem dX7_firstPerson_11 : decode cX7_firstPerson 11 = .ok (.iadd, 1) := by decide +kernel
theorem dX7_firstPerson_12 : decode cX7_firstPerson 12 = .ok (.iconst 1, 1) := by decide +kernel
theorem dX7_firstPerson_13 : decode cX7_firstPerson 13 = .ok (.iload_n 1, 1) := by decide +kernel
theorem dX7_firstPerson_14 : decode cX7_firstPerson 14 = .ok (.ishl, 1) := by decide +kernel
theorem dX7_firstPerson_15 : decode cX7_firstPerson 15 = .ok (.iconst 1, 1) := by decide +kernel
theorem dX7_firstPerson_16 : decode cX7_firstPerson 16 = .ok (.iload_n 2, 1) := by decide +kernel
theorem dX7_firstPerson_17 : decode cX7_firstPerson 17 = .ok (.ishl, 1) := by decide +kernel
theorem dX7_firstPerson_18 : decode cX7_firstPerson 18 = .ok (.ior, 1) := by decide +kernel
theorem dX7_firstPerson_19 : decode cX7_firstPerson 19 = .ok (.iastore, 1) := by decide +kernel
theorem dX7_firstPerson_20 : decode cX7_firstPerson 20 = .ok (.aload_n 0, 1) := by decide +kernel
theorem dX7_firstPerson_21 : decode cX7_firstPerson 21 = .ok (.getfield 32, 3) := by decide +kernel
theorem dX7_firstPerson_24 : decode cX7_firstPerson 24 = .ok (.iconst 1, 1) := by decide +kernel
theorem dX7_firstPerson_25 : decode cX7_firstPerson 25 = .ok (.dup2, 1) := by decide +kernel
theorem dX7_firstPerson_26 : decode cX7_firstPerson 26 = .ok (.iaload, 1) := by decide +kernel
theorem dX7_firstPerson_27 : decode cX7_firstPerson 27 = .ok (.iconst 1, 1) := by decide +kernel
theorem dX7_firstPerson_28 : decode cX7_firstPerson 28 = .ok (.iadd, 1) := by decide +kernel
theorem dX7_firstPerson_29 : decode cX7_firstPerson 29 = .ok (.iastore, 1) := by decide +kernel
theorem dX7_firstPerson_30 : decode cX7_firstPerson 30 = .ok (.return_, 1) := by decide +kernel
theorem dX7_in_0 : decode cX7_in 0 = .ok (.iload_n 0, 1) := by decide +kernel
theorem dX7_in_1 : decode cX7_in 1 = .ok (.iload_n 1, 1) := by decide +kernel
theorem dX7_in_2 : decode cX7_in 2 = .ok (.if_icmp .lt 12, 3) := by decide +kernel
theorem dX7_in_5 : decode cX7_in 5 = .ok (.iload_n 0, 1) := by decide +kernel
theorem dX7_in_6 : decode cX7_in 6 = .ok (.iload_n 2, 1) := by decide +kernel
theorem dX7_in_7 : decode cX7_in 7 = .ok (.if_icmp .gt 7, 3) := by decide +kernel
theorem dX7_in_10 : decode cX7_in 10 = .ok (.iconst 1, 1) := by decide +kernel
theorem dX7_in_11 : decode cX7_in 11 = .ok (.goto 4, 3) := by decide +kernel
theorem dX7_in_14 : decode cX7_in 14 = .ok (.iconst 0, 1) := by decide +kernel
theorem dX7_in_15 : decode cX7_in 15 = .ok (.ireturn, 1) := by decide +kernel
theorem dX7_write_0 : decode cX7_write 0 = .ok (.iload_n 1, 1) := by decide +kernel
theorem dX7_write_1 : decode cX7_write 1 = .ok (.bipush 32, 2) := by decide +kernel
theorem dX7_write_3 : decode cX7_write 3 = .ok (.bipush 126, 2) := by decide +kernel
theorem dX7_write_5 : decode cX7_write 5 = .ok (.invokestatic 82, 3) := by decide +kernel
theorem dX7_write_8 : decode cX7_write 8 = .ok (.ifCond .ne 5, 3) := by decide +kernel
theorem dX7_write_11 : decode cX7_write 11 = .ok (.iconst (-1), 1) := by decide +kernel
theorem dX7_write_12 : decode cX7_write 12 = .ok (.ireturn, 1) := by decide +kernel
theorem dX7_write_13 : decode cX7_write 13 = .ok (.aload_n 0, 1) := by decide +kernel
theorem dX7_write_14 : decode cX7_write 14 = .ok (.getfield 86, 3) := by decide +kernel
theorem dX7_write_17 : decode cX7_write 17 = .ok (.sipush 200, 3) := by decide +kernel
theorem dX7_write_20 : decode cX7_write 20 = .ok (.if_icmp .ne 6, 3) := by decide +kernel
theorem dX7_write_23 : decode cX7_write 23 = .ok (.bipush (-3), 2) := by decide +kernel
theorem dX7_write_25 : decode cX7_write 25 = .ok (.ireturn, 1) := by decide +kernel
theorem dX7_write_26 : decode cX7_write 26 = .ok (.aload_n 0, 1) := by decide +kernel
theorem dX7_write_27 : decode cX7_write 27 = .ok (.getfield 7, 3) := by decide +kernel
theorem dX7_write_30 : decode cX7_write 30 = .ok (.aload_n 0, 1) := by decide +kernel
theorem dX7_write_31 : decode cX7_write 31 = .ok (.getfield 86, 3) := by decide +kernel
theorem dX7_write_34 : decode cX7_write 34 = .ok (.iload_n 1, 1) := by decide +kernel
theorem dX7_write_35 : decode cX7_write 35 = .ok (.i2b, 1) := by decide +kernel
theorem dX7_write_36 : decode cX7_write 36 = .ok (.bastore, 1) := by decide +kernel
theorem dX7_write_37 : decode cX7_write 37 = .ok (.aload_n 0, 1) := by decide +kernel
theorem dX7_write_38 : decode cX7_write 38 = .ok (.dup, 1) := by decide +kernel
theorem dX7_write_39 : decode cX7_write 39 = .ok (.getfield 86, 3) := by decide +kernel
theorem dX7_write_42 : decode cX7_write 42 = .ok (.iconst 1, 1) := by decide +kernel
theorem dX7_write_43 : decode cX7_write 43 = .ok (.iadd, 1) := by decide +kernel
theorem dX7_write_44 : decode cX7_write 44 = .ok (.putfield 86, 3) := by decide +kernel
theorem dX7_write_47 : decode cX7_write 47 = .ok (.aload_n 0, 1) := by decide +kernel
theorem dX7_write_48 : decode cX7_write 48 = .ok (.getfield 86, 3) := by decide +kernel
theorem dX7_write_51 : decode cX7_write 51 = .ok (.ireturn, 1) := by decide +kernel
theorem dX7_wipe_0 : decode cX7_wipe 0 = .ok (.aload_n 0, 1) := by decide +kernel
theorem dX7_wipe_1 : decode cX7_wipe 1 = .ok (.getfield 86, 3) := by decide +kernel
theorem dX7_wipe_4 : decode cX7_wipe 4 = .ok (.istore_n 1, 1) := by decide +kernel
theorem dX7_wipe_5 : decode cX7_wipe 5 = .ok (.aload_n 0, 1) := by decide +kernel
theorem dX7_wipe_6 : decode cX7_wipe 6 = .ok (.iconst 0, 1) := by decide +kernel
theorem dX7_wipe_7 : decode cX7_wipe 7 = .ok (.putfield 86, 3) := by decide +kernel
theorem dX7_wipe_10 : decode cX7_wipe 10 = .ok (.iload_n 1, 1) := by decide +kernel
theorem dX7_wipe_11 : decode cX7_wipe 11 = .ok (.ireturn, 1) := by decide +kernel
theorem dX7_here_0 : decode cX7_here 0 = .ok (.aload_n 0, 1) := by decide +kernel
theorem dX7_here_1 : decode cX7_here 1 = .ok (.getfield 90, 3) := by decide +kernel
theorem dX7_here_4 : decode cX7_here 4 = .ok (.aload_n 0, 1) := by decide +kernel
theorem dX7_here_5 : decode cX7_here 5 = .ok (.getfield 86, 3) := by decide +kernel
theorem dX7_here_8 : decode cX7_here 8 = .ok (.if_icmp .ge 15, 3) := by decide +kernel
theorem dX7_here_11 : decode cX7_here 11 = .ok (.aload_n 0, 1) := by decide +kernel
theorem dX7_here_12 : decode cX7_here 12 = .ok (.getfield 7, 3) := by decide +kernel
theorem dX7_here_15 : decode cX7_here 15 = .ok (.aload_n 0, 1) := by decide +kernel
theorem dX7_here_16 : decode cX7_here 16 = .ok (.getfield 90, 3) := by decide +kernel
theorem dX7_here_19 : decode cX7_here 19 = .ok (.baload, 1) := by decide +kernel
theorem dX7_here_20 : decode cX7_here 20 = .ok (.goto 4, 3) := by decide +kernel
theorem dX7_here_23 : decode cX7_here 23 = .ok (.iconst (-1), 1) := by decide +kernel
theorem dX7_here_24 : decode cX7_here 24 = .ok (.ireturn, 1) := by decide +kernel
theorem dX7_number_0 : decode cX7_number 0 = .ok (.iconst 0, 1) := by decide +kernel
theorem dX7_number_1 : decode cX7_number 1 = .ok (.istore 4, 2) := by decide +kernel
theorem dX7_number_3 : decode cX7_number 3 = .ok (.iconst 0, 1) := by decide +kernel
theorem dX7_number_4 : decode cX7_number 4 = .ok (.istore 5, 2) := by decide +kernel
theorem dX7_number_6 : decode cX7_number 6 = .ok (.iload 5, 2) := by decide +kernel
theorem dX7_number_8 : decode cX7_number 8 = .ok (.iconst 2, 1) := by decide +kernel
theorem dX7_number_9 : decode cX7_number 9 = .ok (.if_icmp .ge 48, 3) := by decide +kernel
theorem dX7_number_12 : decode cX7_number 12 = .ok (.aload_n 0, 1) := by decide +kernel
theorem dX7_number_13 : decode cX7_number 13 = .ok (.invokevirtual 93, 3) := by decide +kernel
theorem dX7_number_16 : decode cX7_number 16 = .ok (.bipush 48, 2) := by decide +kernel
theorem dX7_number_18 : decode cX7_number 18 = .ok (.bipush 57, 2) := by decide +kernel
theorem dX7_number_20 : decode cX7_number 20 = .ok (.invokestatic 82, 3) := by decide +kernel
theorem dX7_number_23 : decode cX7_number 23 = .ok (.ifCond .eq 34, 3) := by decide +kernel
theorem dX7_number_26 : decode cX7_number 26 = .ok (.bipush 10, 2) := by decide +kernel
theorem dX7_number_28 : decode cX7_number 28 = .ok (.iload 4, 2) := by decide +kernel
theorem dX7_number_30 : decode cX7_number 30 = .ok (.imul, 1) := by decide +kernel
theorem dX7_number_31 : decode cX7_number 31 = .ok (.aload_n 0, 1) := by decide +kernel
theorem dX7_number_32 : decode cX7_number 32 = .ok (.invokevirtual 93, 3) := by decide +kernel
theorem dX7_number_35 : decode cX7_number 35 = .ok (.iadd, 1) := by decide +kernel
theorem dX7_number_36 : decode cX7_number 36 = .ok (.bipush 48, 2) := by decide +kernel
theorem dX7_number_38 : decode cX7_number 38 = .ok (.isub, 1) := by decide +kernel
theorem dX7_number_39 : decode cX7_number 39 = .ok (.istore 4, 2) := by decide +kernel
theorem dX7_number_41 : decode cX7_number 41 = .ok (.aload_n 0, 1) := by decide +kernel
theorem dX7_number_42 : decode cX7_number 42 = .ok (.dup, 1) := by decide +kernel
theorem dX7_number_43 : decode cX7_number 43 = .ok (.getfield 90, 3) := by decide +kernel
theorem dX7_number_46 : decode cX7_number 46 = .ok (.iconst 1, 1) := by decide +kernel
theorem dX7_number_47 : decode cX7_number 47 = .ok (.iadd, 1) := by decide +kernel
theorem dX7_number_48 : decode cX7_number 48 = .ok (.putfield 90, 3) := by decide +kernel
theorem dX7_number_51 : decode cX7_number 51 = .ok (.iinc 5 1, 3) := by decide +kernel
theorem dX7_number_54 : decode cX7_number 54 = .ok (.goto (-48), 3) := by decide +kernel
theorem dX7_number_57 : decode cX7_number 57 = .ok (.aload_n 0, 1) := by decide +kernel
theorem dX7_number_58 : decode cX7_number 58 = .ok (.aload_n 0, 1) := by decide +kernel
theorem dX7_number_59 : decode cX7_number 59 = .ok (.getfield 97, 3) := by decide +kernel
theorem dX7_number_62 : decode cX7_number 62 = .ok (.ifCond .eq 30, 3) := by decide +kernel
theorem dX7_number_65 : decode cX7_number 65 = .ok (.iload 5, 2) := by decide +kernel
theorem dX7_number_67 : decode cX7_number 67 = .ok (.ifCond .le 25, 3) := by decide +kernel
theorem dX7_number_70 : decode cX7_number 70 = .ok (.iload 4, 2) := by decide +kernel
theorem dX7_number_72 : decode cX7_number 72 = .ok (.iload_n 1, 1) := by decide +kernel
theorem dX7_number_73 : decode cX7_number 73 = .ok (.iload_n 2, 1) := by decide +kernel
theorem dX7_number_74 : decode cX7_number 74 = .ok (.invokestatic 82, 3) := by decide +kernel
theorem dX7_number_77 : decode cX7_number 77 = .ok (.ifCond .eq 15, 3) := by decide +kernel
theorem dX7_number_80 : decode cX7_number 80 = .ok (.aload_n 0, 1) := by decide +kernel
theorem dX7_number_81 : decode cX7_number 81 = .ok (.invokevirtual 93, 3) := by decide +kernel
theorem dX7_number_84 : decode cX7_number 84 = .ok (.iload_n 3, 1) := by decide +kernel
theorem dX7_number_85 : decode cX7_number 85 = .ok (.if_icmp .ne 7, 3) := by decide +kernel
theorem dX7_number_88 : decode cX7_number 88 = .ok (.iconst 1, 1) := by decide +kernel
theorem dX7_number_89 : decode cX7_number 89 = .ok (.goto 4, 3) := by decide +kernel
theorem dX7_number_92 : decode cX7_number 92 = .ok (.iconst 0, 1) := by decide +kernel
theorem dX7_number_93 : decode cX7_number 93 = .ok (.putfield 97, 3) := by decide +kernel
theorem dX7_number_96 : decode cX7_number 96 = .ok (.aload_n 0, 1) := by decide +kernel
theorem dX7_number_97 : decode cX7_number 97 = .ok (.dup, 1) := by decide +kernel
theorem dX7_number_98 : decode cX7_number 98 = .ok (.getfield 90, 3) := by decide +kernel
theorem dX7_number_101 : decode cX7_number 101 = .ok (.iconst 1, 1) := by decide +kernel
theorem dX7_number_102 : decode cX7_number 102 = .ok (.iadd, 1) := by decide +kernel
theorem dX7_number_103 : decode cX7_number 103 = .ok (.putfield 90, 3) := by decide +kernel
theorem dX7_number_106 : decode cX7_number 106 = .ok (.iload 4, 2) := by decide +kernel
theorem dX7_number_108 : decode cX7_number 108 = .ok (.ireturn, 1) := by decide +kernel
theorem dX7_statementAt_0 : decode cX7_statementAt 0 = .ok (.aload_n 0, 1) := by decide +kernel
theorem dX7_statementAt_1 : decode cX7_statementAt 1 = .ok (.iconst 0, 1) := by decide +kernel
theorem dX7_statementAt_2 : decode cX7_statementAt 2 = .ok (.aload_n 0, 1) := by decide +kernel
theorem dX7_statementAt_3 : decode cX7_statementAt 3 = .ok (.getfield 13, 3) := by decide +kernel
theorem dX7_statementAt_6 : decode cX7_statementAt 6 = .ok (.iconst 1, 1) := by decide +kernel
theorem dX7_statementAt_7 : decode cX7_statementAt 7 = .ok (.iaload, 1) := by decide +kernel
theorem dX7_statementAt_8 : decode cX7_statementAt 8 = .ok (.iconst 1, 1) := by decide +kernel
theorem dX7_statementAt_9 : decode cX7_statementAt 9 = .ok (.isub, 1) := by decide +kernel
theorem dX7_statementAt_10 : decode cX7_statementAt 10 = .ok (.iload_n 1, 1) := by decide +kernel
theorem dX7_statementAt_11 : decode cX7_statementAt 11 = .ok (.invokevirtual 101, 3) := by decide +kernel
theorem dX7_statementAt_14 : decode cX7_statementAt 14 = .ok (.ireturn, 1) := by decide +kernel
theorem dX7_readItem_0 : decode cX7_readItem 0 = .ok (.aload_n 0, 1) := by decide +kernel
theorem dX7_readItem_1 : decode cX7_readItem 1 = .ok (.invokevirtual 93, 3) := by decide +kernel
theorem dX7_readItem_4 : decode cX7_readItem 4 = .ok (.istore_n 1, 1) := by decide +kernel
theorem dX7_readItem_5 : decode cX7_readItem 5 = .ok (.aload_n 0, 1) := by decide +kernel
theorem dX7_readItem_6 : decode cX7_readItem 6 = .ok (.dup, 1) := by decide +kernel
theorem dX7_readItem_7 : decode cX7_readItem 7 = .ok (.getfield 90, 3) := by decide +kernel
theorem dX7_readItem_10 : decode cX7_readItem 10 = .ok (.iconst 1, 1) := by decide +kernel
theorem dX7_readItem_11 : decode cX7_readItem 11 = .ok (.iadd, 1) := by decide +kernel
theorem dX7_readItem_12 : decode cX7_readItem 12 = .ok (.putfield 90, 3) := by decide +kernel
theorem dX7_readItem_15 : decode cX7_readItem 15 = .ok (.aload_n 0, 1) := by decide +kernel
theorem dX7_readItem_16 : decode cX7_readItem 16 = .ok (.iconst 1, 1) := by decide +kernel
theorem dX7_readItem_17 : decode cX7_readItem 17 = .ok (.putfield 97, 3) := by decide +kernel
theorem dX7_readItem_20 : decode cX7_readItem 20 = .ok (.iload_n 1, 1) := by decide +kernel
theorem dX7_readItem_21 : decode cX7_readItem 21 = .ok (.tableswitch 333 112 118 #[242, 333, 169, 43, 333, 333, 111], 43) := by decide +kernel
theorem dX7_readItem_64 : decode cX7_readItem 64 = .ok (.aload_n 0, 1) := by decide +kernel
theorem dX7_readItem_65 : decode cX7_readItem 65 = .ok (.aload_n 0, 1) := by decide +kernel
theorem dX7_readItem_66 : decode cX7_readItem 66 = .ok (.getfield 13, 3) := by decide +kernel
theorem dX7_readItem_69 : decode cX7_readItem 69 = .ok (.iconst 1, 1) := by decide +kernel
theorem dX7_readItem_70 : decode cX7_readItem 70 = .ok (.iaload, 1) := by decide +kernel
theorem dX7_readItem_71 : decode cX7_readItem 71 = .ok (.bipush 10, 2) := by decide +kernel
theorem dX7_readItem_73 : decode cX7_readItem 73 = .ok (.if_icmp .ge 7, 3) := by decide +kernel
theorem dX7_readItem_76 : decode cX7_readItem 76 = .ok (.iconst 1, 1) := by decide +kernel
theorem dX7_readItem_77 : decode cX7_readItem 77 = .ok (.goto 4, 3) := by decide +kernel
theorem dX7_readItem_80 : decode cX7_readItem 80 = .ok (.iconst 0, 1) := by decide +kernel
theorem dX7_readItem_81 : decode cX7_readItem 81 = .ok (.putfield 97, 3) := by decide +kernel
theorem dX7_readItem_84 : decode cX7_readItem 84 = .ok (.aload_n 0, 1) := by decide +kernel
theorem dX7_readItem_85 : decode cX7_readItem 85 = .ok (.iconst 0, 1) := by decide +kernel
theorem dX7_readItem_86 : decode cX7_readItem 86 = .ok (.iconst 4, 1) := by decide +kernel
theorem dX7_readItem_87 : decode cX7_readItem 87 = .ok (.bipush 44, 2) := by decide +kernel
theorem dX7_readItem_89 : decode cX7_readItem 89 = .ok (.invokevirtual 101, 3) := by decide +kernel
theorem dX7_readItem_92 : decode cX7_readItem 92 = .ok (.istore_n 2, 1) := by decide +kernel
theorem dX7_readItem_93 : decode cX7_readItem 93 = .ok (.aload_n 0, 1) := by decide +kernel
theorem dX7_readItem_94 : decode cX7_readItem 94 = .ok (.iconst 0, 1) := by decide +kernel
theorem dX7_readItem_95 : decode cX7_readItem 95 = .ok (.bipush 20, 2) := by decide +kernel
theorem dX7_readItem_97 : decode cX7_readItem 97 = .ok (.bipush 44, 2) := by decide +kernel
theorem dX7_readItem_99 : decode cX7_readItem 99 = .ok (.invokevirtual 101, 3) := by decide +kernel
theorem dX7_readItem_102 : decode cX7_readItem 102 = .ok (.istore_n 3, 1) := by decide +kernel
theorem dX7_readItem_103 : decode cX7_readItem 103 = .ok (.aload_n 0, 1) := by decide +kernel
theorem dX7_readItem_104 : decode cX7_readItem 104 = .ok (.iconst 0, 1) := by decide +kernel
theorem dX7_readItem_105 : decode cX7_readItem 105 = .ok (.bipush 20, 2) := by decide +kernel
theorem dX7_readItem_107 : decode cX7_readItem 107 = .ok (.bipush 59, 2) := by decide +kernel
theorem dX7_readItem_109 : decode cX7_readItem 109 = .ok (.invokevirtual 101, 3) := by decide +kernel
theorem dX7_readItem_112 : decode cX7_readItem 112 = .ok (.istore 4, 2) := by decide +kernel
theorem dX7_readItem_114 : decode cX7_readItem 114 = .ok (.aload_n 0, 1) := by decide +kernel
theorem dX7_readItem_115 : decode cX7_readItem 115 = .ok (.getfield 97, 3) := by decide +kernel
theorem dX7_readItem_118 : decode cX7_readItem 118 = .ok (.ifCond .eq 241, 3) := by decide +kernel
theorem dX7_readItem_121 : decode cX7_readItem 121 = .ok (.aload_n 0, 1) := by decide +kernel
theorem dX7_readItem_122 : decode cX7_readItem 122 = .ok (.iload_n 2, 1) := by decide +kernel
theorem dX7_readItem_123 : decode cX7_readItem 123 = .ok (.iload_n 3, 1) := by decide +kernel
theorem dX7_readItem_124 : decode cX7_readItem 124 = .ok (.iload 4, 2) := by decide +kernel
theorem dX7_readItem_126 : decode cX7_readItem 126 = .ok (.invokevirtual 71, 3) := by decide +kernel
theorem dX7_readItem_129 : decode cX7_readItem 129 = .ok (.goto 230, 3) := by decide +kernel
theorem dX7_readItem_132 : decode cX7_readItem 132 = .ok (.aload_n 0, 1) := by decide +kernel
theorem dX7_readItem_133 : decode cX7_readItem 133 = .ok (.bipush 59, 2) := by decide +kernel
theorem dX7_readItem_135 : decode cX7_readItem 135 = .ok (.invokevirtual 105, 3) := by decide +kernel
theorem dX7_readItem_138 : decode cX7_readItem 138 = .ok (.istore_n 2, 1) := by decide +kernel
theorem dX7_readItem_139 : decode cX7_readItem 139 = .ok (.aload_n 0, 1) := by decide +kernel
theorem dX7_readItem_140 : decode cX7_readItem 140 = .ok (.aload_n 0, 1) := by decide +kernel
theorem dX7_readItem_141 : decode cX7_readItem 141 = .ok (.getfield 97, 3) := by decide +kernel
theorem dX7_readItem_144 : decode cX7_readItem 144 = .ok (.ifCond .eq 20, 3) := by decide +kernel
theorem dX7_readItem_147 : decode cX7_readItem 147 = .ok (.aload_n 0, 1) := by decide +kernel
theorem dX7_readItem_148 : decode cX7_readItem 148 = .ok (.getfield 17, 3) := by decide +kernel
theorem dX7_readItem_151 : decode cX7_readItem 151 = .ok (.bipush 10, 2) := by decide +kernel
theorem dX7_readItem_153 : decode cX7_readItem 153 = .ok (.iload_n 2, 1) := by decide +kernel
theorem dX7_readItem_154 : decode cX7_readItem 154 = .ok (.iadd, 1) := by decide +kernel
theorem dX7_readItem_155 : decode cX7_readItem 155 = .ok (.iaload, 1) := by decide +kernel
theorem dX7_readItem_156 : decode cX7_readItem 156 = .ok (.iconst 4, 1) := by decide +kernel
theorem dX7_readItem_157 : decode cX7_readItem 157 = .ok (.if_icmp .eq 7, 3) := by decide +kernel
theorem dX7_readItem_160 : decode cX7_readItem 160 = .ok (.iconst 1, 1) := by decide +kernel
theorem dX7_readItem_161 : decode cX7_readItem 161 = .ok (.goto 4, 3) := by decide +kernel
theorem dX7_readItem_164 : decode cX7_readItem 164 = .ok (.iconst 0, 1) := by decide +kernel
theorem dX7_readItem_165 : decode cX7_readItem 165 = .ok (.putfield 97, 3) := by decide +kernel
theorem dX7_readItem_168 : decode cX7_readItem 168 = .ok (.aload_n 0, 1) := by decide +kernel
theorem dX7_readItem_169 : decode cX7_readItem 169 = .ok (.getfield 97, 3) := by decide +kernel
theorem dX7_readItem_172 : decode cX7_readItem 172 = .ok (.ifCond .eq 187, 3) := by decide +kernel
theorem dX7_readItem_175 : decode cX7_readItem 175 = .ok (.aload_n 0, 1) := by decide +kernel
theorem dX7_readItem_176 : decode cX7_readItem 176 = .ok (.getfield 29, 3) := by decide +kernel
theorem dX7_readItem_179 : decode cX7_readItem 179 = .ok (.iconst 1, 1) := by decide +kernel
theorem dX7_readItem_180 : decode cX7_readItem 180 = .ok (.dup2, 1) := by decide +kernel
theorem dX7_readItem_181 : decode cX7_readItem 181 = .ok (.iaload, 1) := by decide +kernel
theorem dX7_readItem_182 : decode cX7_readItem 182 = .ok (.iconst 1, 1) := by decide +kernel
theorem dX7_readItem_183 : decode cX7_readItem 183 = .ok (.iload_n 2, 1) := by decide +kernel
theorem dX7_readItem_184 : decode cX7_readItem 184 = .ok (.ishl, 1) := by decide +kernel
theorem dX7_readItem_185 : decode cX7_readItem 185 = .ok (.ior, 1) := by decide +kernel
theorem dX7_readItem_186 : decode cX7_readItem 186 = .ok (.iastore, 1) := by decide +kernel
theorem dX7_readItem_187 : decode cX7_readItem 187 = .ok (.goto 172, 3) := by decide +kernel
theorem dX7_readItem_190 : decode cX7_readItem 190 = .ok (.aload_n 0, 1) := by decide +kernel
theorem dX7_readItem_191 : decode cX7_readItem 191 = .ok (.bipush 44, 2) := by decide +kernel
theorem dX7_readItem_193 : decode cX7_readItem 193 = .ok (.invokevirtual 105, 3) := by decide +kernel
theorem dX7_readItem_196 : decode cX7_readItem 196 = .ok (.istore_n 2, 1) := by decide +kernel
theorem dX7_readItem_197 : decode cX7_readItem 197 = .ok (.aload_n 0, 1) := by decide +kernel
theorem dX7_readItem_198 : decode cX7_readItem 198 = .ok (.bipush 59, 2) := by decide +kernel
theorem dX7_readItem_200 : decode cX7_readItem 200 = .ok (.invokevirtual 105, 3) := by decide +kernel
theorem dX7_readItem_203 : decode cX7_readItem 203 = .ok (.istore_n 3, 1) := by decide +kernel
theorem dX7_readItem_204 : decode cX7_readItem 204 = .ok (.aload_n 0, 1) := by decide +kernel
theorem dX7_readItem_205 : decode cX7_readItem 205 = .ok (.aload_n 0, 1) := by decide +kernel
theorem dX7_readItem_206 : decode cX7_readItem 206 = .ok (.getfield 97, 3) := by decide +kernel
theorem dX7_readItem_209 : decode cX7_readItem 209 = .ok (.ifCond .eq 25, 3) := by decide +kernel
theorem dX7_readItem_212 : decode cX7_readItem 212 = .ok (.iload_n 2, 1) := by decide +kernel
theorem dX7_readItem_213 : decode cX7_readItem 213 = .ok (.iload_n 3, 1) := by decide +kernel
theorem dX7_readItem_214 : decode cX7_readItem 214 = .ok (.if_icmp .eq 20, 3) := by decide +kernel
theorem dX7_readItem_217 : decode cX7_readItem 217 = .ok (.aload_n 0, 1) := by decide +kernel
theorem dX7_readItem_218 : decode cX7_readItem 218 = .ok (.getfield 17, 3) := by decide +kernel
theorem dX7_readItem_221 : decode cX7_readItem 221 = .ok (.bipush 10, 2) := by decide +kernel
theorem dX7_readItem_223 : decode cX7_readItem 223 = .ok (.iload_n 2, 1) := by decide +kernel
theorem dX7_readItem_224 : decode cX7_readItem 224 = .ok (.iadd, 1) := by decide +kernel
theorem dX7_readItem_225 : decode cX7_readItem 225 = .ok (.iaload, 1) := by decide +kernel
theorem dX7_readItem_226 : decode cX7_readItem 226 = .ok (.iconst 4, 1) := by decide +kernel
theorem dX7_readItem_227 : decode cX7_readItem 227 = .ok (.if_icmp .eq 7, 3) := by decide +kernel
theorem dX7_readItem_230 : decode cX7_readItem 230 = .ok (.iconst 1, 1) := by decide +kernel
theorem dX7_readItem_231 : decode cX7_readItem 231 = .ok (.goto 4, 3) := by decide +kernel
theorem dX7_readItem_234 : decode cX7_readItem 234 = .ok (.iconst 0, 1) := by decide +kernel
theorem dX7_readItem_235 : decode cX7_readItem 235 = .ok (.putfield 97, 3) := by decide +kernel
theorem dX7_readItem_238 : decode cX7_readItem 238 = .ok (.aload_n 0, 1) := by decide +kernel
theorem dX7_readItem_239 : decode cX7_readItem 239 = .ok (.getfield 97, 3) := by decide +kernel
theorem dX7_readItem_242 : decode cX7_readItem 242 = .ok (.ifCond .eq 117, 3) := by decide +kernel
theorem dX7_readItem_245 : decode cX7_readItem 245 = .ok (.aload_n 0, 1) := by decide +kernel
theorem dX7_readItem_246 : decode cX7_readItem 246 = .ok (.getfield 26, 3) := by decide +kernel
theorem dX7_readItem_249 : decode cX7_readItem 249 = .ok (.bipush 10, 2) := by decide +kernel
theorem dX7_readItem_251 : decode cX7_readItem 251 = .ok (.iload_n 2, 1) := by decide +kernel
theorem dX7_readItem_252 : decode cX7_readItem 252 = .ok (.iadd, 1) := by decide +kernel
theorem dX7_readItem_253 : decode cX7_readItem 253 = .ok (.dup2, 1) := by decide +kernel
theorem dX7_readItem_254 : decode cX7_readItem 254 = .ok (.iaload, 1) := by decide +kernel
theorem dX7_readItem_255 : decode cX7_readItem 255 = .ok (.iconst 1, 1) := by decide +kernel
theorem dX7_readItem_256 : decode cX7_readItem 256 = .ok (.iload_n 3, 1) := by decide +kernel
theorem dX7_readItem_257 : decode cX7_readItem 257 = .ok (.ishl, 1) := by decide +kernel
theorem dX7_readItem_258 : decode cX7_readItem 258 = .ok (.ior, 1) := by decide +kernel
theorem dX7_readItem_259 : decode cX7_readItem 259 = .ok (.iastore, 1) := by decide +kernel
theorem dX7_readItem_260 : decode cX7_readItem 260 = .ok (.goto 99, 3) := by decide +kernel
theorem dX7_readItem_263 : decode cX7_readItem 263 = .ok (.aload_n 0, 1) := by decide +kernel
theorem dX7_readItem_264 : decode cX7_readItem 264 = .ok (.aload_n 0, 1) := by decide +kernel
theorem dX7_readItem_265 : decode cX7_readItem 265 = .ok (.getfield 32, 3) := by decide +kernel
theorem dX7_readItem_268 : decode cX7_readItem 268 = .ok (.iconst 1, 1) := by decide +kernel
theorem dX7_readItem_269 : decode cX7_readItem 269 = .ok (.iaload, 1) := by decide +kernel
theorem dX7_readItem_270 : decode cX7_readItem 270 = .ok (.iconst 5, 1) := by decide +kernel
theorem dX7_readItem_271 : decode cX7_readItem 271 = .ok (.if_icmp .ge 7, 3) := by decide +kernel
theorem dX7_readItem_274 : decode cX7_readItem 274 = .ok (.iconst 1, 1) := by decide +kernel
theorem dX7_readItem_275 : decode cX7_readItem 275 = .ok (.goto 4, 3) := by decide +kernel
theorem dX7_readItem_278 : decode cX7_readItem 278 = .ok (.iconst 0, 1) := by decide +kernel
theorem dX7_readItem_279 : decode cX7_readItem 279 = .ok (.putfield 97, 3) := by decide +kernel
theorem dX7_readItem_282 : decode cX7_readItem 282 = .ok (.aload_n 0, 1) := by decide +kernel
theorem dX7_readItem_283 : decode cX7_readItem 283 = .ok (.bipush 44, 2) := by decide +kernel
theorem dX7_readItem_285 : decode cX7_readItem 285 = .ok (.invokevirtual 105, 3) := by decide +kernel
theorem dX7_readItem_288 : decode cX7_readItem 288 = .ok (.istore_n 2, 1) := by decide +kernel
theorem dX7_readItem_289 : decode cX7_readItem 289 = .ok (.aload_n 0, 1) := by decide +kernel
theorem dX7_readItem_290 : decode cX7_readItem 290 = .ok (.bipush 59, 2) := by decide +kernel
theorem dX7_readItem_292 : decode cX7_readItem 292 = .ok (.invokevirtual 105, 3) := by decide +kernel
theorem dX7_readItem_295 : decode cX7_readItem 295 = .ok (.istore_n 3, 1) := by decide +kernel
theorem dX7_readItem_296 : decode cX7_readItem 296 = .ok (.aload_n 0, 1) := by decide +kernel
theorem dX7_readItem_297 : decode cX7_readItem 297 = .ok (.aload_n 0, 1) := by decide +kernel
theorem dX7_readItem_298 : decode cX7_readItem 298 = .ok (.getfield 97, 3) := by decide +kernel
theorem dX7_readItem_301 : decode cX7_readItem 301 = .ok (.ifCond .eq 33, 3) := by decide +kernel
theorem dX7_readItem_304 : decode cX7_readItem 304 = .ok (.aload_n 0, 1) := by decide +kernel
theorem dX7_readItem_305 : decode cX7_readItem 305 = .ok (.getfield 17, 3) := by decide +kernel
theorem dX7_readItem_308 : decode cX7_readItem 308 = .ok (.bipush 10, 2) := by decide +kernel
theorem dX7_readItem_310 : decode cX7_readItem 310 = .ok (.iload_n 2, 1) := by decide +kernel
theorem dX7_readItem_311 : decode cX7_readItem 311 = .ok (.iadd, 1) := by decide +kernel
theorem dX7_readItem_312 : decode cX7_readItem 312 = .ok (.iaload, 1) := by decide +kernel
theorem dX7_readItem_313 : decode cX7_readItem 313 = .ok (.iconst 4, 1) := by decide +kernel
theorem dX7_readItem_314 : decode cX7_readItem 314 = .ok (.if_icmp .ne 20, 3) := by decide +kernel
theorem dX7_readItem_317 : decode cX7_readItem 317 = .ok (.aload_n 0, 1) := by decide +kernel
theorem dX7_readItem_318 : decode cX7_readItem 318 = .ok (.getfield 17, 3) := by decide +kernel
theorem dX7_readItem_321 : decode cX7_readItem 321 = .ok (.bipush 10, 2) := by decide +kernel
theorem dX7_readItem_323 : decode cX7_readItem 323 = .ok (.iload_n 3, 1) := by decide +kernel
theorem dX7_readItem_324 : decode cX7_readItem 324 = .ok (.iadd, 1) := by decide +kernel
theorem dX7_readItem_325 : decode cX7_readItem 325 = .ok (.iaload, 1) := by decide +kernel
theorem dX7_readItem_326 : decode cX7_readItem 326 = .ok (.iconst 4, 1) := by decide +kernel
theorem dX7_readItem_327 : decode cX7_readItem 327 = .ok (.if_icmp .ne 7, 3) := by decide +kernel
theorem dX7_readItem_330 : decode cX7_readItem 330 = .ok (.iconst 1, 1) := by decide +kernel
theorem dX7_readItem_331 : decode cX7_readItem 331 = .ok (.goto 4, 3) := by decide +kernel
theorem dX7_readItem_334 : decode cX7_readItem 334 = .ok (.iconst 0, 1) := by decide +kernel
theorem dX7_readItem_335 : decode cX7_readItem 335 = .ok (.putfield 97, 3) := by decide +kernel
theorem dX7_readItem_338 : decode cX7_readItem 338 = .ok (.aload_n 0, 1) := by decide +kernel
theorem dX7_readItem_339 : decode cX7_readItem 339 = .ok (.getfield 97, 3) := by decide +kernel
theorem dX7_readItem_342 : decode cX7_readItem 342 = .ok (.ifCond .eq 17, 3) := by decide +kernel
theorem dX7_readItem_345 : decode cX7_readItem 345 = .ok (.aload_n 0, 1) := by decide +kernel
theorem dX7_readItem_346 : decode cX7_readItem 346 = .ok (.iload_n 2, 1) := by decide +kernel
theorem dX7_readItem_347 : decode cX7_readItem 347 = .ok (.iload_n 3, 1) := by decide +kernel
theorem dX7_readItem_348 : decode cX7_readItem 348 = .ok (.invokevirtual 75, 3) := by decide +kernel
theorem dX7_readItem_351 : decode cX7_readItem 351 = .ok (.goto 8, 3) := by decide +kernel
theorem dX7_readItem_354 : decode cX7_readItem 354 = .ok (.aload_n 0, 1) := by decide +kernel
theorem dX7_readItem_355 : decode cX7_readItem 355 = .ok (.iconst 0, 1) := by decide +kernel
theorem dX7_readItem_356 : decode cX7_readItem 356 = .ok (.putfield 97, 3) := by decide +kernel
theorem dX7_readItem_359 : decode cX7_readItem 359 = .ok (.return_, 1) := by decide +kernel
theorem dX7_fault_0 : decode cX7_fault 0 = .ok (.aload_n 0, 1) := by decide +kernel
theorem dX7_fault_1 : decode cX7_fault 1 = .ok (.iconst 0, 1) := by decide +kernel
theorem dX7_fault_2 : decode cX7_fault 2 = .ok (.putfield 90, 3) := by decide +kernel
theorem dX7_fault_5 : decode cX7_fault 5 = .ok (.aload_n 0, 1) := by decide +kernel
theorem dX7_fault_6 : decode cX7_fault 6 = .ok (.getfield 13, 3) := by decide +kernel
theorem dX7_fault_9 : decode cX7_fault 9 = .ok (.iconst 1, 1) := by decide +kernel
theorem dX7_fault_10 : decode cX7_fault 10 = .ok (.iconst 0, 1) := by decide +kernel
theorem dX7_fault_11 : decode cX7_fault 11 = .ok (.iastore, 1) := by decide +kernel
theorem dX7_fault_12 : decode cX7_fault 12 = .ok (.aload_n 0, 1) := by decide +kernel
theorem dX7_fault_13 : decode cX7_fault 13 = .ok (.getfield 29, 3) := by decide +kernel
theorem dX7_fault_16 : decode cX7_fault 16 = .ok (.iconst 1, 1) := by decide +kernel
theorem dX7_fault_17 : decode cX7_fault 17 = .ok (.iconst 0, 1) := by decide +kernel
theorem dX7_fault_18 : decode cX7_fault 18 = .ok (.iastore, 1) := by decide +kernel
theorem dX7_fault_19 : decode cX7_fault 19 = .ok (.aload_n 0, 1) := by decide +kernel
theorem dX7_fault_20 : decode cX7_fault 20 = .ok (.getfield 32, 3) := by decide +kernel
theorem dX7_fault_23 : decode cX7_fault 23 = .ok (.iconst 1, 1) := by decide +kernel
theorem dX7_fault_24 : decode cX7_fault 24 = .ok (.iconst 0, 1) := by decide +kernel
theorem dX7_fault_25 : decode cX7_fault 25 = .ok (.iastore, 1) := by decide +kernel
theorem dX7_fault_26 : decode cX7_fault 26 = .ok (.aload_n 0, 1) := by decide +kernel
theorem dX7_fault_27 : decode cX7_fault 27 = .ok (.getfield 90, 3) := by decide +kernel
theorem dX7_fault_30 : decode cX7_fault 30 = .ok (.aload_n 0, 1) := by decide +kernel
theorem dX7_fault_31 : decode cX7_fault 31 = .ok (.getfield 86, 3) := by decide +kernel
theorem dX7_fault_34 : decode cX7_fault 34 = .ok (.if_icmp .ge 24, 3) := by decide +kernel
theorem dX7_fault_37 : decode cX7_fault 37 = .ok (.aload_n 0, 1) := by decide +kernel
theorem dX7_fault_38 : decode cX7_fault 38 = .ok (.getfield 90, 3) := by decide +kernel
theorem dX7_fault_41 : decode cX7_fault 41 = .ok (.istore_n 1, 1) := by decide +kernel
theorem dX7_fault_42 : decode cX7_fault 42 = .ok (.aload_n 0, 1) := by decide +kernel
theorem dX7_fault_43 : decode cX7_fault 43 = .ok (.invokevirtual 109, 3) := by decide +kernel
theorem dX7_fault_46 : decode cX7_fault 46 = .ok (.aload_n 0, 1) := by decide +kernel
theorem dX7_fault_47 : decode cX7_fault 47 = .ok (.getfield 97, 3) := by decide +kernel
theorem dX7_fault_50 : decode cX7_fault 50 = .ok (.ifCond .ne 5, 3) := by decide +kernel
theorem dX7_fault_53 : decode cX7_fault 53 = .ok (.iload_n 1, 1) := by decide +kernel
theorem dX7_fault_54 : decode cX7_fault 54 = .ok (.ireturn, 1) := by decide +kernel
theorem dX7_fault_55 : decode cX7_fault 55 = .ok (.goto (-29), 3) := by decide +kernel
theorem dX7_fault_58 : decode cX7_fault 58 = .ok (.bipush (-4), 2) := by decide +kernel
theorem dX7_fault_60 : decode cX7_fault 60 = .ok (.ireturn, 1) := by decide +kernel
theorem dX7_takeDraft_0 : decode cX7_takeDraft 0 = .ok (.aload_n 0, 1) := by decide +kernel
theorem dX7_takeDraft_1 : decode cX7_takeDraft 1 = .ok (.getfield 13, 3) := by decide +kernel
theorem dX7_takeDraft_4 : decode cX7_takeDraft 4 = .ok (.iconst 0, 1) := by decide +kernel
theorem dX7_takeDraft_5 : decode cX7_takeDraft 5 = .ok (.aload_n 0, 1) := by decide +kernel
theorem dX7_takeDraft_6 : decode cX7_takeDraft 6 = .ok (.getfield 13, 3) := by decide +kernel
theorem dX7_takeDraft_9 : decode cX7_takeDraft 9 = .ok (.iconst 1, 1) := by decide +kernel
theorem dX7_takeDraft_10 : decode cX7_takeDraft 10 = .ok (.iaload, 1) := by decide +kernel
theorem dX7_takeDraft_11 : decode cX7_takeDraft 11 = .ok (.iastore, 1) := by decide +kernel
theorem dX7_takeDraft_12 : decode cX7_takeDraft 12 = .ok (.aload_n 0, 1) := by decide +kernel
theorem dX7_takeDraft_13 : decode cX7_takeDraft 13 = .ok (.getfield 29, 3) := by decide +kernel
theorem dX7_takeDraft_16 : decode cX7_takeDraft 16 = .ok (.iconst 0, 1) := by decide +kernel
theorem dX7_takeDraft_17 : decode cX7_takeDraft 17 = .ok (.aload_n 0, 1) := by decide +kernel
theorem dX7_takeDraft_18 : decode cX7_takeDraft 18 = .ok (.getfield 29, 3) := by decide +kernel
theorem dX7_takeDraft_21 : decode cX7_takeDraft 21 = .ok (.iconst 1, 1) := by decide +kernel
theorem dX7_takeDraft_22 : decode cX7_takeDraft 22 = .ok (.iaload, 1) := by decide +kernel
theorem dX7_takeDraft_23 : decode cX7_takeDraft 23 = .ok (.iastore, 1) := by decide +kernel
theorem dX7_takeDraft_24 : decode cX7_takeDraft 24 = .ok (.aload_n 0, 1) := by decide +kernel
theorem dX7_takeDraft_25 : decode cX7_takeDraft 25 = .ok (.getfield 32, 3) := by decide +kernel
theorem dX7_takeDraft_28 : decode cX7_takeDraft 28 = .ok (.iconst 0, 1) := by decide +kernel
theorem dX7_takeDraft_29 : decode cX7_takeDraft 29 = .ok (.aload_n 0, 1) := by decide +kernel
theorem dX7_takeDraft_30 : decode cX7_takeDraft 30 = .ok (.getfield 32, 3) := by decide +kernel
theorem dX7_takeDraft_33 : decode cX7_takeDraft 33 = .ok (.iconst 1, 1) := by decide +kernel
theorem dX7_takeDraft_34 : decode cX7_takeDraft 34 = .ok (.iaload, 1) := by decide +kernel
theorem dX7_takeDraft_35 : decode cX7_takeDraft 35 = .ok (.iastore, 1) := by decide +kernel
theorem dX7_takeDraft_36 : decode cX7_takeDraft 36 = .ok (.iconst 0, 1) := by decide +kernel
theorem dX7_takeDraft_37 : decode cX7_takeDraft 37 = .ok (.istore_n 1, 1) := by decide +kernel
theorem dX7_takeDraft_38 : decode cX7_takeDraft 38 = .ok (.iload_n 1, 1) := by decide +kernel
theorem dX7_takeDraft_39 : decode cX7_takeDraft 39 = .ok (.bipush 10, 2) := by decide +kernel
theorem dX7_takeDraft_41 : decode cX7_takeDraft 41 = .ok (.if_icmp .ge 69, 3) := by decide +kernel
theorem dX7_takeDraft_44 : decode cX7_takeDraft 44 = .ok (.aload_n 0, 1) := by decide +kernel
theorem dX7_takeDraft_45 : decode cX7_takeDraft 45 = .ok (.getfield 17, 3) := by decide +kernel
theorem dX7_takeDraft_48 : decode cX7_takeDraft 48 = .ok (.iload_n 1, 1) := by decide +kernel
theorem dX7_takeDraft_49 : decode cX7_takeDraft 49 = .ok (.aload_n 0, 1) := by decide +kernel
theorem dX7_takeDraft_50 : decode cX7_takeDraft 50 = .ok (.getfield 17, 3) := by decide +kernel
theorem dX7_takeDraft_53 : decode cX7_takeDraft 53 = .ok (.bipush 10, 2) := by decide +kernel
theorem dX7_takeDraft_55 : decode cX7_takeDraft 55 = .ok (.iload_n 1, 1) := by decide +kernel
theorem dX7_takeDraft_56 : decode cX7_takeDraft 56 = .ok (.iadd, 1) := by decide +kernel
theorem dX7_takeDraft_57 : decode cX7_takeDraft 57 = .ok (.iaload, 1) := by decide +kernel
theorem dX7_takeDraft_58 : decode cX7_takeDraft 58 = .ok (.iastore, 1) := by decide +kernel
theorem dX7_takeDraft_59 : decode cX7_takeDraft 59 = .ok (.aload_n 0, 1) := by decide +kernel
theorem dX7_takeDraft_60 : decode cX7_takeDraft 60 = .ok (.getfield 20, 3) := by decide +kernel
theorem dX7_takeDraft_63 : decode cX7_takeDraft 63 = .ok (.iload_n 1, 1) := by decide +kernel
theorem dX7_takeDraft_64 : decode cX7_takeDraft 64 = .ok (.aload_n 0, 1) := by decide +kernel
theorem dX7_takeDraft_65 : decode cX7_takeDraft 65 = .ok (.getfield 20, 3) := by decide +kernel
theorem dX7_takeDraft_68 : decode cX7_takeDraft 68 = .ok (.bipush 10, 2) := by decide +kernel
theorem dX7_takeDraft_70 : decode cX7_takeDraft 70 = .ok (.iload_n 1, 1) := by decide +kernel
theorem dX7_takeDraft_71 : decode cX7_takeDraft 71 = .ok (.iadd, 1) := by decide +kernel
theorem dX7_takeDraft_72 : decode cX7_takeDraft 72 = .ok (.iaload, 1) := by decide +kernel
theorem dX7_takeDraft_73 : decode cX7_takeDraft 73 = .ok (.iastore, 1) := by decide +kernel
theorem dX7_takeDraft_74 : decode cX7_takeDraft 74 = .ok (.aload_n 0, 1) := by decide +kernel
theorem dX7_takeDraft_75 : decode cX7_takeDraft 75 = .ok (.getfield 23, 3) := by decide +kernel
theorem dX7_takeDraft_78 : decode cX7_takeDraft 78 = .ok (.iload_n 1, 1) := by decide +kernel
theorem dX7_takeDraft_79 : decode cX7_takeDraft 79 = .ok (.aload_n 0, 1) := by decide +kernel
theorem dX7_takeDraft_80 : decode cX7_takeDraft 80 = .ok (.getfield 23, 3) := by decide +kernel
theorem dX7_takeDraft_83 : decode cX7_takeDraft 83 = .ok (.bipush 10, 2) := by decide +kernel
theorem dX7_takeDraft_85 : decode cX7_takeDraft 85 = .ok (.iload_n 1, 1) := by decide +kernel
theorem dX7_takeDraft_86 : decode cX7_takeDraft 86 = .ok (.iadd, 1) := by decide +kernel
theorem dX7_takeDraft_87 : decode cX7_takeDraft 87 = .ok (.iaload, 1) := by decide +kernel
theorem dX7_takeDraft_88 : decode cX7_takeDraft 88 = .ok (.iastore, 1) := by decide +kernel
theorem dX7_takeDraft_89 : decode cX7_takeDraft 89 = .ok (.aload_n 0, 1) := by decide +kernel
theorem dX7_takeDraft_90 : decode cX7_takeDraft 90 = .ok (.getfield 26, 3) := by decide +kernel
theorem dX7_takeDraft_93 : decode cX7_takeDraft 93 = .ok (.iload_n 1, 1) := by decide +kernel
theorem dX7_takeDraft_94 : decode cX7_takeDraft 94 = .ok (.aload_n 0, 1) := by decide +kernel
theorem dX7_takeDraft_95 : decode cX7_takeDraft 95 = .ok (.getfield 26, 3) := by decide +kernel
theorem dX7_takeDraft_98 : decode cX7_takeDraft 98 = .ok (.bipush 10, 2) := by decide +kernel
theorem dX7_takeDraft_100 : decode cX7_takeDraft 100 = .ok (.iload_n 1, 1) := by decide +kernel
theorem dX7_takeDraft_101 : decode cX7_takeDraft 101 = .ok (.iadd, 1) := by decide +kernel
theorem dX7_takeDraft_102 : decode cX7_takeDraft 102 = .ok (.iaload, 1) := by decide +kernel
theorem dX7_takeDraft_103 : decode cX7_takeDraft 103 = .ok (.iastore, 1) := by decide +kernel
theorem dX7_takeDraft_104 : decode cX7_takeDraft 104 = .ok (.iinc 1 1, 3) := by decide +kernel
theorem dX7_takeDraft_107 : decode cX7_takeDraft 107 = .ok (.goto (-69), 3) := by decide +kernel
theorem dX7_takeDraft_110 : decode cX7_takeDraft 110 = .ok (.iconst 0, 1) := by decide +kernel
theorem dX7_takeDraft_111 : decode cX7_takeDraft 111 = .ok (.istore_n 1, 1) := by decide +kernel
theorem dX7_takeDraft_112 : decode cX7_takeDraft 112 = .ok (.iload_n 1, 1) := by decide +kernel
theorem dX7_takeDraft_113 : decode cX7_takeDraft 113 = .ok (.iconst 5, 1) := by decide +kernel
theorem dX7_takeDraft_114 : decode cX7_takeDraft 114 = .ok (.if_icmp .ge 23, 3) := by decide +kernel
theorem dX7_takeDraft_117 : decode cX7_takeDraft 117 = .ok (.aload_n 0, 1) := by decide +kernel
theorem dX7_takeDraft_118 : decode cX7_takeDraft 118 = .ok (.getfield 35, 3) := by decide +kernel
theorem dX7_takeDraft_121 : decode cX7_takeDraft 121 = .ok (.iload_n 1, 1) := by decide +kernel
theorem dX7_takeDraft_122 : decode cX7_takeDraft 122 = .ok (.aload_n 0, 1) := by decide +kernel
theorem dX7_takeDraft_123 : decode cX7_takeDraft 123 = .ok (.getfield 35, 3) := by decide +kernel
theorem dX7_takeDraft_126 : decode cX7_takeDraft 126 = .ok (.iconst 5, 1) := by decide +kernel
theorem dX7_takeDraft_127 : decode cX7_takeDraft 127 = .ok (.iload_n 1, 1) := by decide +kernel
theorem dX7_takeDraft_128 : decode cX7_takeDraft 128 = .ok (.iadd, 1) := by decide +kernel
theorem dX7_takeDraft_129 : decode cX7_takeDraft 129 = .ok (.iaload, 1) := by decide +kernel
theorem dX7_takeDraft_130 : decode cX7_takeDraft 130 = .ok (.iastore, 1) := by decide +kernel
theorem dX7_takeDraft_131 : decode cX7_takeDraft 131 = .ok (.iinc 1 1, 3) := by decide +kernel
theorem dX7_takeDraft_134 : decode cX7_takeDraft 134 = .ok (.goto (-22), 3) := by decide +kernel
theorem dX7_takeDraft_137 : decode cX7_takeDraft 137 = .ok (.iconst 0, 1) := by decide +kernel
theorem dX7_takeDraft_138 : decode cX7_takeDraft 138 = .ok (.istore_n 1, 1) := by decide +kernel
theorem dX7_takeDraft_139 : decode cX7_takeDraft 139 = .ok (.iload_n 1, 1) := by decide +kernel
theorem dX7_takeDraft_140 : decode cX7_takeDraft 140 = .ok (.bipush 12, 2) := by decide +kernel
theorem dX7_takeDraft_142 : decode cX7_takeDraft 142 = .ok (.if_icmp .ge 16, 3) := by decide +kernel
theorem dX7_takeDraft_145 : decode cX7_takeDraft 145 = .ok (.aload_n 0, 1) := by decide +kernel
theorem dX7_takeDraft_146 : decode cX7_takeDraft 146 = .ok (.getfield 38, 3) := by decide +kernel
theorem dX7_takeDraft_149 : decode cX7_takeDraft 149 = .ok (.iload_n 1, 1) := by decide +kernel
theorem dX7_takeDraft_150 : decode cX7_takeDraft 150 = .ok (.iconst 0, 1) := by decide +kernel
theorem dX7_takeDraft_151 : decode cX7_takeDraft 151 = .ok (.iastore, 1) := by decide +kernel
theorem dX7_takeDraft_152 : decode cX7_takeDraft 152 = .ok (.iinc 1 1, 3) := by decide +kernel
theorem dX7_takeDraft_155 : decode cX7_takeDraft 155 = .ok (.goto (-16), 3) := by decide +kernel
theorem dX7_takeDraft_158 : decode cX7_takeDraft 158 = .ok (.aload_n 0, 1) := by decide +kernel
theorem dX7_takeDraft_159 : decode cX7_takeDraft 159 = .ok (.iconst 0, 1) := by decide +kernel
theorem dX7_takeDraft_160 : decode cX7_takeDraft 160 = .ok (.putfield 112, 3) := by decide +kernel
theorem dX7_takeDraft_163 : decode cX7_takeDraft 163 = .ok (.aload_n 0, 1) := by decide +kernel
theorem dX7_takeDraft_164 : decode cX7_takeDraft 164 = .ok (.iconst 0, 1) := by decide +kernel
theorem dX7_takeDraft_165 : decode cX7_takeDraft 165 = .ok (.putfield 115, 3) := by decide +kernel
theorem dX7_takeDraft_168 : decode cX7_takeDraft 168 = .ok (.return_, 1) := by decide +kernel
theorem dX7_lay_0 : decode cX7_lay 0 = .ok (.aload_n 0, 1) := by decide +kernel
theorem dX7_lay_1 : decode cX7_lay 1 = .ok (.invokevirtual 118, 3) := by decide +kernel
theorem dX7_lay_4 : decode cX7_lay 4 = .ok (.bipush (-4), 2) := by decide +kernel
theorem dX7_lay_6 : decode cX7_lay 6 = .ok (.if_icmp .ne 12, 3) := by decide +kernel
theorem dX7_lay_9 : decode cX7_lay 9 = .ok (.aload_n 0, 1) := by decide +kernel
theorem dX7_lay_10 : decode cX7_lay 10 = .ok (.getfield 29, 3) := by decide +kernel
theorem dX7_lay_13 : decode cX7_lay 13 = .ok (.iconst 1, 1) := by decide +kernel
theorem dX7_lay_14 : decode cX7_lay 14 = .ok (.iaload, 1) := by decide +kernel
theorem dX7_lay_15 : decode cX7_lay 15 = .ok (.ifCond .ne 6, 3) := by decide +kernel
theorem dX7_lay_18 : decode cX7_lay 18 = .ok (.bipush (-2), 2) := by decide +kernel
theorem dX7_lay_20 : decode cX7_lay 20 = .ok (.ireturn, 1) := by decide +kernel
theorem dX7_lay_21 : decode cX7_lay 21 = .ok (.aload_n 0, 1) := by decide +kernel
theorem dX7_lay_22 : decode cX7_lay 22 = .ok (.invokevirtual 79, 3) := by decide +kernel
theorem dX7_lay_25 : decode cX7_lay 25 = .ok (.aload_n 0, 1) := by decide +kernel
theorem dX7_lay_26 : decode cX7_lay 26 = .ok (.getfield 13, 3) := by decide +kernel
theorem dX7_lay_29 : decode cX7_lay 29 = .ok (.iconst 0, 1) := by decide +kernel
theorem dX7_lay_30 : decode cX7_lay 30 = .ok (.iaload, 1) := by decide +kernel
theorem dX7_lay_31 : decode cX7_lay 31 = .ok (.ireturn, 1) := by decide +kernel
theorem dX7_copy_0 : decode cX7_copy 0 = .ok (.iconst 0, 1) := by decide +kernel
theorem dX7_copy_1 : decode cX7_copy 1 = .ok (.istore_n 3, 1) := by decide +kernel
theorem dX7_copy_2 : decode cX7_copy 2 = .ok (.iload_n 3, 1) := by decide +kernel
theorem dX7_copy_3 : decode cX7_copy 3 = .ok (.bipush 12, 2) := by decide +kernel
theorem dX7_copy_5 : decode cX7_copy 5 = .ok (.if_icmp .ge 25, 3) := by decide +kernel
theorem dX7_copy_8 : decode cX7_copy 8 = .ok (.aload_n 0, 1) := by decide +kernel
theorem dX7_copy_9 : decode cX7_copy 9 = .ok (.getfield 38, 3) := by decide +kernel
theorem dX7_copy_12 : decode cX7_copy 12 = .ok (.iload_n 2, 1) := by decide +kernel
theorem dX7_copy_13 : decode cX7_copy 13 = .ok (.iload_n 3, 1) := by decide +kernel
theorem dX7_copy_14 : decode cX7_copy 14 = .ok (.iadd, 1) := by decide +kernel
theorem dX7_copy_15 : decode cX7_copy 15 = .ok (.aload_n 0, 1) := by decide +kernel
theorem dX7_copy_16 : decode cX7_copy 16 = .ok (.getfield 38, 3) := by decide +kernel
theorem dX7_copy_19 : decode cX7_copy 19 = .ok (.iload_n 1, 1) := by decide +kernel
theorem dX7_copy_20 : decode cX7_copy 20 = .ok (.iload_n 3, 1) := by decide +kernel
theorem dX7_copy_21 : decode cX7_copy 21 = .ok (.iadd, 1) := by decide +kernel
theorem dX7_copy_22 : decode cX7_copy 22 = .ok (.iaload, 1) := by decide +kernel
theorem dX7_copy_23 : decode cX7_copy 23 = .ok (.iastore, 1) := by decide +kernel
theorem dX7_copy_24 : decode cX7_copy 24 = .ok (.iinc 3 1, 3) := by decide +kernel
theorem dX7_copy_27 : decode cX7_copy 27 = .ok (.goto (-25), 3) := by decide +kernel
theorem dX7_copy_30 : decode cX7_copy 30 = .ok (.return_, 1) := by decide +kernel
theorem dX7_know_0 : decode cX7_know 0 = .ok (.aload_n 0, 1) := by decide +kernel
theorem dX7_know_1 : decode cX7_know 1 = .ok (.getfield 112, 3) := by decide +kernel
theorem dX7_know_4 : decode cX7_know 4 = .ok (.bipush 8, 2) := by decide +kernel
theorem dX7_know_6 : decode cX7_know 6 = .ok (.if_icmp .ne 45, 3) := by decide +kernel
theorem dX7_know_9 : decode cX7_know 9 = .ok (.iconst 0, 1) := by decide +kernel
theorem dX7_know_10 : decode cX7_know 10 = .ok (.istore_n 1, 1) := by decide +kernel
theorem dX7_know_11 : decode cX7_know 11 = .ok (.iload_n 1, 1) := by decide +kernel
theorem dX7_know_12 : decode cX7_know 12 = .ok (.bipush 84, 2) := by decide +kernel
theorem dX7_know_14 : decode cX7_know 14 = .ok (.if_icmp .ge 27, 3) := by decide +kernel
theorem dX7_know_17 : decode cX7_know 17 = .ok (.aload_n 0, 1) := by decide +kernel
theorem dX7_know_18 : decode cX7_know 18 = .ok (.getfield 38, 3) := by decide +kernel
theorem dX7_know_21 : decode cX7_know 21 = .ok (.bipush 12, 2) := by decide +kernel
theorem dX7_know_23 : decode cX7_know 23 = .ok (.iload_n 1, 1) := by decide +kernel
theorem dX7_know_24 : decode cX7_know 24 = .ok (.iadd, 1) := by decide +kernel
theorem dX7_know_25 : decode cX7_know 25 = .ok (.aload_n 0, 1) := by decide +kernel
theorem dX7_know_26 : decode cX7_know 26 = .ok (.getfield 38, 3) := by decide +kernel
theorem dX7_know_29 : decode cX7_know 29 = .ok (.bipush 24, 2) := by decide +kernel
theorem dX7_know_31 : decode cX7_know 31 = .ok (.iload_n 1, 1) := by decide +kernel
theorem dX7_know_32 : decode cX7_know 32 = .ok (.iadd, 1) := by decide +kernel
theorem dX7_know_33 : decode cX7_know 33 = .ok (.iaload, 1) := by decide +kernel
theorem dX7_know_34 : decode cX7_know 34 = .ok (.iastore, 1) := by decide +kernel
theorem dX7_know_35 : decode cX7_know 35 = .ok (.iinc 1 1, 3) := by decide +kernel
theorem dX7_know_38 : decode cX7_know 38 = .ok (.goto (-27), 3) := by decide +kernel
theorem dX7_know_41 : decode cX7_know 41 = .ok (.aload_n 0, 1) := by decide +kernel
theorem dX7_know_42 : decode cX7_know 42 = .ok (.dup, 1) := by decide +kernel
theorem dX7_know_43 : decode cX7_know 43 = .ok (.getfield 112, 3) := by decide +kernel
theorem dX7_know_46 : decode cX7_know 46 = .ok (.iconst 1, 1) := by decide +kernel
theorem dX7_know_47 : decode cX7_know 47 = .ok (.isub, 1) := by decide +kernel
theorem dX7_know_48 : decode cX7_know 48 = .ok (.putfield 112, 3) := by decide +kernel
theorem dX7_know_51 : decode cX7_know 51 = .ok (.aload_n 0, 1) := by decide +kernel
theorem dX7_know_52 : decode cX7_know 52 = .ok (.iconst 0, 1) := by decide +kernel
theorem dX7_know_53 : decode cX7_know 53 = .ok (.bipush 12, 2) := by decide +kernel
theorem dX7_know_55 : decode cX7_know 55 = .ok (.bipush 12, 2) := by decide +kernel
theorem dX7_know_57 : decode cX7_know 57 = .ok (.aload_n 0, 1) := by decide +kernel
theorem dX7_know_58 : decode cX7_know 58 = .ok (.getfield 112, 3) := by decide +kernel
theorem dX7_know_61 : decode cX7_know 61 = .ok (.imul, 1) := by decide +kernel
theorem dX7_know_62 : decode cX7_know 62 = .ok (.iadd, 1) := by decide +kernel
theorem dX7_know_63 : decode cX7_know 63 = .ok (.invokevirtual 121, 3) := by decide +kernel
theorem dX7_know_66 : decode cX7_know 66 = .ok (.aload_n 0, 1) := by decide +kernel
theorem dX7_know_67 : decode cX7_know 67 = .ok (.dup, 1) := by decide +kernel
theorem dX7_know_68 : decode cX7_know 68 = .ok (.getfield 112, 3) := by decide +kernel
theorem dX7_know_71 : decode cX7_know 71 = .ok (.iconst 1, 1) := by decide +kernel
theorem dX7_know_72 : decode cX7_know 72 = .ok (.iadd, 1) := by decide +kernel
theorem dX7_know_73 : decode cX7_know 73 = .ok (.putfield 112, 3) := by decide +kernel
theorem dX7_know_76 : decode cX7_know 76 = .ok (.return_, 1) := by decide +kernel
theorem dX7_isStatement_0 : decode cX7_isStatement 0 = .ok (.iload_n 1, 1) := by decide +kernel
theorem dX7_isStatement_1 : decode cX7_isStatement 1 = .ok (.iconst 0, 1) := by decide +kernel
theorem dX7_isStatement_2 : decode cX7_isStatement 2 = .ok (.aload_n 0, 1) := by decide +kernel
theorem dX7_isStatement_3 : decode cX7_isStatement 3 = .ok (.getfield 13, 3) := by decide +kernel
theorem dX7_isStatement_6 : decode cX7_isStatement 6 = .ok (.iconst 0, 1) := by decide +kernel
theorem dX7_isStatement_7 : decode cX7_isStatement 7 = .ok (.iaload, 1) := by decide +kernel
theorem dX7_isStatement_8 : decode cX7_isStatement 8 = .ok (.iconst 1, 1) := by decide +kernel
theorem dX7_isStatement_9 : decode cX7_isStatement 9 = .ok (.isub, 1) := by decide +kernel
theorem dX7_isStatement_10 : decode cX7_isStatement 10 = .ok (.invokestatic 82, 3) := by decide +kernel
theorem dX7_isStatement_13 : decode cX7_isStatement 13 = .ok (.ireturn, 1) := by decide +kernel
theorem dX7_isVerdict_0 : decode cX7_isVerdict 0 = .ok (.aload_n 0, 1) := by decide +kernel
theorem dX7_isVerdict_1 : decode cX7_isVerdict 1 = .ok (.iload_n 1, 1) := by decide +kernel
theorem dX7_isVerdict_2 : decode cX7_isVerdict 2 = .ok (.invokevirtual 124, 3) := by decide +kernel
theorem dX7_isVerdict_5 : decode cX7_isVerdict 5 = .ok (.ifCond .eq 21, 3) := by decide +kernel
theorem dX7_isVerdict_8 : decode cX7_isVerdict 8 = .ok (.aload_n 0, 1) := by decide +kernel
theorem dX7_isVerdict_9 : decode cX7_isVerdict 9 = .ok (.getfield 29, 3) := by decide +kernel
theorem dX7_isVerdict_12 : decode cX7_isVerdict 12 = .ok (.iconst 0, 1) := by decide +kernel
theorem dX7_isVerdict_13 : decode cX7_isVerdict 13 = .ok (.iaload, 1) := by decide +kernel
theorem dX7_isVerdict_14 : decode cX7_isVerdict 14 = .ok (.iload_n 1, 1) := by decide +kernel
theorem dX7_isVerdict_15 : decode cX7_isVerdict 15 = .ok (.ishr, 1) := by decide +kernel
theorem dX7_isVerdict_16 : decode cX7_isVerdict 16 = .ok (.iconst 1, 1) := by decide +kernel
theorem dX7_isVerdict_17 : decode cX7_isVerdict 17 = .ok (.iand, 1) := by decide +kernel
theorem dX7_isVerdict_18 : decode cX7_isVerdict 18 = .ok (.iconst 1, 1) := by decide +kernel
theorem dX7_isVerdict_19 : decode cX7_isVerdict 19 = .ok (.if_icmp .ne 7, 3) := by decide +kernel
theorem dX7_isVerdict_22 : decode cX7_isVerdict 22 = .ok (.iconst 1, 1) := by decide +kernel
theorem dX7_isVerdict_23 : decode cX7_isVerdict 23 = .ok (.goto 4, 3) := by decide +kernel
theorem dX7_isVerdict_26 : decode cX7_isVerdict 26 = .ok (.iconst 0, 1) := by decide +kernel
theorem dX7_isVerdict_27 : decode cX7_isVerdict 27 = .ok (.ireturn, 1) := by decide +kernel
theorem dX7_isStruck_0 : decode cX7_isStruck 0 = .ok (.aload_n 0, 1) := by decide +kernel
theorem dX7_isStruck_1 : decode cX7_isStruck 1 = .ok (.getfield 38, 3) := by decide +kernel
theorem dX7_isStruck_4 : decode cX7_isStruck 4 = .ok (.iconst 1, 1) := by decide +kernel
theorem dX7_isStruck_5 : decode cX7_isStruck 5 = .ok (.iaload, 1) := by decide +kernel
theorem dX7_isStruck_6 : decode cX7_isStruck 6 = .ok (.iload_n 1, 1) := by decide +kernel
theorem dX7_isStruck_7 : decode cX7_isStruck 7 = .ok (.ishr, 1) := by decide +kernel
theorem dX7_isStruck_8 : decode cX7_isStruck 8 = .ok (.iconst 1, 1) := by decide +kernel
theorem dX7_isStruck_9 : decode cX7_isStruck 9 = .ok (.iand, 1) := by decide +kernel
theorem dX7_isStruck_10 : decode cX7_isStruck 10 = .ok (.iconst 1, 1) := by decide +kernel
theorem dX7_isStruck_11 : decode cX7_isStruck 11 = .ok (.if_icmp .ne 7, 3) := by decide +kernel
theorem dX7_isStruck_14 : decode cX7_isStruck 14 = .ok (.iconst 1, 1) := by decide +kernel
theorem dX7_isStruck_15 : decode cX7_isStruck 15 = .ok (.goto 4, 3) := by decide +kernel
theorem dX7_isStruck_18 : decode cX7_isStruck 18 = .ok (.iconst 0, 1) := by decide +kernel
theorem dX7_isStruck_19 : decode cX7_isStruck 19 = .ok (.ireturn, 1) := by decide +kernel
theorem dX7_statement_0 : decode cX7_statement 0 = .ok (.aload_n 0, 1) := by decide +kernel
theorem dX7_statement_1 : decode cX7_statement 1 = .ok (.iload_n 1, 1) := by decide +kernel
theorem dX7_statement_2 : decode cX7_statement 2 = .ok (.invokevirtual 124, 3) := by decide +kernel
theorem dX7_statement_5 : decode cX7_statement 5 = .ok (.ifCond .ne 5, 3) := by decide +kernel
theorem dX7_statement_8 : decode cX7_statement 8 = .ok (.iconst (-1), 1) := by decide +kernel
theorem dX7_statement_9 : decode cX7_statement 9 = .ok (.ireturn, 1) := by decide +kernel
theorem dX7_statement_10 : decode cX7_statement 10 = .ok (.iload_n 2, 1) := by decide +kernel
theorem dX7_statement_11 : decode cX7_statement 11 = .ok (.tableswitch 87 0 5 #[37, 44, 51, 58, 69, 76], 37) := by decide +kernel
theorem dX7_statement_48 : decode cX7_statement 48 = .ok (.aload_n 0, 1) := by decide +kernel
theorem dX7_statement_49 : decode cX7_statement 49 = .ok (.getfield 17, 3) := by decide +kernel
theorem dX7_statement_52 : decode cX7_statement 52 = .ok (.iload_n 1, 1) := by decide +kernel
theorem dX7_statement_53 : decode cX7_statement 53 = .ok (.iaload, 1) := by decide +kernel
theorem dX7_statement_54 : decode cX7_statement 54 = .ok (.ireturn, 1) := by decide +kernel
theorem dX7_statement_55 : decode cX7_statement 55 = .ok (.aload_n 0, 1) := by decide +kernel
theorem dX7_statement_56 : decode cX7_statement 56 = .ok (.getfield 20, 3) := by decide +kernel
theorem dX7_statement_59 : decode cX7_statement 59 = .ok (.iload_n 1, 1) := by decide +kernel
theorem dX7_statement_60 : decode cX7_statement 60 = .ok (.iaload, 1) := by decide +kernel
theorem dX7_statement_61 : decode cX7_statement 61 = .ok (.ireturn, 1) := by decide +kernel
theorem dX7_statement_62 : decode cX7_statement 62 = .ok (.aload_n 0, 1) := by decide +kernel
theorem dX7_statement_63 : decode cX7_statement 63 = .ok (.getfield 23, 3) := by decide +kernel
theorem dX7_statement_66 : decode cX7_statement 66 = .ok (.iload_n 1, 1) := by decide +kernel
theorem dX7_statement_67 : decode cX7_statement 67 = .ok (.iaload, 1) := by decide +kernel
theorem dX7_statement_68 : decode cX7_statement 68 = .ok (.ireturn, 1) := by decide +kernel
theorem dX7_statement_69 : decode cX7_statement 69 = .ok (.aload_n 0, 1) := by decide +kernel
theorem dX7_statement_70 : decode cX7_statement 70 = .ok (.getfield 29, 3) := by decide +kernel
theorem dX7_statement_73 : decode cX7_statement 73 = .ok (.iconst 0, 1) := by decide +kernel
theorem dX7_statement_74 : decode cX7_statement 74 = .ok (.iaload, 1) := by decide +kernel
theorem dX7_statement_75 : decode cX7_statement 75 = .ok (.iload_n 1, 1) := by decide +kernel
theorem dX7_statement_76 : decode cX7_statement 76 = .ok (.ishr, 1) := by decide +kernel
theorem dX7_statement_77 : decode cX7_statement 77 = .ok (.iconst 1, 1) := by decide +kernel
theorem dX7_statement_78 : decode cX7_statement 78 = .ok (.iand, 1) := by decide +kernel
theorem dX7_statement_79 : decode cX7_statement 79 = .ok (.ireturn, 1) := by decide +kernel
theorem dX7_statement_80 : decode cX7_statement 80 = .ok (.aload_n 0, 1) := by decide +kernel
theorem dX7_statement_81 : decode cX7_statement 81 = .ok (.getfield 26, 3) := by decide +kernel
theorem dX7_statement_84 : decode cX7_statement 84 = .ok (.iload_n 1, 1) := by decide +kernel
theorem dX7_statement_85 : decode cX7_statement 85 = .ok (.iaload, 1) := by decide +kernel
theorem dX7_statement_86 : decode cX7_statement 86 = .ok (.ireturn, 1) := by decide +kernel
theorem dX7_statement_87 : decode cX7_statement 87 = .ok (.aload_n 0, 1) := by decide +kernel
theorem dX7_statement_88 : decode cX7_statement 88 = .ok (.getfield 38, 3) := by decide +kernel
theorem dX7_statement_91 : decode cX7_statement 91 = .ok (.iconst 1, 1) := by decide +kernel
theorem dX7_statement_92 : decode cX7_statement 92 = .ok (.iaload, 1) := by decide +kernel
theorem dX7_statement_93 : decode cX7_statement 93 = .ok (.iload_n 1, 1) := by decide +kernel
theorem dX7_statement_94 : decode cX7_statement 94 = .ok (.ishr, 1) := by decide +kernel
theorem dX7_statement_95 : decode cX7_statement 95 = .ok (.iconst 1, 1) := by decide +kernel
theorem dX7_statement_96 : decode cX7_statement 96 = .ok (.iand, 1) := by decide +kernel
theorem dX7_statement_97 : decode cX7_statement 97 = .ok (.ireturn, 1) := by decide +kernel
theorem dX7_statement_98 : decode cX7_statement 98 = .ok (.iconst (-1), 1) := by decide +kernel
theorem dX7_statement_99 : decode cX7_statement 99 = .ok (.ireturn, 1) := by decide +kernel
theorem dX7_behind_0 : decode cX7_behind 0 = .ok (.aload_n 0, 1) := by decide +kernel
theorem dX7_behind_1 : decode cX7_behind 1 = .ok (.getfield 26, 3) := by decide +kernel
theorem dX7_behind_4 : decode cX7_behind 4 = .ok (.iload_n 1, 1) := by decide +kernel
theorem dX7_behind_5 : decode cX7_behind 5 = .ok (.iaload, 1) := by decide +kernel
theorem dX7_behind_6 : decode cX7_behind 6 = .ok (.iload_n 2, 1) := by decide +kernel
theorem dX7_behind_7 : decode cX7_behind 7 = .ok (.iconst (-1), 1) := by decide +kernel
theorem dX7_behind_8 : decode cX7_behind 8 = .ok (.ixor, 1) := by decide +kernel
theorem dX7_behind_9 : decode cX7_behind 9 = .ok (.iand, 1) := by decide +kernel
theorem dX7_behind_10 : decode cX7_behind 10 = .ok (.aload_n 0, 1) := by decide +kernel
theorem dX7_behind_11 : decode cX7_behind 11 = .ok (.getfield 38, 3) := by decide +kernel
theorem dX7_behind_14 : decode cX7_behind 14 = .ok (.iconst 1, 1) := by decide +kernel
theorem dX7_behind_15 : decode cX7_behind 15 = .ok (.iaload, 1) := by decide +kernel
theorem dX7_behind_16 : decode cX7_behind 16 = .ok (.iconst (-1), 1) := by decide +kernel
theorem dX7_behind_17 : decode cX7_behind 17 = .ok (.ixor, 1) := by decide +kernel
theorem dX7_behind_18 : decode cX7_behind 18 = .ok (.iand, 1) := by decide +kernel
theorem dX7_behind_19 : decode cX7_behind 19 = .ok (.ireturn, 1) := by decide +kernel
theorem dX7_said_0 : decode cX7_said 0 = .ok (.iconst 0, 1) := by decide +kernel
theorem dX7_said_1 : decode cX7_said 1 = .ok (.istore_n 1, 1) := by decide +kernel
theorem dX7_said_2 : decode cX7_said 2 = .ok (.iconst 0, 1) := by decide +kernel
theorem dX7_said_3 : decode cX7_said 3 = .ok (.istore_n 2, 1) := by decide +kernel
theorem dX7_said_4 : decode cX7_said 4 = .ok (.iload_n 2, 1) := by decide +kernel
theorem dX7_said_5 : decode cX7_said 5 = .ok (.aload_n 0, 1) := by decide +kernel
theorem dX7_said_6 : decode cX7_said 6 = .ok (.getfield 38, 3) := by decide +kernel
theorem dX7_said_9 : decode cX7_said 9 = .ok (.iconst 0, 1) := by decide +kernel
theorem dX7_said_10 : decode cX7_said 10 = .ok (.iaload, 1) := by decide +kernel
theorem dX7_said_11 : decode cX7_said 11 = .ok (.if_icmp .ge 22, 3) := by decide +kernel
theorem dX7_said_14 : decode cX7_said 14 = .ok (.iload_n 1, 1) := by decide +kernel
theorem dX7_said_15 : decode cX7_said 15 = .ok (.iconst 1, 1) := by decide +kernel
theorem dX7_said_16 : decode cX7_said 16 = .ok (.aload_n 0, 1) := by decide +kernel
theorem dX7_said_17 : decode cX7_said 17 = .ok (.getfield 38, 3) := by decide +kernel
theorem dX7_said_20 : decode cX7_said 20 = .ok (.iconst 2, 1) := by decide +kernel
theorem dX7_said_21 : decode cX7_said 21 = .ok (.iload_n 2, 1) := by decide +kernel
theorem dX7_said_22 : decode cX7_said 22 = .ok (.iadd, 1) := by decide +kernel
theorem dX7_said_23 : decode cX7_said 23 = .ok (.iaload, 1) := by decide +kernel
theorem dX7_said_24 : decode cX7_said 24 = .ok (.ishl, 1) := by decide +kernel
theorem dX7_said_25 : decode cX7_said 25 = .ok (.ior, 1) := by decide +kernel
theorem dX7_said_26 : decode cX7_said 26 = .ok (.istore_n 1, 1) := by decide +kernel
theorem dX7_said_27 : decode cX7_said 27 = .ok (.iinc 2 1, 3) := by decide +kernel
theorem dX7_said_30 : decode cX7_said 30 = .ok (.goto (-26), 3) := by decide +kernel
theorem dX7_said_33 : decode cX7_said 33 = .ok (.iload_n 1, 1) := by decide +kernel
theorem dX7_said_34 : decode cX7_said 34 = .ok (.ireturn, 1) := by decide +kernel
theorem dX7_next_0 : decode cX7_next 0 = .ok (.aload_n 0, 1) := by decide +kernel
theorem dX7_next_1 : decode cX7_next 1 = .ok (.getfield 38, 3) := by decide +kernel
theorem dX7_next_4 : decode cX7_next 4 = .ok (.iconst 0, 1) := by decide +kernel
theorem dX7_next_5 : decode cX7_next 5 = .ok (.iaload, 1) := by decide +kernel
theorem dX7_next_6 : decode cX7_next 6 = .ok (.ifCond .ne 19, 3) := by decide +kernel
theorem dX7_next_9 : decode cX7_next 9 = .ok (.aload_n 0, 1) := by decide +kernel
theorem dX7_next_10 : decode cX7_next 10 = .ok (.getfield 29, 3) := by decide +kernel
theorem dX7_next_13 : decode cX7_next 13 = .ok (.iconst 0, 1) := by decide +kernel
theorem dX7_next_14 : decode cX7_next 14 = .ok (.iaload, 1) := by decide +kernel
theorem dX7_next_15 : decode cX7_next 15 = .ok (.aload_n 0, 1) := by decide +kernel
theorem dX7_next_16 : decode cX7_next 16 = .ok (.getfield 38, 3) := by decide +kernel
theorem dX7_next_19 : decode cX7_next 19 = .ok (.iconst 1, 1) := by decide +kernel
theorem dX7_next_20 : decode cX7_next 20 = .ok (.iaload, 1) := by decide +kernel
theorem dX7_next_21 : decode cX7_next 21 = .ok (.iconst (-1), 1) := by decide +kernel
theorem dX7_next_22 : decode cX7_next 22 = .ok (.ixor, 1) := by decide +kernel
theorem dX7_next_23 : decode cX7_next 23 = .ok (.iand, 1) := by decide +kernel
theorem dX7_next_24 : decode cX7_next 24 = .ok (.ireturn, 1) := by decide +kernel
theorem dX7_next_25 : decode cX7_next 25 = .ok (.aload_n 0, 1) := by decide +kernel
theorem dX7_next_26 : decode cX7_next 26 = .ok (.aload_n 0, 1) := by decide +kernel
theorem dX7_next_27 : decode cX7_next 27 = .ok (.getfield 38, 3) := by decide +kernel
theorem dX7_next_30 : decode cX7_next 30 = .ok (.iconst 2, 1) := by decide +kernel
theorem dX7_next_31 : decode cX7_next 31 = .ok (.aload_n 0, 1) := by decide +kernel
theorem dX7_next_32 : decode cX7_next 32 = .ok (.getfield 38, 3) := by decide +kernel
theorem dX7_next_35 : decode cX7_next 35 = .ok (.iconst 0, 1) := by decide +kernel
theorem dX7_next_36 : decode cX7_next 36 = .ok (.iaload, 1) := by decide +kernel
theorem dX7_next_37 : decode cX7_next 37 = .ok (.iadd, 1) := by decide +kernel
theorem dX7_next_38 : decode cX7_next 38 = .ok (.iconst 1, 1) := by decide +kernel
theorem dX7_next_39 : decode cX7_next 39 = .ok (.isub, 1) := by decide +kernel
theorem dX7_next_40 : decode cX7_next 40 = .ok (.iaload, 1) := by decide +kernel
theorem dX7_next_41 : decode cX7_next 41 = .ok (.aload_n 0, 1) := by decide +kernel
theorem dX7_next_42 : decode cX7_next 42 = .ok (.invokevirtual 128, 3) := by decide +kernel
theorem dX7_next_45 : decode cX7_next 45 = .ok (.invokevirtual 131, 3) := by decide +kernel
theorem dX7_next_48 : decode cX7_next 48 = .ok (.ireturn, 1) := by decide +kernel
theorem dX7_argue_0 : decode cX7_argue 0 = .ok (.aload_n 0, 1) := by decide +kernel
theorem dX7_argue_1 : decode cX7_argue 1 = .ok (.iload_n 1, 1) := by decide +kernel
theorem dX7_argue_2 : decode cX7_argue 2 = .ok (.invokevirtual 124, 3) := by decide +kernel
theorem dX7_argue_5 : decode cX7_argue 5 = .ok (.ifCond .ne 5, 3) := by decide +kernel
theorem dX7_argue_8 : decode cX7_argue 8 = .ok (.iconst (-1), 1) := by decide +kernel
theorem dX7_argue_9 : decode cX7_argue 9 = .ok (.ireturn, 1) := by decide +kernel
theorem dX7_argue_10 : decode cX7_argue 10 = .ok (.aload_n 0, 1) := by decide +kernel
theorem dX7_argue_11 : decode cX7_argue 11 = .ok (.invokevirtual 135, 3) := by decide +kernel
theorem dX7_argue_14 : decode cX7_argue 14 = .ok (.iload_n 1, 1) := by decide +kernel
theorem dX7_argue_15 : decode cX7_argue 15 = .ok (.ishr, 1) := by decide +kernel
theorem dX7_argue_16 : decode cX7_argue 16 = .ok (.iconst 1, 1) := by decide +kernel
theorem dX7_argue_17 : decode cX7_argue 17 = .ok (.iand, 1) := by decide +kernel
theorem dX7_argue_18 : decode cX7_argue 18 = .ok (.ifCond .ne 6, 3) := by decide +kernel
theorem dX7_argue_21 : decode cX7_argue 21 = .ok (.bipush (-2), 2) := by decide +kernel
theorem dX7_argue_23 : decode cX7_argue 23 = .ok (.ireturn, 1) := by decide +kernel
theorem dX7_argue_24 : decode cX7_argue 24 = .ok (.aload_n 0, 1) := by decide +kernel
theorem dX7_argue_25 : decode cX7_argue 25 = .ok (.invokevirtual 138, 3) := by decide +kernel
theorem dX7_argue_28 : decode cX7_argue 28 = .ok (.aload_n 0, 1) := by decide +kernel
theorem dX7_argue_29 : decode cX7_argue 29 = .ok (.getfield 38, 3) := by decide +kernel
theorem dX7_argue_32 : decode cX7_argue 32 = .ok (.iconst 2, 1) := by decide +kernel
theorem dX7_argue_33 : decode cX7_argue 33 = .ok (.aload_n 0, 1) := by decide +kernel
theorem dX7_argue_34 : decode cX7_argue 34 = .ok (.getfield 38, 3) := by decide +kernel
theorem dX7_argue_37 : decode cX7_argue 37 = .ok (.iconst 0, 1) := by decide +kernel
theorem dX7_argue_38 : decode cX7_argue 38 = .ok (.iaload, 1) := by decide +kernel
theorem dX7_argue_39 : decode cX7_argue 39 = .ok (.iadd, 1) := by decide +kernel
theorem dX7_argue_40 : decode cX7_argue 40 = .ok (.iload_n 1, 1) := by decide +kernel
theorem dX7_argue_41 : decode cX7_argue 41 = .ok (.iastore, 1) := by decide +kernel
theorem dX7_argue_42 : decode cX7_argue 42 = .ok (.aload_n 0, 1) := by decide +kernel
theorem dX7_argue_43 : decode cX7_argue 43 = .ok (.getfield 38, 3) := by decide +kernel
theorem dX7_argue_46 : decode cX7_argue 46 = .ok (.iconst 0, 1) := by decide +kernel
theorem dX7_argue_47 : decode cX7_argue 47 = .ok (.dup2, 1) := by decide +kernel
theorem dX7_argue_48 : decode cX7_argue 48 = .ok (.iaload, 1) := by decide +kernel
theorem dX7_argue_49 : decode cX7_argue 49 = .ok (.iconst 1, 1) := by decide +kernel
theorem dX7_argue_50 : decode cX7_argue 50 = .ok (.iadd, 1) := by decide +kernel
theorem dX7_argue_51 : decode cX7_argue 51 = .ok (.iastore, 1) := by decide +kernel
theorem dX7_argue_52 : decode cX7_argue 52 = .ok (.aload_n 0, 1) := by decide +kernel
theorem dX7_argue_53 : decode cX7_argue 53 = .ok (.getfield 38, 3) := by decide +kernel
theorem dX7_argue_56 : decode cX7_argue 56 = .ok (.iconst 0, 1) := by decide +kernel
theorem dX7_argue_57 : decode cX7_argue 57 = .ok (.iaload, 1) := by decide +kernel
theorem dX7_argue_58 : decode cX7_argue 58 = .ok (.ireturn, 1) := by decide +kernel
theorem dX7_drop_0 : decode cX7_drop 0 = .ok (.aload_n 0, 1) := by decide +kernel
theorem dX7_drop_1 : decode cX7_drop 1 = .ok (.getfield 38, 3) := by decide +kernel
theorem dX7_drop_4 : decode cX7_drop 4 = .ok (.iconst 0, 1) := by decide +kernel
theorem dX7_drop_5 : decode cX7_drop 5 = .ok (.iaload, 1) := by decide +kernel
theorem dX7_drop_6 : decode cX7_drop 6 = .ok (.istore_n 1, 1) := by decide +kernel
theorem dX7_drop_7 : decode cX7_drop 7 = .ok (.aload_n 0, 1) := by decide +kernel
theorem dX7_drop_8 : decode cX7_drop 8 = .ok (.invokevirtual 138, 3) := by decide +kernel
theorem dX7_drop_11 : decode cX7_drop 11 = .ok (.aload_n 0, 1) := by decide +kernel
theorem dX7_drop_12 : decode cX7_drop 12 = .ok (.getfield 38, 3) := by decide +kernel
theorem dX7_drop_15 : decode cX7_drop 15 = .ok (.iconst 0, 1) := by decide +kernel
theorem dX7_drop_16 : decode cX7_drop 16 = .ok (.iconst 0, 1) := by decide +kernel
theorem dX7_drop_17 : decode cX7_drop 17 = .ok (.iastore, 1) := by decide +kernel
theorem dX7_drop_18 : decode cX7_drop 18 = .ok (.iload_n 1, 1) := by decide +kernel
theorem dX7_drop_19 : decode cX7_drop 19 = .ok (.ireturn, 1) := by decide +kernel
theorem dX7_strike_0 : decode cX7_strike 0 = .ok (.aload_n 0, 1) := by decide +kernel
theorem dX7_strike_1 : decode cX7_strike 1 = .ok (.iload_n 1, 1) := by decide +kernel
theorem dX7_strike_2 : decode cX7_strike 2 = .ok (.invokevirtual 124, 3) := by decide +kernel
theorem dX7_strike_5 : decode cX7_strike 5 = .ok (.ifCond .ne 5, 3) := by decide +kernel
theorem dX7_strike_8 : decode cX7_strike 8 = .ok (.iconst (-1), 1) := by decide +kernel
theorem dX7_strike_9 : decode cX7_strike 9 = .ok (.ireturn, 1) := by decide +kernel
theorem dX7_strike_10 : decode cX7_strike 10 = .ok (.aload_n 0, 1) := by decide +kernel
theorem dX7_strike_11 : decode cX7_strike 11 = .ok (.invokevirtual 128, 3) := by decide +kernel
theorem dX7_strike_14 : decode cX7_strike 14 = .ok (.iload_n 1, 1) := by decide +kernel
theorem dX7_strike_15 : decode cX7_strike 15 = .ok (.ishr, 1) := by decide +kernel
theorem dX7_strike_16 : decode cX7_strike 16 = .ok (.iconst 1, 1) := by decide +kernel
theorem dX7_strike_17 : decode cX7_strike 17 = .ok (.iand, 1) := by decide +kernel
theorem dX7_strike_18 : decode cX7_strike 18 = .ok (.iconst 1, 1) := by decide +kernel
theorem dX7_strike_19 : decode cX7_strike 19 = .ok (.if_icmp .ne 6, 3) := by decide +kernel
theorem dX7_strike_22 : decode cX7_strike 22 = .ok (.bipush (-2), 2) := by decide +kernel
theorem dX7_strike_24 : decode cX7_strike 24 = .ok (.ireturn, 1) := by decide +kernel
theorem dX7_strike_25 : decode cX7_strike 25 = .ok (.aload_n 0, 1) := by decide +kernel
theorem dX7_strike_26 : decode cX7_strike 26 = .ok (.invokevirtual 138, 3) := by decide +kernel
theorem dX7_strike_29 : decode cX7_strike 29 = .ok (.aload_n 0, 1) := by decide +kernel
theorem dX7_strike_30 : decode cX7_strike 30 = .ok (.getfield 38, 3) := by decide +kernel
theorem dX7_strike_33 : decode cX7_strike 33 = .ok (.iconst 1, 1) := by decide +kernel
theorem dX7_strike_34 : decode cX7_strike 34 = .ok (.dup2, 1) := by decide +kernel
theorem dX7_strike_35 : decode cX7_strike 35 = .ok (.iaload, 1) := by decide +kernel
theorem dX7_strike_36 : decode cX7_strike 36 = .ok (.iconst 1, 1) := by decide +kernel
theorem dX7_strike_37 : decode cX7_strike 37 = .ok (.iload_n 1, 1) := by decide +kernel
theorem dX7_strike_38 : decode cX7_strike 38 = .ok (.ishl, 1) := by decide +kernel
theorem dX7_strike_39 : decode cX7_strike 39 = .ok (.ixor, 1) := by decide +kernel
theorem dX7_strike_40 : decode cX7_strike 40 = .ok (.iastore, 1) := by decide +kernel
theorem dX7_strike_41 : decode cX7_strike 41 = .ok (.aload_n 0, 1) := by decide +kernel
theorem dX7_strike_42 : decode cX7_strike 42 = .ok (.getfield 38, 3) := by decide +kernel
theorem dX7_strike_45 : decode cX7_strike 45 = .ok (.iconst 1, 1) := by decide +kernel
theorem dX7_strike_46 : decode cX7_strike 46 = .ok (.iaload, 1) := by decide +kernel
theorem dX7_strike_47 : decode cX7_strike 47 = .ok (.iload_n 1, 1) := by decide +kernel
theorem dX7_strike_48 : decode cX7_strike 48 = .ok (.ishr, 1) := by decide +kernel
theorem dX7_strike_49 : decode cX7_strike 49 = .ok (.iconst 1, 1) := by decide +kernel
theorem dX7_strike_50 : decode cX7_strike 50 = .ok (.iand, 1) := by decide +kernel
theorem dX7_strike_51 : decode cX7_strike 51 = .ok (.ireturn, 1) := by decide +kernel
theorem dX7_undo_0 : decode cX7_undo 0 = .ok (.aload_n 0, 1) := by decide +kernel
theorem dX7_undo_1 : decode cX7_undo 1 = .ok (.getfield 112, 3) := by decide +kernel
theorem dX7_undo_4 : decode cX7_undo 4 = .ok (.ifCond .ne 6, 3) := by decide +kernel
theorem dX7_undo_7 : decode cX7_undo 7 = .ok (.bipush (-2), 2) := by decide +kernel
theorem dX7_undo_9 : decode cX7_undo 9 = .ok (.ireturn, 1) := by decide +kernel
theorem dX7_undo_10 : decode cX7_undo 10 = .ok (.aload_n 0, 1) := by decide +kernel
theorem dX7_undo_11 : decode cX7_undo 11 = .ok (.dup, 1) := by decide +kernel
theorem dX7_undo_12 : decode cX7_undo 12 = .ok (.getfield 112, 3) := by decide +kernel
theorem dX7_undo_15 : decode cX7_undo 15 = .ok (.iconst 1, 1) := by decide +kernel
theorem dX7_undo_16 : decode cX7_undo 16 = .ok (.isub, 1) := by decide +kernel
theorem dX7_undo_17 : decode cX7_undo 17 = .ok (.putfield 112, 3) := by decide +kernel
theorem dX7_undo_20 : decode cX7_undo 20 = .ok (.aload_n 0, 1) := by decide +kernel
theorem dX7_undo_21 : decode cX7_undo 21 = .ok (.bipush 12, 2) := by decide +kernel
theorem dX7_undo_23 : decode cX7_undo 23 = .ok (.bipush 12, 2) := by decide +kernel
theorem dX7_undo_25 : decode cX7_undo 25 = .ok (.aload_n 0, 1) := by decide +kernel
theorem dX7_undo_26 : decode cX7_undo 26 = .ok (.getfield 112, 3) := by decide +kernel
theorem dX7_undo_29 : decode cX7_undo 29 = .ok (.imul, 1) := by decide +kernel
theorem dX7_undo_30 : decode cX7_undo 30 = .ok (.iadd, 1) := by decide +kernel
theorem dX7_undo_31 : decode cX7_undo 31 = .ok (.iconst 0, 1) := by decide +kernel
theorem dX7_undo_32 : decode cX7_undo 32 = .ok (.invokevirtual 121, 3) := by decide +kernel
theorem dX7_undo_35 : decode cX7_undo 35 = .ok (.aload_n 0, 1) := by decide +kernel
theorem dX7_undo_36 : decode cX7_undo 36 = .ok (.getfield 112, 3) := by decide +kernel
theorem dX7_undo_39 : decode cX7_undo 39 = .ok (.ireturn, 1) := by decide +kernel
theorem dX7_argued_0 : decode cX7_argued 0 = .ok (.iload_n 1, 1) := by decide +kernel
theorem dX7_argued_1 : decode cX7_argued 1 = .ok (.iconst 0, 1) := by decide +kernel
theorem dX7_argued_2 : decode cX7_argued 2 = .ok (.aload_n 0, 1) := by decide +kernel
theorem dX7_argued_3 : decode cX7_argued 3 = .ok (.getfield 38, 3) := by decide +kernel
theorem dX7_argued_6 : decode cX7_argued 6 = .ok (.iconst 0, 1) := by decide +kernel
theorem dX7_argued_7 : decode cX7_argued 7 = .ok (.iaload, 1) := by decide +kernel
theorem dX7_argued_8 : decode cX7_argued 8 = .ok (.iconst 1, 1) := by decide +kernel
theorem dX7_argued_9 : decode cX7_argued 9 = .ok (.isub, 1) := by decide +kernel
theorem dX7_argued_10 : decode cX7_argued 10 = .ok (.invokestatic 82, 3) := by decide +kernel
theorem dX7_argued_13 : decode cX7_argued 13 = .ok (.ifCond .eq 14, 3) := by decide +kernel
theorem dX7_argued_16 : decode cX7_argued 16 = .ok (.aload_n 0, 1) := by decide +kernel
theorem dX7_argued_17 : decode cX7_argued 17 = .ok (.getfield 38, 3) := by decide +kernel
theorem dX7_argued_20 : decode cX7_argued 20 = .ok (.iconst 2, 1) := by decide +kernel
theorem dX7_argued_21 : decode cX7_argued 21 = .ok (.iload_n 1, 1) := by decide +kernel
theorem dX7_argued_22 : decode cX7_argued 22 = .ok (.iadd, 1) := by decide +kernel
theorem dX7_argued_23 : decode cX7_argued 23 = .ok (.iaload, 1) := by decide +kernel
theorem dX7_argued_24 : decode cX7_argued 24 = .ok (.goto 4, 3) := by decide +kernel
theorem dX7_argued_27 : decode cX7_argued 27 = .ok (.iconst (-1), 1) := by decide +kernel
theorem dX7_argued_28 : decode cX7_argued 28 = .ok (.ireturn, 1) := by decide +kernel
theorem dX7_cost_0 : decode cX7_cost 0 = .ok (.aload_n 0, 1) := by decide +kernel
theorem dX7_cost_1 : decode cX7_cost 1 = .ok (.getfield 20, 3) := by decide +kernel
theorem dX7_cost_4 : decode cX7_cost 4 = .ok (.iload_n 1, 1) := by decide +kernel
theorem dX7_cost_5 : decode cX7_cost 5 = .ok (.iaload, 1) := by decide +kernel
theorem dX7_cost_6 : decode cX7_cost 6 = .ok (.istore 4, 2) := by decide +kernel
theorem dX7_cost_8 : decode cX7_cost 8 = .ok (.aload_n 0, 1) := by decide +kernel
theorem dX7_cost_9 : decode cX7_cost 9 = .ok (.getfield 17, 3) := by decide +kernel
theorem dX7_cost_12 : decode cX7_cost 12 = .ok (.iload_n 1, 1) := by decide +kernel
theorem dX7_cost_13 : decode cX7_cost 13 = .ok (.iaload, 1) := by decide +kernel
theorem dX7_cost_14 : decode cX7_cost 14 = .ok (.tableswitch 62 1 3 #[26, 52, 57], 26) := by decide +kernel
theorem dX7_cost_40 : decode cX7_cost 40 = .ok (.iload_n 3, 1) := by decide +kernel
theorem dX7_cost_41 : decode cX7_cost 41 = .ok (.bipush (-4), 2) := by decide +kernel
theorem dX7_cost_43 : decode cX7_cost 43 = .ok (.if_icmp .eq 20, 3) := by decide +kernel
theorem dX7_cost_46 : decode cX7_cost 46 = .ok (.aload_n 0, 1) := by decide +kernel
theorem dX7_cost_47 : decode cX7_cost 47 = .ok (.getfield 17, 3) := by decide +kernel
theorem dX7_cost_50 : decode cX7_cost 50 = .ok (.iload_n 3, 1) := by decide +kernel
theorem dX7_cost_51 : decode cX7_cost 51 = .ok (.iaload, 1) := by decide +kernel
theorem dX7_cost_52 : decode cX7_cost 52 = .ok (.iconst 1, 1) := by decide +kernel
theorem dX7_cost_53 : decode cX7_cost 53 = .ok (.if_icmp .ne 10, 3) := by decide +kernel
theorem dX7_cost_56 : decode cX7_cost 56 = .ok (.iload 4, 2) := by decide +kernel
theorem dX7_cost_58 : decode cX7_cost 58 = .ok (.iconst 2, 1) := by decide +kernel
theorem dX7_cost_59 : decode cX7_cost 59 = .ok (.iadd, 1) := by decide +kernel
theorem dX7_cost_60 : decode cX7_cost 60 = .ok (.goto 5, 3) := by decide +kernel
theorem dX7_cost_63 : decode cX7_cost 63 = .ok (.iload 4, 2) := by decide +kernel
theorem dX7_cost_65 : decode cX7_cost 65 = .ok (.ireturn, 1) := by decide +kernel
theorem dX7_cost_66 : decode cX7_cost 66 = .ok (.iconst 2, 1) := by decide +kernel
theorem dX7_cost_67 : decode cX7_cost 67 = .ok (.iload 4, 2) := by decide +kernel
theorem dX7_cost_69 : decode cX7_cost 69 = .ok (.imul, 1) := by decide +kernel
theorem dX7_cost_70 : decode cX7_cost 70 = .ok (.ireturn, 1) := by decide +kernel
theorem dX7_cost_71 : decode cX7_cost 71 = .ok (.iload 4, 2) := by decide +kernel
theorem dX7_cost_73 : decode cX7_cost 73 = .ok (.iload_n 2, 1) := by decide +kernel
theorem dX7_cost_74 : decode cX7_cost 74 = .ok (.iadd, 1) := by decide +kernel
theorem dX7_cost_75 : decode cX7_cost 75 = .ok (.ireturn, 1) := by decide +kernel
theorem dX7_cost_76 : decode cX7_cost 76 = .ok (.iload 4, 2) := by decide +kernel
theorem dX7_cost_78 : decode cX7_cost 78 = .ok (.ireturn, 1) := by decide +kernel
theorem dX7_trial_0 : decode cX7_trial 0 = .ok (.iload_n 1, 1) := by decide +kernel
theorem dX7_trial_1 : decode cX7_trial 1 = .ok (.iconst 0, 1) := by decide +kernel
theorem dX7_trial_2 : decode cX7_trial 2 = .ok (.iconst 2, 1) := by decide +kernel
theorem dX7_trial_3 : decode cX7_trial 3 = .ok (.invokestatic 82, 3) := by decide +kernel
theorem dX7_trial_6 : decode cX7_trial 6 = .ok (.ifCond .ne 5, 3) := by decide +kernel
theorem dX7_trial_9 : decode cX7_trial 9 = .ok (.iconst (-1), 1) := by decide +kernel
theorem dX7_trial_10 : decode cX7_trial 10 = .ok (.ireturn, 1) := by decide +kernel
theorem dX7_trial_11 : decode cX7_trial 11 = .ok (.iconst 0, 1) := by decide +kernel
theorem dX7_trial_12 : decode cX7_trial 12 = .ok (.istore_n 2, 1) := by decide +kernel
theorem dX7_trial_13 : decode cX7_trial 13 = .ok (.iconst 0, 1) := by decide +kernel
theorem dX7_trial_14 : decode cX7_trial 14 = .ok (.istore_n 3, 1) := by decide +kernel
theorem dX7_trial_15 : decode cX7_trial 15 = .ok (.iload_n 3, 1) := by decide +kernel
theorem dX7_trial_16 : decode cX7_trial 16 = .ok (.aload_n 0, 1) := by decide +kernel
theorem dX7_trial_17 : decode cX7_trial 17 = .ok (.getfield 38, 3) := by decide +kernel
theorem dX7_trial_20 : decode cX7_trial 20 = .ok (.iconst 0, 1) := by decide +kernel
theorem dX7_trial_21 : decode cX7_trial 21 = .ok (.iaload, 1) := by decide +kernel
theorem dX7_trial_22 : decode cX7_trial 22 = .ok (.if_icmp .ge 44, 3) := by decide +kernel
theorem dX7_trial_25 : decode cX7_trial 25 = .ok (.iload_n 2, 1) := by decide +kernel
theorem dX7_trial_26 : decode cX7_trial 26 = .ok (.aload_n 0, 1) := by decide +kernel
theorem dX7_trial_27 : decode cX7_trial 27 = .ok (.aload_n 0, 1) := by decide +kernel
theorem dX7_trial_28 : decode cX7_trial 28 = .ok (.getfield 38, 3) := by decide +kernel
theorem dX7_trial_31 : decode cX7_trial 31 = .ok (.iconst 2, 1) := by decide +kernel
theorem dX7_trial_32 : decode cX7_trial 32 = .ok (.iload_n 3, 1) := by decide +kernel
theorem dX7_trial_33 : decode cX7_trial 33 = .ok (.iadd, 1) := by decide +kernel
theorem dX7_trial_34 : decode cX7_trial 34 = .ok (.iaload, 1) := by decide +kernel
theorem dX7_trial_35 : decode cX7_trial 35 = .ok (.iload_n 3, 1) := by decide +kernel
theorem dX7_trial_36 : decode cX7_trial 36 = .ok (.iload_n 3, 1) := by decide +kernel
theorem dX7_trial_37 : decode cX7_trial 37 = .ok (.ifCond .ne 8, 3) := by decide +kernel
theorem dX7_trial_40 : decode cX7_trial 40 = .ok (.bipush (-4), 2) := by decide +kernel
theorem dX7_trial_42 : decode cX7_trial 42 = .ok (.goto 13, 3) := by decide +kernel
theorem dX7_trial_45 : decode cX7_trial 45 = .ok (.aload_n 0, 1) := by decide +kernel
theorem dX7_trial_46 : decode cX7_trial 46 = .ok (.getfield 38, 3) := by decide +kernel
theorem dX7_trial_49 : decode cX7_trial 49 = .ok (.iconst 2, 1) := by decide +kernel
theorem dX7_trial_50 : decode cX7_trial 50 = .ok (.iload_n 3, 1) := by decide +kernel
theorem dX7_trial_51 : decode cX7_trial 51 = .ok (.iadd, 1) := by decide +kernel
theorem dX7_trial_52 : decode cX7_trial 52 = .ok (.iconst 1, 1) := by decide +kernel
theorem dX7_trial_53 : decode cX7_trial 53 = .ok (.isub, 1) := by decide +kernel
theorem dX7_trial_54 : decode cX7_trial 54 = .ok (.iaload, 1) := by decide +kernel
theorem dX7_trial_55 : decode cX7_trial 55 = .ok (.invokevirtual 141, 3) := by decide +kernel
theorem dX7_trial_58 : decode cX7_trial 58 = .ok (.iadd, 1) := by decide +kernel
theorem dX7_trial_59 : decode cX7_trial 59 = .ok (.istore_n 2, 1) := by decide +kernel
theorem dX7_trial_60 : decode cX7_trial 60 = .ok (.iinc 3 1, 3) := by decide +kernel
theorem dX7_trial_63 : decode cX7_trial 63 = .ok (.goto (-48), 3) := by decide +kernel
theorem dX7_trial_66 : decode cX7_trial 66 = .ok (.aload_n 0, 1) := by decide +kernel
theorem dX7_trial_67 : decode cX7_trial 67 = .ok (.getfield 38, 3) := by decide +kernel
theorem dX7_trial_70 : decode cX7_trial 70 = .ok (.iconst 0, 1) := by decide +kernel
theorem dX7_trial_71 : decode cX7_trial 71 = .ok (.iaload, 1) := by decide +kernel
theorem dX7_trial_72 : decode cX7_trial 72 = .ok (.ifCond .le 31, 3) := by decide +kernel
theorem dX7_trial_75 : decode cX7_trial 75 = .ok (.aload_n 0, 1) := by decide +kernel
theorem dX7_trial_76 : decode cX7_trial 76 = .ok (.getfield 17, 3) := by decide +kernel
theorem dX7_trial_79 : decode cX7_trial 79 = .ok (.aload_n 0, 1) := by decide +kernel
theorem dX7_trial_80 : decode cX7_trial 80 = .ok (.getfield 38, 3) := by decide +kernel
theorem dX7_trial_83 : decode cX7_trial 83 = .ok (.iconst 2, 1) := by decide +kernel
theorem dX7_trial_84 : decode cX7_trial 84 = .ok (.aload_n 0, 1) := by decide +kernel
theorem dX7_trial_85 : decode cX7_trial 85 = .ok (.getfield 38, 3) := by decide +kernel
theorem dX7_trial_88 : decode cX7_trial 88 = .ok (.iconst 0, 1) := by decide +kernel
theorem dX7_trial_89 : decode cX7_trial 89 = .ok (.iaload, 1) := by decide +kernel
theorem dX7_trial_90 : decode cX7_trial 90 = .ok (.iadd, 1) := by decide +kernel
theorem dX7_trial_91 : decode cX7_trial 91 = .ok (.iconst 1, 1) := by decide +kernel
theorem dX7_trial_92 : decode cX7_trial 92 = .ok (.isub, 1) := by decide +kernel
theorem dX7_trial_93 : decode cX7_trial 93 = .ok (.iaload, 1) := by decide +kernel
theorem dX7_trial_94 : decode cX7_trial 94 = .ok (.iaload, 1) := by decide +kernel
theorem dX7_trial_95 : decode cX7_trial 95 = .ok (.iconst 4, 1) := by decide +kernel
theorem dX7_trial_96 : decode cX7_trial 96 = .ok (.if_icmp .ne 7, 3) := by decide +kernel
theorem dX7_trial_99 : decode cX7_trial 99 = .ok (.iconst 1, 1) := by decide +kernel
theorem dX7_trial_100 : decode cX7_trial 100 = .ok (.goto 4, 3) := by decide +kernel
theorem dX7_trial_103 : decode cX7_trial 103 = .ok (.iconst 0, 1) := by decide +kernel
theorem dX7_trial_104 : decode cX7_trial 104 = .ok (.istore_n 3, 1) := by decide +kernel
theorem dX7_trial_105 : decode cX7_trial 105 = .ok (.aload_n 0, 1) := by decide +kernel
theorem dX7_trial_106 : decode cX7_trial 106 = .ok (.getfield 38, 3) := by decide +kernel
theorem dX7_trial_109 : decode cX7_trial 109 = .ok (.iconst 0, 1) := by decide +kernel
theorem dX7_trial_110 : decode cX7_trial 110 = .ok (.iaload, 1) := by decide +kernel
theorem dX7_trial_111 : decode cX7_trial 111 = .ok (.ifCond .le 18, 3) := by decide +kernel
theorem dX7_trial_114 : decode cX7_trial 114 = .ok (.iload_n 3, 1) := by decide +kernel
theorem dX7_trial_115 : decode cX7_trial 115 = .ok (.ifCond .ne 14, 3) := by decide +kernel
theorem dX7_trial_118 : decode cX7_trial 118 = .ok (.aload_n 0, 1) := by decide +kernel
theorem dX7_trial_119 : decode cX7_trial 119 = .ok (.invokevirtual 135, 3) := by decide +kernel
theorem dX7_trial_122 : decode cX7_trial 122 = .ok (.ifCond .ne 7, 3) := by decide +kernel
theorem dX7_trial_125 : decode cX7_trial 125 = .ok (.iconst 1, 1) := by decide +kernel
theorem dX7_trial_126 : decode cX7_trial 126 = .ok (.goto 4, 3) := by decide +kernel
theorem dX7_trial_129 : decode cX7_trial 129 = .ok (.iconst 0, 1) := by decide +kernel
theorem dX7_trial_130 : decode cX7_trial 130 = .ok (.istore 4, 2) := by decide +kernel
theorem dX7_trial_132 : decode cX7_trial 132 = .ok (.iload_n 1, 1) := by decide +kernel
theorem dX7_trial_133 : decode cX7_trial 133 = .ok (.ifCond .ne 7, 3) := by decide +kernel
theorem dX7_trial_136 : decode cX7_trial 136 = .ok (.iload_n 2, 1) := by decide +kernel
theorem dX7_trial_137 : decode cX7_trial 137 = .ok (.goto 30, 3) := by decide +kernel
theorem dX7_trial_140 : decode cX7_trial 140 = .ok (.iload_n 1, 1) := by decide +kernel
theorem dX7_trial_141 : decode cX7_trial 141 = .ok (.iconst 1, 1) := by decide +kernel
theorem dX7_trial_142 : decode cX7_trial 142 = .ok (.if_icmp .ne 15, 3) := by decide +kernel
theorem dX7_trial_145 : decode cX7_trial 145 = .ok (.iload_n 3, 1) := by decide +kernel
theorem dX7_trial_146 : decode cX7_trial 146 = .ok (.ifCond .eq 7, 3) := by decide +kernel
theorem dX7_trial_149 : decode cX7_trial 149 = .ok (.iconst 1, 1) := by decide +kernel
theorem dX7_trial_150 : decode cX7_trial 150 = .ok (.goto 17, 3) := by decide +kernel
theorem dX7_trial_153 : decode cX7_trial 153 = .ok (.iconst 0, 1) := by decide +kernel
theorem dX7_trial_154 : decode cX7_trial 154 = .ok (.goto 13, 3) := by decide +kernel
theorem dX7_trial_157 : decode cX7_trial 157 = .ok (.iload 4, 2) := by decide +kernel
theorem dX7_trial_159 : decode cX7_trial 159 = .ok (.ifCond .eq 7, 3) := by decide +kernel
theorem dX7_trial_162 : decode cX7_trial 162 = .ok (.iconst 1, 1) := by decide +kernel
theorem dX7_trial_163 : decode cX7_trial 163 = .ok (.goto 4, 3) := by decide +kernel
theorem dX7_trial_166 : decode cX7_trial 166 = .ok (.iconst 0, 1) := by decide +kernel
theorem dX7_trial_167 : decode cX7_trial 167 = .ok (.ireturn, 1) := by decide +kernel
theorem dX7_manyOf_0 : decode cX7_manyOf 0 = .ok (.iconst 0, 1) := by decide +kernel
theorem dX7_manyOf_1 : decode cX7_manyOf 1 = .ok (.istore_n 1, 1) := by decide +kernel
theorem dX7_manyOf_2 : decode cX7_manyOf 2 = .ok (.iconst 0, 1) := by decide +kernel
theorem dX7_manyOf_3 : decode cX7_manyOf 3 = .ok (.istore_n 2, 1) := by decide +kernel
theorem dX7_manyOf_4 : decode cX7_manyOf 4 = .ok (.iload_n 2, 1) := by decide +kernel
theorem dX7_manyOf_5 : decode cX7_manyOf 5 = .ok (.bipush 10, 2) := by decide +kernel
theorem dX7_manyOf_7 : decode cX7_manyOf 7 = .ok (.if_icmp .ge 17, 3) := by decide +kernel
theorem dX7_manyOf_10 : decode cX7_manyOf 10 = .ok (.iload_n 1, 1) := by decide +kernel
theorem dX7_manyOf_11 : decode cX7_manyOf 11 = .ok (.iload_n 0, 1) := by decide +kernel
theorem dX7_manyOf_12 : decode cX7_manyOf 12 = .ok (.iload_n 2, 1) := by decide +kernel
theorem dX7_manyOf_13 : decode cX7_manyOf 13 = .ok (.ishr, 1) := by decide +kernel
theorem dX7_manyOf_14 : decode cX7_manyOf 14 = .ok (.iconst 1, 1) := by decide +kernel
theorem dX7_manyOf_15 : decode cX7_manyOf 15 = .ok (.iand, 1) := by decide +kernel
theorem dX7_manyOf_16 : decode cX7_manyOf 16 = .ok (.iadd, 1) := by decide +kernel
theorem dX7_manyOf_17 : decode cX7_manyOf 17 = .ok (.istore_n 1, 1) := by decide +kernel
theorem dX7_manyOf_18 : decode cX7_manyOf 18 = .ok (.iinc 2 1, 3) := by decide +kernel
theorem dX7_manyOf_21 : decode cX7_manyOf 21 = .ok (.goto (-17), 3) := by decide +kernel
theorem dX7_manyOf_24 : decode cX7_manyOf 24 = .ok (.iload_n 1, 1) := by decide +kernel
theorem dX7_manyOf_25 : decode cX7_manyOf 25 = .ok (.ireturn, 1) := by decide +kernel
theorem dX7_couldHave_0 : decode cX7_couldHave 0 = .ok (.iconst 0, 1) := by decide +kernel
theorem dX7_couldHave_1 : decode cX7_couldHave 1 = .ok (.istore_n 2, 1) := by decide +kernel
theorem dX7_couldHave_2 : decode cX7_couldHave 2 = .ok (.iconst 0, 1) := by decide +kernel
theorem dX7_couldHave_3 : decode cX7_couldHave 3 = .ok (.istore_n 3, 1) := by decide +kernel
theorem dX7_couldHave_4 : decode cX7_couldHave 4 = .ok (.iload_n 3, 1) := by decide +kernel
theorem dX7_couldHave_5 : decode cX7_couldHave 5 = .ok (.aload_n 0, 1) := by decide +kernel
theorem dX7_couldHave_6 : decode cX7_couldHave 6 = .ok (.getfield 32, 3) := by decide +kernel
theorem dX7_couldHave_9 : decode cX7_couldHave 9 = .ok (.iconst 0, 1) := by decide +kernel
theorem dX7_couldHave_10 : decode cX7_couldHave 10 = .ok (.iaload, 1) := by decide +kernel
theorem dX7_couldHave_11 : decode cX7_couldHave 11 = .ok (.if_icmp .ge 33, 3) := by decide +kernel
theorem dX7_couldHave_14 : decode cX7_couldHave 14 = .ok (.iload_n 2, 1) := by decide +kernel
theorem dX7_couldHave_15 : decode cX7_couldHave 15 = .ok (.aload_n 0, 1) := by decide +kernel
theorem dX7_couldHave_16 : decode cX7_couldHave 16 = .ok (.getfield 35, 3) := by decide +kernel
theorem dX7_couldHave_19 : decode cX7_couldHave 19 = .ok (.iload_n 3, 1) := by decide +kernel
theorem dX7_couldHave_20 : decode cX7_couldHave 20 = .ok (.iaload, 1) := by decide +kernel
theorem dX7_couldHave_21 : decode cX7_couldHave 21 = .ok (.iload_n 1, 1) := by decide +kernel
theorem dX7_couldHave_22 : decode cX7_couldHave 22 = .ok (.ishr, 1) := by decide +kernel
theorem dX7_couldHave_23 : decode cX7_couldHave 23 = .ok (.iconst 1, 1) := by decide +kernel
theorem dX7_couldHave_24 : decode cX7_couldHave 24 = .ok (.iand, 1) := by decide +kernel
theorem dX7_couldHave_25 : decode cX7_couldHave 25 = .ok (.iconst 1, 1) := by decide +kernel
theorem dX7_couldHave_26 : decode cX7_couldHave 26 = .ok (.if_icmp .ne 9, 3) := by decide +kernel
theorem dX7_couldHave_29 : decode cX7_couldHave 29 = .ok (.iconst 1, 1) := by decide +kernel
theorem dX7_couldHave_30 : decode cX7_couldHave 30 = .ok (.iload_n 3, 1) := by decide +kernel
theorem dX7_couldHave_31 : decode cX7_couldHave 31 = .ok (.ishl, 1) := by decide +kernel
theorem dX7_couldHave_32 : decode cX7_couldHave 32 = .ok (.goto 4, 3) := by decide +kernel
theorem dX7_couldHave_35 : decode cX7_couldHave 35 = .ok (.iconst 0, 1) := by decide +kernel
theorem dX7_couldHave_36 : decode cX7_couldHave 36 = .ok (.ior, 1) := by decide +kernel
theorem dX7_couldHave_37 : decode cX7_couldHave 37 = .ok (.istore_n 2, 1) := by decide +kernel
theorem dX7_couldHave_38 : decode cX7_couldHave 38 = .ok (.iinc 3 1, 3) := by decide +kernel
theorem dX7_couldHave_41 : decode cX7_couldHave 41 = .ok (.goto (-37), 3) := by decide +kernel
theorem dX7_couldHave_44 : decode cX7_couldHave 44 = .ok (.iload_n 2, 1) := by decide +kernel
theorem dX7_couldHave_45 : decode cX7_couldHave 45 = .ok (.ireturn, 1) := by decide +kernel
theorem dX7_endAt_0 : decode cX7_endAt 0 = .ok (.iload_n 3, 1) := by decide +kernel
theorem dX7_endAt_1 : decode cX7_endAt 1 = .ok (.bipush (-4), 2) := by decide +kernel
theorem dX7_endAt_3 : decode cX7_endAt 3 = .ok (.if_icmp .eq 8, 3) := by decide +kernel
theorem dX7_endAt_6 : decode cX7_endAt 6 = .ok (.iload_n 3, 1) := by decide +kernel
theorem dX7_endAt_7 : decode cX7_endAt 7 = .ok (.iload_n 2, 1) := by decide +kernel
theorem dX7_endAt_8 : decode cX7_endAt 8 = .ok (.if_icmp .ne 7, 3) := by decide +kernel
theorem dX7_endAt_11 : decode cX7_endAt 11 = .ok (.iconst 1, 1) := by decide +kernel
theorem dX7_endAt_12 : decode cX7_endAt 12 = .ok (.goto 4, 3) := by decide +kernel
theorem dX7_endAt_15 : decode cX7_endAt 15 = .ok (.iconst 0, 1) := by decide +kernel
theorem dX7_endAt_16 : decode cX7_endAt 16 = .ok (.istore 4, 2) := by decide +kernel
theorem dX7_endAt_18 : decode cX7_endAt 18 = .ok (.aload_n 0, 1) := by decide +kernel
theorem dX7_endAt_19 : decode cX7_endAt 19 = .ok (.getfield 41, 3) := by decide +kernel
theorem dX7_endAt_22 : decode cX7_endAt 22 = .ok (.iload_n 1, 1) := by decide +kernel
theorem dX7_endAt_23 : decode cX7_endAt 23 = .ok (.iload 4, 2) := by decide +kernel
theorem dX7_endAt_25 : decode cX7_endAt 25 = .ok (.ifCond .eq 7, 3) := by decide +kernel
theorem dX7_endAt_28 : decode cX7_endAt 28 = .ok (.iconst 1, 1) := by decide +kernel
theorem dX7_endAt_29 : decode cX7_endAt 29 = .ok (.goto 4, 3) := by decide +kernel
theorem dX7_endAt_32 : decode cX7_endAt 32 = .ok (.iconst 0, 1) := by decide +kernel
theorem dX7_endAt_33 : decode cX7_endAt 33 = .ok (.iastore, 1) := by decide +kernel
theorem dX7_endAt_34 : decode cX7_endAt 34 = .ok (.aload_n 0, 1) := by decide +kernel
theorem dX7_endAt_35 : decode cX7_endAt 35 = .ok (.getfield 44, 3) := by decide +kernel
theorem dX7_endAt_38 : decode cX7_endAt 38 = .ok (.iload_n 1, 1) := by decide +kernel
theorem dX7_endAt_39 : decode cX7_endAt 39 = .ok (.iload 4, 2) := by decide +kernel
theorem dX7_endAt_41 : decode cX7_endAt 41 = .ok (.ifCond .eq 7, 3) := by decide +kernel
theorem dX7_endAt_44 : decode cX7_endAt 44 = .ok (.iconst 0, 1) := by decide +kernel
theorem dX7_endAt_45 : decode cX7_endAt 45 = .ok (.goto 5, 3) := by decide +kernel
theorem dX7_endAt_48 : decode cX7_endAt 48 = .ok (.ldc 144, 2) := by decide +kernel
theorem dX7_endAt_50 : decode cX7_endAt 50 = .ok (.iastore, 1) := by decide +kernel
theorem dX7_endAt_51 : decode cX7_endAt 51 = .ok (.aload_n 0, 1) := by decide +kernel
theorem dX7_endAt_52 : decode cX7_endAt 52 = .ok (.getfield 53, 3) := by decide +kernel
theorem dX7_endAt_55 : decode cX7_endAt 55 = .ok (.iload_n 1, 1) := by decide +kernel
theorem dX7_endAt_56 : decode cX7_endAt 56 = .ok (.iload 4, 2) := by decide +kernel
theorem dX7_endAt_58 : decode cX7_endAt 58 = .ok (.ifCond .eq 7, 3) := by decide +kernel
theorem dX7_endAt_61 : decode cX7_endAt 61 = .ok (.iconst 0, 1) := by decide +kernel
theorem dX7_endAt_62 : decode cX7_endAt 62 = .ok (.goto 5, 3) := by decide +kernel
theorem dX7_endAt_65 : decode cX7_endAt 65 = .ok (.ldc 144, 2) := by decide +kernel
theorem dX7_endAt_67 : decode cX7_endAt 67 = .ok (.iastore, 1) := by decide +kernel
theorem dX7_endAt_68 : decode cX7_endAt 68 = .ok (.aload_n 0, 1) := by decide +kernel
theorem dX7_endAt_69 : decode cX7_endAt 69 = .ok (.getfield 47, 3) := by decide +kernel
theorem dX7_endAt_72 : decode cX7_endAt 72 = .ok (.iload_n 1, 1) := by decide +kernel
theorem dX7_endAt_73 : decode cX7_endAt 73 = .ok (.iconst 0, 1) := by decide +kernel
theorem dX7_endAt_74 : decode cX7_endAt 74 = .ok (.iastore, 1) := by decide +kernel
theorem dX7_endAt_75 : decode cX7_endAt 75 = .ok (.aload_n 0, 1) := by decide +kernel
theorem dX7_endAt_76 : decode cX7_endAt 76 = .ok (.getfield 50, 3) := by decide +kernel
theorem dX7_endAt_79 : decode cX7_endAt 79 = .ok (.iload_n 1, 1) := by decide +kernel
theorem dX7_endAt_80 : decode cX7_endAt 80 = .ok (.bipush (-4), 2) := by decide +kernel
theorem dX7_endAt_82 : decode cX7_endAt 82 = .ok (.iastore, 1) := by decide +kernel
theorem dX7_endAt_83 : decode cX7_endAt 83 = .ok (.aload_n 0, 1) := by decide +kernel
theorem dX7_endAt_84 : decode cX7_endAt 84 = .ok (.getfield 56, 3) := by decide +kernel
theorem dX7_endAt_87 : decode cX7_endAt 87 = .ok (.iload_n 1, 1) := by decide +kernel
theorem dX7_endAt_88 : decode cX7_endAt 88 = .ok (.iload 4, 2) := by decide +kernel
theorem dX7_endAt_90 : decode cX7_endAt 90 = .ok (.ifCond .eq 7, 3) := by decide +kernel
theorem dX7_endAt_93 : decode cX7_endAt 93 = .ok (.iconst 0, 1) := by decide +kernel
theorem dX7_endAt_94 : decode cX7_endAt 94 = .ok (.goto 6, 3) := by decide +kernel
theorem dX7_endAt_97 : decode cX7_endAt 97 = .ok (.sipush 1023, 3) := by decide +kernel
theorem dX7_endAt_100 : decode cX7_endAt 100 = .ok (.iastore, 1) := by decide +kernel
theorem dX7_endAt_101 : decode cX7_endAt 101 = .ok (.aload_n 0, 1) := by decide +kernel
theorem dX7_endAt_102 : decode cX7_endAt 102 = .ok (.getfield 59, 3) := by decide +kernel
theorem dX7_endAt_105 : decode cX7_endAt 105 = .ok (.iload_n 1, 1) := by decide +kernel
theorem dX7_endAt_106 : decode cX7_endAt 106 = .ok (.iconst 0, 1) := by decide +kernel
theorem dX7_endAt_107 : decode cX7_endAt 107 = .ok (.iastore, 1) := by decide +kernel
theorem dX7_endAt_108 : decode cX7_endAt 108 = .ok (.aload_n 0, 1) := by decide +kernel
theorem dX7_endAt_109 : decode cX7_endAt 109 = .ok (.getfield 62, 3) := by decide +kernel
theorem dX7_endAt_112 : decode cX7_endAt 112 = .ok (.iload_n 1, 1) := by decide +kernel
theorem dX7_endAt_113 : decode cX7_endAt 113 = .ok (.iload 4, 2) := by decide +kernel
theorem dX7_endAt_115 : decode cX7_endAt 115 = .ok (.ifCond .eq 9, 3) := by decide +kernel
theorem dX7_endAt_118 : decode cX7_endAt 118 = .ok (.iconst 1, 1) := by decide +kernel
theorem dX7_endAt_119 : decode cX7_endAt 119 = .ok (.iload_n 2, 1) := by decide +kernel
theorem dX7_endAt_120 : decode cX7_endAt 120 = .ok (.ishl, 1) := by decide +kernel
theorem dX7_endAt_121 : decode cX7_endAt 121 = .ok (.goto 4, 3) := by decide +kernel
theorem dX7_endAt_124 : decode cX7_endAt 124 = .ok (.iconst 0, 1) := by decide +kernel
theorem dX7_endAt_125 : decode cX7_endAt 125 = .ok (.iastore, 1) := by decide +kernel
theorem dX7_endAt_126 : decode cX7_endAt 126 = .ok (.aload_n 0, 1) := by decide +kernel
theorem dX7_endAt_127 : decode cX7_endAt 127 = .ok (.getfield 65, 3) := by decide +kernel
theorem dX7_endAt_130 : decode cX7_endAt 130 = .ok (.iload_n 1, 1) := by decide +kernel
theorem dX7_endAt_131 : decode cX7_endAt 131 = .ok (.aload_n 0, 1) := by decide +kernel
theorem dX7_endAt_132 : decode cX7_endAt 132 = .ok (.iload_n 2, 1) := by decide +kernel
theorem dX7_endAt_133 : decode cX7_endAt 133 = .ok (.invokevirtual 145, 3) := by decide +kernel
theorem dX7_endAt_136 : decode cX7_endAt 136 = .ok (.ifCond .eq 7, 3) := by decide +kernel
theorem dX7_endAt_139 : decode cX7_endAt 139 = .ok (.iconst 1, 1) := by decide +kernel
theorem dX7_endAt_140 : decode cX7_endAt 140 = .ok (.goto 4, 3) := by decide +kernel
theorem dX7_endAt_143 : decode cX7_endAt 143 = .ok (.iconst 0, 1) := by decide +kernel
theorem dX7_endAt_144 : decode cX7_endAt 144 = .ok (.iastore, 1) := by decide +kernel
theorem dX7_endAt_145 : decode cX7_endAt 145 = .ok (.return_, 1) := by decide +kernel
theorem dX7_goOn_0 : decode cX7_goOn 0 = .ok (.iload_n 2, 1) := by decide +kernel
theorem dX7_goOn_1 : decode cX7_goOn 1 = .ok (.invokestatic 148, 3) := by decide +kernel
theorem dX7_goOn_4 : decode cX7_goOn 4 = .ok (.istore 4, 2) := by decide +kernel
theorem dX7_goOn_6 : decode cX7_goOn 6 = .ok (.aload_n 0, 1) := by decide +kernel
theorem dX7_goOn_7 : decode cX7_goOn 7 = .ok (.iload_n 3, 1) := by decide +kernel
theorem dX7_goOn_8 : decode cX7_goOn 8 = .ok (.iload_n 2, 1) := by decide +kernel
theorem dX7_goOn_9 : decode cX7_goOn 9 = .ok (.invokevirtual 131, 3) := by decide +kernel
theorem dX7_goOn_12 : decode cX7_goOn 12 = .ok (.istore 5, 2) := by decide +kernel
theorem dX7_goOn_14 : decode cX7_goOn 14 = .ok (.iload 4, 2) := by decide +kernel
theorem dX7_goOn_16 : decode cX7_goOn 16 = .ok (.iconst 2, 1) := by decide +kernel
theorem dX7_goOn_17 : decode cX7_goOn 17 = .ok (.irem, 1) := by decide +kernel
theorem dX7_goOn_18 : decode cX7_goOn 18 = .ok (.iconst 1, 1) := by decide +kernel
theorem dX7_goOn_19 : decode cX7_goOn 19 = .ok (.if_icmp .ne 7, 3) := by decide +kernel
theorem dX7_goOn_22 : decode cX7_goOn 22 = .ok (.iconst 1, 1) := by decide +kernel
theorem dX7_goOn_23 : decode cX7_goOn 23 = .ok (.goto 4, 3) := by decide +kernel
theorem dX7_goOn_26 : decode cX7_goOn 26 = .ok (.iconst 0, 1) := by decide +kernel
theorem dX7_goOn_27 : decode cX7_goOn 27 = .ok (.istore 6, 2) := by decide +kernel
theorem dX7_goOn_29 : decode cX7_goOn 29 = .ok (.aload_n 0, 1) := by decide +kernel
theorem dX7_goOn_30 : decode cX7_goOn 30 = .ok (.getfield 41, 3) := by decide +kernel
theorem dX7_goOn_33 : decode cX7_goOn 33 = .ok (.iload_n 1, 1) := by decide +kernel
theorem dX7_goOn_34 : decode cX7_goOn 34 = .ok (.iconst 0, 1) := by decide +kernel
theorem dX7_goOn_35 : decode cX7_goOn 35 = .ok (.iastore, 1) := by decide +kernel
theorem dX7_goOn_36 : decode cX7_goOn 36 = .ok (.aload_n 0, 1) := by decide +kernel
theorem dX7_goOn_37 : decode cX7_goOn 37 = .ok (.getfield 44, 3) := by decide +kernel
theorem dX7_goOn_40 : decode cX7_goOn 40 = .ok (.iload_n 1, 1) := by decide +kernel
theorem dX7_goOn_41 : decode cX7_goOn 41 = .ok (.ldc 144, 2) := by decide +kernel
theorem dX7_goOn_43 : decode cX7_goOn 43 = .ok (.iastore, 1) := by decide +kernel
theorem dX7_goOn_44 : decode cX7_goOn 44 = .ok (.aload_n 0, 1) := by decide +kernel
theorem dX7_goOn_45 : decode cX7_goOn 45 = .ok (.getfield 53, 3) := by decide +kernel
theorem dX7_goOn_48 : decode cX7_goOn 48 = .ok (.iload_n 1, 1) := by decide +kernel
theorem dX7_goOn_49 : decode cX7_goOn 49 = .ok (.ldc 144, 2) := by decide +kernel
theorem dX7_goOn_51 : decode cX7_goOn 51 = .ok (.iastore, 1) := by decide +kernel
theorem dX7_goOn_52 : decode cX7_goOn 52 = .ok (.aload_n 0, 1) := by decide +kernel
theorem dX7_goOn_53 : decode cX7_goOn 53 = .ok (.getfield 47, 3) := by decide +kernel
theorem dX7_goOn_56 : decode cX7_goOn 56 = .ok (.iload_n 1, 1) := by decide +kernel
theorem dX7_goOn_57 : decode cX7_goOn 57 = .ok (.iconst 0, 1) := by decide +kernel
theorem dX7_goOn_58 : decode cX7_goOn 58 = .ok (.iastore, 1) := by decide +kernel
theorem dX7_goOn_59 : decode cX7_goOn 59 = .ok (.aload_n 0, 1) := by decide +kernel
theorem dX7_goOn_60 : decode cX7_goOn 60 = .ok (.getfield 50, 3) := by decide +kernel
theorem dX7_goOn_63 : decode cX7_goOn 63 = .ok (.iload_n 1, 1) := by decide +kernel
theorem dX7_goOn_64 : decode cX7_goOn 64 = .ok (.bipush (-4), 2) := by decide +kernel
theorem dX7_goOn_66 : decode cX7_goOn 66 = .ok (.iastore, 1) := by decide +kernel
theorem dX7_goOn_67 : decode cX7_goOn 67 = .ok (.aload_n 0, 1) := by decide +kernel
theorem dX7_goOn_68 : decode cX7_goOn 68 = .ok (.getfield 56, 3) := by decide +kernel
theorem dX7_goOn_71 : decode cX7_goOn 71 = .ok (.iload_n 1, 1) := by decide +kernel
theorem dX7_goOn_72 : decode cX7_goOn 72 = .ok (.sipush 1023, 3) := by decide +kernel
theorem dX7_goOn_75 : decode cX7_goOn 75 = .ok (.iastore, 1) := by decide +kernel
theorem dX7_goOn_76 : decode cX7_goOn 76 = .ok (.aload_n 0, 1) := by decide +kernel
theorem dX7_goOn_77 : decode cX7_goOn 77 = .ok (.getfield 59, 3) := by decide +kernel
theorem dX7_goOn_80 : decode cX7_goOn 80 = .ok (.iload_n 1, 1) := by decide +kernel
theorem dX7_goOn_81 : decode cX7_goOn 81 = .ok (.iconst 0, 1) := by decide +kernel
theorem dX7_goOn_82 : decode cX7_goOn 82 = .ok (.iastore, 1) := by decide +kernel
theorem dX7_goOn_83 : decode cX7_goOn 83 = .ok (.aload_n 0, 1) := by decide +kernel
theorem dX7_goOn_84 : decode cX7_goOn 84 = .ok (.getfield 62, 3) := by decide +kernel
theorem dX7_goOn_87 : decode cX7_goOn 87 = .ok (.iload_n 1, 1) := by decide +kernel
theorem dX7_goOn_88 : decode cX7_goOn 88 = .ok (.iconst 0, 1) := by decide +kernel
theorem dX7_goOn_89 : decode cX7_goOn 89 = .ok (.iastore, 1) := by decide +kernel
theorem dX7_goOn_90 : decode cX7_goOn 90 = .ok (.aload_n 0, 1) := by decide +kernel
theorem dX7_goOn_91 : decode cX7_goOn 91 = .ok (.getfield 65, 3) := by decide +kernel
theorem dX7_goOn_94 : decode cX7_goOn 94 = .ok (.iload_n 1, 1) := by decide +kernel
theorem dX7_goOn_95 : decode cX7_goOn 95 = .ok (.iload 5, 2) := by decide +kernel
theorem dX7_goOn_97 : decode cX7_goOn 97 = .ok (.ifCond .eq 8, 3) := by decide +kernel
theorem dX7_goOn_100 : decode cX7_goOn 100 = .ok (.iload 6, 2) := by decide +kernel
theorem dX7_goOn_102 : decode cX7_goOn 102 = .ok (.ifCond .eq 7, 3) := by decide +kernel
theorem dX7_goOn_105 : decode cX7_goOn 105 = .ok (.iconst 0, 1) := by decide +kernel
theorem dX7_goOn_106 : decode cX7_goOn 106 = .ok (.goto 4, 3) := by decide +kernel
theorem dX7_goOn_109 : decode cX7_goOn 109 = .ok (.iconst 1, 1) := by decide +kernel
theorem dX7_goOn_110 : decode cX7_goOn 110 = .ok (.iastore, 1) := by decide +kernel
theorem dX7_goOn_111 : decode cX7_goOn 111 = .ok (.iconst 0, 1) := by decide +kernel
theorem dX7_goOn_112 : decode cX7_goOn 112 = .ok (.istore 7, 2) := by decide +kernel
theorem dX7_goOn_114 : decode cX7_goOn 114 = .ok (.iload 7, 2) := by decide +kernel
theorem dX7_goOn_116 : decode cX7_goOn 116 = .ok (.aload_n 0, 1) := by decide +kernel
theorem dX7_goOn_117 : decode cX7_goOn 117 = .ok (.getfield 13, 3) := by decide +kernel
theorem dX7_goOn_120 : decode cX7_goOn 120 = .ok (.iconst 0, 1) := by decide +kernel
theorem dX7_goOn_121 : decode cX7_goOn 121 = .ok (.iaload, 1) := by decide +kernel
theorem dX7_goOn_122 : decode cX7_goOn 122 = .ok (.if_icmp .ge 335, 3) := by decide +kernel
theorem dX7_goOn_125 : decode cX7_goOn 125 = .ok (.iload 5, 2) := by decide +kernel
theorem dX7_goOn_127 : decode cX7_goOn 127 = .ok (.iload 7, 2) := by decide +kernel
theorem dX7_goOn_129 : decode cX7_goOn 129 = .ok (.ishr, 1) := by decide +kernel
theorem dX7_goOn_130 : decode cX7_goOn 130 = .ok (.iconst 1, 1) := by decide +kernel
theorem dX7_goOn_131 : decode cX7_goOn 131 = .ok (.iand, 1) := by decide +kernel
theorem dX7_goOn_132 : decode cX7_goOn 132 = .ok (.iconst 1, 1) := by decide +kernel
theorem dX7_goOn_133 : decode cX7_goOn 133 = .ok (.if_icmp .ne 318, 3) := by decide +kernel
theorem dX7_goOn_136 : decode cX7_goOn 136 = .ok (.bipush 10, 2) := by decide +kernel
theorem dX7_goOn_138 : decode cX7_goOn 138 = .ok (.iload_n 2, 1) := by decide +kernel
theorem dX7_goOn_139 : decode cX7_goOn 139 = .ok (.iconst 1, 1) := by decide +kernel
theorem dX7_goOn_140 : decode cX7_goOn 140 = .ok (.iload 7, 2) := by decide +kernel
theorem dX7_goOn_142 : decode cX7_goOn 142 = .ok (.ishl, 1) := by decide +kernel
theorem dX7_goOn_143 : decode cX7_goOn 143 = .ok (.ior, 1) := by decide +kernel
theorem dX7_goOn_144 : decode cX7_goOn 144 = .ok (.imul, 1) := by decide +kernel
theorem dX7_goOn_145 : decode cX7_goOn 145 = .ok (.iload 7, 2) := by decide +kernel
theorem dX7_goOn_147 : decode cX7_goOn 147 = .ok (.iadd, 1) := by decide +kernel
theorem dX7_goOn_148 : decode cX7_goOn 148 = .ok (.istore 8, 2) := by decide +kernel
theorem dX7_goOn_150 : decode cX7_goOn 150 = .ok (.aload_n 0, 1) := by decide +kernel
theorem dX7_goOn_151 : decode cX7_goOn 151 = .ok (.getfield 41, 3) := by decide +kernel
theorem dX7_goOn_154 : decode cX7_goOn 154 = .ok (.iload_n 1, 1) := by decide +kernel
theorem dX7_goOn_155 : decode cX7_goOn 155 = .ok (.dup2, 1) := by decide +kernel
theorem dX7_goOn_156 : decode cX7_goOn 156 = .ok (.iaload, 1) := by decide +kernel
theorem dX7_goOn_157 : decode cX7_goOn 157 = .ok (.aload_n 0, 1) := by decide +kernel
theorem dX7_goOn_158 : decode cX7_goOn 158 = .ok (.getfield 41, 3) := by decide +kernel
theorem dX7_goOn_161 : decode cX7_goOn 161 = .ok (.iload 8, 2) := by decide +kernel
theorem dX7_goOn_163 : decode cX7_goOn 163 = .ok (.iaload, 1) := by decide +kernel
theorem dX7_goOn_164 : decode cX7_goOn 164 = .ok (.iadd, 1) := by decide +kernel
theorem dX7_goOn_165 : decode cX7_goOn 165 = .ok (.iastore, 1) := by decide +kernel
theorem dX7_goOn_166 : decode cX7_goOn 166 = .ok (.aload_n 0, 1) := by decide +kernel
theorem dX7_goOn_167 : decode cX7_goOn 167 = .ok (.iload 7, 2) := by decide +kernel
theorem dX7_goOn_169 : decode cX7_goOn 169 = .ok (.iload 4, 2) := by decide +kernel
theorem dX7_goOn_171 : decode cX7_goOn 171 = .ok (.iload_n 3, 1) := by decide +kernel
theorem dX7_goOn_172 : decode cX7_goOn 172 = .ok (.invokevirtual 141, 3) := by decide +kernel
theorem dX7_goOn_175 : decode cX7_goOn 175 = .ok (.aload_n 0, 1) := by decide +kernel
theorem dX7_goOn_176 : decode cX7_goOn 176 = .ok (.getfield 44, 3) := by decide +kernel
theorem dX7_goOn_179 : decode cX7_goOn 179 = .ok (.iload 8, 2) := by decide +kernel
theorem dX7_goOn_181 : decode cX7_goOn 181 = .ok (.iaload, 1) := by decide +kernel
theorem dX7_goOn_182 : decode cX7_goOn 182 = .ok (.iadd, 1) := by decide +kernel
theorem dX7_goOn_183 : decode cX7_goOn 183 = .ok (.istore 9, 2) := by decide +kernel
theorem dX7_goOn_185 : decode cX7_goOn 185 = .ok (.aload_n 0, 1) := by decide +kernel
theorem dX7_goOn_186 : decode cX7_goOn 186 = .ok (.getfield 41, 3) := by decide +kernel
theorem dX7_goOn_189 : decode cX7_goOn 189 = .ok (.iload 8, 2) := by decide +kernel
theorem dX7_goOn_191 : decode cX7_goOn 191 = .ok (.iaload, 1) := by decide +kernel
theorem dX7_goOn_192 : decode cX7_goOn 192 = .ok (.ifCond .le 74, 3) := by decide +kernel
theorem dX7_goOn_195 : decode cX7_goOn 195 = .ok (.iload 9, 2) := by decide +kernel
theorem dX7_goOn_197 : decode cX7_goOn 197 = .ok (.aload_n 0, 1) := by decide +kernel
theorem dX7_goOn_198 : decode cX7_goOn 198 = .ok (.getfield 44, 3) := by decide +kernel
theorem dX7_goOn_201 : decode cX7_goOn 201 = .ok (.iload_n 1, 1) := by decide +kernel
theorem dX7_goOn_202 : decode cX7_goOn 202 = .ok (.iaload, 1) := by decide +kernel
theorem dX7_goOn_203 : decode cX7_goOn 203 = .ok (.if_icmp .lt 32, 3) := by decide +kernel
theorem dX7_goOn_206 : decode cX7_goOn 206 = .ok (.iload 9, 2) := by decide +kernel
theorem dX7_goOn_208 : decode cX7_goOn 208 = .ok (.aload_n 0, 1) := by decide +kernel
theorem dX7_goOn_209 : decode cX7_goOn 209 = .ok (.getfield 44, 3) := by decide +kernel
theorem dX7_goOn_212 : decode cX7_goOn 212 = .ok (.iload_n 1, 1) := by decide +kernel
theorem dX7_goOn_213 : decode cX7_goOn 213 = .ok (.iaload, 1) := by decide +kernel
theorem dX7_goOn_214 : decode cX7_goOn 214 = .ok (.if_icmp .ne 52, 3) := by decide +kernel
theorem dX7_goOn_217 : decode cX7_goOn 217 = .ok (.iconst 1, 1) := by decide +kernel
theorem dX7_goOn_218 : decode cX7_goOn 218 = .ok (.aload_n 0, 1) := by decide +kernel
theorem dX7_goOn_219 : decode cX7_goOn 219 = .ok (.getfield 47, 3) := by decide +kernel
theorem dX7_goOn_222 : decode cX7_goOn 222 = .ok (.iload 8, 2) := by decide +kernel
theorem dX7_goOn_224 : decode cX7_goOn 224 = .ok (.iaload, 1) := by decide +kernel
theorem dX7_goOn_225 : decode cX7_goOn 225 = .ok (.iadd, 1) := by decide +kernel
theorem dX7_goOn_226 : decode cX7_goOn 226 = .ok (.aload_n 0, 1) := by decide +kernel
theorem dX7_goOn_227 : decode cX7_goOn 227 = .ok (.getfield 47, 3) := by decide +kernel
theorem dX7_goOn_230 : decode cX7_goOn 230 = .ok (.iload_n 1, 1) := by decide +kernel
theorem dX7_goOn_231 : decode cX7_goOn 231 = .ok (.iaload, 1) := by decide +kernel
theorem dX7_goOn_232 : decode cX7_goOn 232 = .ok (.if_icmp .ge 34, 3) := by decide +kernel
theorem dX7_goOn_235 : decode cX7_goOn 235 = .ok (.aload_n 0, 1) := by decide +kernel
theorem dX7_goOn_236 : decode cX7_goOn 236 = .ok (.getfield 44, 3) := by decide +kernel
theorem dX7_goOn_239 : decode cX7_goOn 239 = .ok (.iload_n 1, 1) := by decide +kernel
theorem dX7_goOn_240 : decode cX7_goOn 240 = .ok (.iload 9, 2) := by decide +kernel
theorem dX7_goOn_242 : decode cX7_goOn 242 = .ok (.iastore, 1) := by decide +kernel
theorem dX7_goOn_243 : decode cX7_goOn 243 = .ok (.aload_n 0, 1) := by decide +kernel
theorem dX7_goOn_244 : decode cX7_goOn 244 = .ok (.getfield 47, 3) := by decide +kernel
theorem dX7_goOn_247 : decode cX7_goOn 247 = .ok (.iload_n 1, 1) := by decide +kernel
theorem dX7_goOn_248 : decode cX7_goOn 248 = .ok (.iconst 1, 1) := by decide +kernel
theorem dX7_goOn_249 : decode cX7_goOn 249 = .ok (.aload_n 0, 1) := by decide +kernel
theorem dX7_goOn_250 : decode cX7_goOn 250 = .ok (.getfield 47, 3) := by decide +kernel
theorem dX7_goOn_253 : decode cX7_goOn 253 = .ok (.iload 8, 2) := by decide +kernel
theorem dX7_goOn_255 : decode cX7_goOn 255 = .ok (.iaload, 1) := by decide +kernel
theorem dX7_goOn_256 : decode cX7_goOn 256 = .ok (.iadd, 1) := by decide +kernel
theorem dX7_goOn_257 : decode cX7_goOn 257 = .ok (.iastore, 1) := by decide +kernel
theorem dX7_goOn_258 : decode cX7_goOn 258 = .ok (.aload_n 0, 1) := by decide +kernel
theorem dX7_goOn_259 : decode cX7_goOn 259 = .ok (.getfield 50, 3) := by decide +kernel
theorem dX7_goOn_262 : decode cX7_goOn 262 = .ok (.iload_n 1, 1) := by decide +kernel
theorem dX7_goOn_263 : decode cX7_goOn 263 = .ok (.iload 7, 2) := by decide +kernel
theorem dX7_goOn_265 : decode cX7_goOn 265 = .ok (.iastore, 1) := by decide +kernel
theorem dX7_goOn_266 : decode cX7_goOn 266 = .ok (.aload_n 0, 1) := by decide +kernel
theorem dX7_goOn_267 : decode cX7_goOn 267 = .ok (.getfield 23, 3) := by decide +kernel
theorem dX7_goOn_270 : decode cX7_goOn 270 = .ok (.iload 7, 2) := by decide +kernel
theorem dX7_goOn_272 : decode cX7_goOn 272 = .ok (.iaload, 1) := by decide +kernel
theorem dX7_goOn_273 : decode cX7_goOn 273 = .ok (.aload_n 0, 1) := by decide +kernel
theorem dX7_goOn_274 : decode cX7_goOn 274 = .ok (.getfield 53, 3) := by decide +kernel
theorem dX7_goOn_277 : decode cX7_goOn 277 = .ok (.iload 8, 2) := by decide +kernel
theorem dX7_goOn_279 : decode cX7_goOn 279 = .ok (.iaload, 1) := by decide +kernel
theorem dX7_goOn_280 : decode cX7_goOn 280 = .ok (.iadd, 1) := by decide +kernel
theorem dX7_goOn_281 : decode cX7_goOn 281 = .ok (.istore 10, 2) := by decide +kernel
theorem dX7_goOn_283 : decode cX7_goOn 283 = .ok (.aload_n 0, 1) := by decide +kernel
theorem dX7_goOn_284 : decode cX7_goOn 284 = .ok (.getfield 53, 3) := by decide +kernel
theorem dX7_goOn_287 : decode cX7_goOn 287 = .ok (.iload_n 1, 1) := by decide +kernel
theorem dX7_goOn_288 : decode cX7_goOn 288 = .ok (.aload_n 0, 1) := by decide +kernel
theorem dX7_goOn_289 : decode cX7_goOn 289 = .ok (.getfield 41, 3) := by decide +kernel
theorem dX7_goOn_292 : decode cX7_goOn 292 = .ok (.iload 8, 2) := by decide +kernel
theorem dX7_goOn_294 : decode cX7_goOn 294 = .ok (.iaload, 1) := by decide +kernel
theorem dX7_goOn_295 : decode cX7_goOn 295 = .ok (.ifCond .le 19, 3) := by decide +kernel
theorem dX7_goOn_298 : decode cX7_goOn 298 = .ok (.iload 10, 2) := by decide +kernel
theorem dX7_goOn_300 : decode cX7_goOn 300 = .ok (.aload_n 0, 1) := by decide +kernel
theorem dX7_goOn_301 : decode cX7_goOn 301 = .ok (.getfield 53, 3) := by decide +kernel
theorem dX7_goOn_304 : decode cX7_goOn 304 = .ok (.iload_n 1, 1) := by decide +kernel
theorem dX7_goOn_305 : decode cX7_goOn 305 = .ok (.iaload, 1) := by decide +kernel
theorem dX7_goOn_306 : decode cX7_goOn 306 = .ok (.if_icmp .ge 8, 3) := by decide +kernel
theorem dX7_goOn_309 : decode cX7_goOn 309 = .ok (.iload 10, 2) := by decide +kernel
theorem dX7_goOn_311 : decode cX7_goOn 311 = .ok (.goto 9, 3) := by decide +kernel
theorem dX7_goOn_314 : decode cX7_goOn 314 = .ok (.aload_n 0, 1) := by decide +kernel
theorem dX7_goOn_315 : decode cX7_goOn 315 = .ok (.getfield 53, 3) := by decide +kernel
theorem dX7_goOn_318 : decode cX7_goOn 318 = .ok (.iload_n 1, 1) := by decide +kernel
theorem dX7_goOn_319 : decode cX7_goOn 319 = .ok (.iaload, 1) := by decide +kernel
theorem dX7_goOn_320 : decode cX7_goOn 320 = .ok (.iastore, 1) := by decide +kernel
theorem dX7_goOn_321 : decode cX7_goOn 321 = .ok (.aload_n 0, 1) := by decide +kernel
theorem dX7_goOn_322 : decode cX7_goOn 322 = .ok (.getfield 56, 3) := by decide +kernel
theorem dX7_goOn_325 : decode cX7_goOn 325 = .ok (.iload_n 1, 1) := by decide +kernel
theorem dX7_goOn_326 : decode cX7_goOn 326 = .ok (.dup2, 1) := by decide +kernel
theorem dX7_goOn_327 : decode cX7_goOn 327 = .ok (.iaload, 1) := by decide +kernel
theorem dX7_goOn_328 : decode cX7_goOn 328 = .ok (.aload_n 0, 1) := by decide +kernel
theorem dX7_goOn_329 : decode cX7_goOn 329 = .ok (.getfield 41, 3) := by decide +kernel
theorem dX7_goOn_332 : decode cX7_goOn 332 = .ok (.iload 8, 2) := by decide +kernel
theorem dX7_goOn_334 : decode cX7_goOn 334 = .ok (.iaload, 1) := by decide +kernel
theorem dX7_goOn_335 : decode cX7_goOn 335 = .ok (.ifCond .le 18, 3) := by decide +kernel
theorem dX7_goOn_338 : decode cX7_goOn 338 = .ok (.aload_n 0, 1) := by decide +kernel
theorem dX7_goOn_339 : decode cX7_goOn 339 = .ok (.getfield 56, 3) := by decide +kernel
theorem dX7_goOn_342 : decode cX7_goOn 342 = .ok (.iload 8, 2) := by decide +kernel
theorem dX7_goOn_344 : decode cX7_goOn 344 = .ok (.iaload, 1) := by decide +kernel
theorem dX7_goOn_345 : decode cX7_goOn 345 = .ok (.iconst 1, 1) := by decide +kernel
theorem dX7_goOn_346 : decode cX7_goOn 346 = .ok (.iload 7, 2) := by decide +kernel
theorem dX7_goOn_348 : decode cX7_goOn 348 = .ok (.ishl, 1) := by decide +kernel
theorem dX7_goOn_349 : decode cX7_goOn 349 = .ok (.ior, 1) := by decide +kernel
theorem dX7_goOn_350 : decode cX7_goOn 350 = .ok (.goto 6, 3) := by decide +kernel
theorem dX7_goOn_353 : decode cX7_goOn 353 = .ok (.sipush 1023, 3) := by decide +kernel
theorem dX7_goOn_356 : decode cX7_goOn 356 = .ok (.iand, 1) := by decide +kernel
theorem dX7_goOn_357 : decode cX7_goOn 357 = .ok (.iastore, 1) := by decide +kernel
theorem dX7_goOn_358 : decode cX7_goOn 358 = .ok (.aload_n 0, 1) := by decide +kernel
theorem dX7_goOn_359 : decode cX7_goOn 359 = .ok (.getfield 59, 3) := by decide +kernel
theorem dX7_goOn_362 : decode cX7_goOn 362 = .ok (.iload_n 1, 1) := by decide +kernel
theorem dX7_goOn_363 : decode cX7_goOn 363 = .ok (.dup2, 1) := by decide +kernel
theorem dX7_goOn_364 : decode cX7_goOn 364 = .ok (.iaload, 1) := by decide +kernel
theorem dX7_goOn_365 : decode cX7_goOn 365 = .ok (.aload_n 0, 1) := by decide +kernel
theorem dX7_goOn_366 : decode cX7_goOn 366 = .ok (.getfield 41, 3) := by decide +kernel
theorem dX7_goOn_369 : decode cX7_goOn 369 = .ok (.iload 8, 2) := by decide +kernel
theorem dX7_goOn_371 : decode cX7_goOn 371 = .ok (.iaload, 1) := by decide +kernel
theorem dX7_goOn_372 : decode cX7_goOn 372 = .ok (.ifCond .le 18, 3) := by decide +kernel
theorem dX7_goOn_375 : decode cX7_goOn 375 = .ok (.aload_n 0, 1) := by decide +kernel
theorem dX7_goOn_376 : decode cX7_goOn 376 = .ok (.getfield 59, 3) := by decide +kernel
theorem dX7_goOn_379 : decode cX7_goOn 379 = .ok (.iload 8, 2) := by decide +kernel
theorem dX7_goOn_381 : decode cX7_goOn 381 = .ok (.iaload, 1) := by decide +kernel
theorem dX7_goOn_382 : decode cX7_goOn 382 = .ok (.iconst 1, 1) := by decide +kernel
theorem dX7_goOn_383 : decode cX7_goOn 383 = .ok (.iload 7, 2) := by decide +kernel
theorem dX7_goOn_385 : decode cX7_goOn 385 = .ok (.ishl, 1) := by decide +kernel
theorem dX7_goOn_386 : decode cX7_goOn 386 = .ok (.ior, 1) := by decide +kernel
theorem dX7_goOn_387 : decode cX7_goOn 387 = .ok (.goto 4, 3) := by decide +kernel
theorem dX7_goOn_390 : decode cX7_goOn 390 = .ok (.iconst 0, 1) := by decide +kernel
theorem dX7_goOn_391 : decode cX7_goOn 391 = .ok (.ior, 1) := by decide +kernel
theorem dX7_goOn_392 : decode cX7_goOn 392 = .ok (.iastore, 1) := by decide +kernel
theorem dX7_goOn_393 : decode cX7_goOn 393 = .ok (.aload_n 0, 1) := by decide +kernel
theorem dX7_goOn_394 : decode cX7_goOn 394 = .ok (.getfield 62, 3) := by decide +kernel
theorem dX7_goOn_397 : decode cX7_goOn 397 = .ok (.iload_n 1, 1) := by decide +kernel
theorem dX7_goOn_398 : decode cX7_goOn 398 = .ok (.dup2, 1) := by decide +kernel
theorem dX7_goOn_399 : decode cX7_goOn 399 = .ok (.iaload, 1) := by decide +kernel
theorem dX7_goOn_400 : decode cX7_goOn 400 = .ok (.aload_n 0, 1) := by decide +kernel
theorem dX7_goOn_401 : decode cX7_goOn 401 = .ok (.getfield 62, 3) := by decide +kernel
theorem dX7_goOn_404 : decode cX7_goOn 404 = .ok (.iload 8, 2) := by decide +kernel
theorem dX7_goOn_406 : decode cX7_goOn 406 = .ok (.iaload, 1) := by decide +kernel
theorem dX7_goOn_407 : decode cX7_goOn 407 = .ok (.ior, 1) := by decide +kernel
theorem dX7_goOn_408 : decode cX7_goOn 408 = .ok (.iastore, 1) := by decide +kernel
theorem dX7_goOn_409 : decode cX7_goOn 409 = .ok (.aload_n 0, 1) := by decide +kernel
theorem dX7_goOn_410 : decode cX7_goOn 410 = .ok (.getfield 65, 3) := by decide +kernel
theorem dX7_goOn_413 : decode cX7_goOn 413 = .ok (.iload_n 1, 1) := by decide +kernel
theorem dX7_goOn_414 : decode cX7_goOn 414 = .ok (.iload 6, 2) := by decide +kernel
theorem dX7_goOn_416 : decode cX7_goOn 416 = .ok (.ifCond .eq 20, 3) := by decide +kernel
theorem dX7_goOn_419 : decode cX7_goOn 419 = .ok (.aload_n 0, 1) := by decide +kernel
theorem dX7_goOn_420 : decode cX7_goOn 420 = .ok (.getfield 65, 3) := by decide +kernel
theorem dX7_goOn_423 : decode cX7_goOn 423 = .ok (.iload_n 1, 1) := by decide +kernel
theorem dX7_goOn_424 : decode cX7_goOn 424 = .ok (.iaload, 1) := by decide +kernel
theorem dX7_goOn_425 : decode cX7_goOn 425 = .ok (.aload_n 0, 1) := by decide +kernel
theorem dX7_goOn_426 : decode cX7_goOn 426 = .ok (.getfield 65, 3) := by decide +kernel
theorem dX7_goOn_429 : decode cX7_goOn 429 = .ok (.iload 8, 2) := by decide +kernel
theorem dX7_goOn_431 : decode cX7_goOn 431 = .ok (.iaload, 1) := by decide +kernel
theorem dX7_goOn_432 : decode cX7_goOn 432 = .ok (.ior, 1) := by decide +kernel
theorem dX7_goOn_433 : decode cX7_goOn 433 = .ok (.goto 17, 3) := by decide +kernel
theorem dX7_goOn_436 : decode cX7_goOn 436 = .ok (.aload_n 0, 1) := by decide +kernel
theorem dX7_goOn_437 : decode cX7_goOn 437 = .ok (.getfield 65, 3) := by decide +kernel
theorem dX7_goOn_440 : decode cX7_goOn 440 = .ok (.iload_n 1, 1) := by decide +kernel
theorem dX7_goOn_441 : decode cX7_goOn 441 = .ok (.iaload, 1) := by decide +kernel
theorem dX7_goOn_442 : decode cX7_goOn 442 = .ok (.aload_n 0, 1) := by decide +kernel
theorem dX7_goOn_443 : decode cX7_goOn 443 = .ok (.getfield 65, 3) := by decide +kernel
theorem dX7_goOn_446 : decode cX7_goOn 446 = .ok (.iload 8, 2) := by decide +kernel
theorem dX7_goOn_448 : decode cX7_goOn 448 = .ok (.iaload, 1) := by decide +kernel
theorem dX7_goOn_449 : decode cX7_goOn 449 = .ok (.iand, 1) := by decide +kernel
theorem dX7_goOn_450 : decode cX7_goOn 450 = .ok (.iastore, 1) := by decide +kernel
theorem dX7_goOn_451 : decode cX7_goOn 451 = .ok (.iinc 7 1, 3) := by decide +kernel
theorem dX7_goOn_454 : decode cX7_goOn 454 = .ok (.goto (-340), 3) := by decide +kernel
theorem dX7_goOn_457 : decode cX7_goOn 457 = .ok (.return_, 1) := by decide +kernel
theorem dX7_solve_0 : decode cX7_solve 0 = .ok (.iconst 1, 1) := by decide +kernel
theorem dX7_solve_1 : decode cX7_solve 1 = .ok (.aload_n 0, 1) := by decide +kernel
theorem dX7_solve_2 : decode cX7_solve 2 = .ok (.getfield 13, 3) := by decide +kernel
theorem dX7_solve_5 : decode cX7_solve 5 = .ok (.iconst 0, 1) := by decide +kernel
theorem dX7_solve_6 : decode cX7_solve 6 = .ok (.iaload, 1) := by decide +kernel
theorem dX7_solve_7 : decode cX7_solve 7 = .ok (.ishl, 1) := by decide +kernel
theorem dX7_solve_8 : decode cX7_solve 8 = .ok (.iconst 1, 1) := by decide +kernel
theorem dX7_solve_9 : decode cX7_solve 9 = .ok (.isub, 1) := by decide +kernel
theorem dX7_solve_10 : decode cX7_solve 10 = .ok (.istore_n 2, 1) := by decide +kernel
theorem dX7_solve_11 : decode cX7_solve 11 = .ok (.iload_n 2, 1) := by decide +kernel
theorem dX7_solve_12 : decode cX7_solve 12 = .ok (.ifCond .le 73, 3) := by decide +kernel
theorem dX7_solve_15 : decode cX7_solve 15 = .ok (.iconst 0, 1) := by decide +kernel
theorem dX7_solve_16 : decode cX7_solve 16 = .ok (.istore_n 3, 1) := by decide +kernel
theorem dX7_solve_17 : decode cX7_solve 17 = .ok (.iload_n 3, 1) := by decide +kernel
theorem dX7_solve_18 : decode cX7_solve 18 = .ok (.aload_n 0, 1) := by decide +kernel
theorem dX7_solve_19 : decode cX7_solve 19 = .ok (.getfield 13, 3) := by decide +kernel
theorem dX7_solve_22 : decode cX7_solve 22 = .ok (.iconst 0, 1) := by decide +kernel
theorem dX7_solve_23 : decode cX7_solve 23 = .ok (.iaload, 1) := by decide +kernel
theorem dX7_solve_24 : decode cX7_solve 24 = .ok (.if_icmp .ge 55, 3) := by decide +kernel
theorem dX7_solve_27 : decode cX7_solve 27 = .ok (.iload_n 2, 1) := by decide +kernel
theorem dX7_solve_28 : decode cX7_solve 28 = .ok (.iload_n 3, 1) := by decide +kernel
theorem dX7_solve_29 : decode cX7_solve 29 = .ok (.ishr, 1) := by decide +kernel
theorem dX7_solve_30 : decode cX7_solve 30 = .ok (.iconst 1, 1) := by decide +kernel
theorem dX7_solve_31 : decode cX7_solve 31 = .ok (.iand, 1) := by decide +kernel
theorem dX7_solve_32 : decode cX7_solve 32 = .ok (.iconst 1, 1) := by decide +kernel
theorem dX7_solve_33 : decode cX7_solve 33 = .ok (.if_icmp .ne 40, 3) := by decide +kernel
theorem dX7_solve_36 : decode cX7_solve 36 = .ok (.aload_n 0, 1) := by decide +kernel
theorem dX7_solve_37 : decode cX7_solve 37 = .ok (.getfield 17, 3) := by decide +kernel
theorem dX7_solve_40 : decode cX7_solve 40 = .ok (.iload_n 3, 1) := by decide +kernel
theorem dX7_solve_41 : decode cX7_solve 41 = .ok (.iaload, 1) := by decide +kernel
theorem dX7_solve_42 : decode cX7_solve 42 = .ok (.iconst 4, 1) := by decide +kernel
theorem dX7_solve_43 : decode cX7_solve 43 = .ok (.if_icmp .ne 18, 3) := by decide +kernel
theorem dX7_solve_46 : decode cX7_solve 46 = .ok (.aload_n 0, 1) := by decide +kernel
theorem dX7_solve_47 : decode cX7_solve 47 = .ok (.bipush 10, 2) := by decide +kernel
theorem dX7_solve_49 : decode cX7_solve 49 = .ok (.iload_n 2, 1) := by decide +kernel
theorem dX7_solve_50 : decode cX7_solve 50 = .ok (.imul, 1) := by decide +kernel
theorem dX7_solve_51 : decode cX7_solve 51 = .ok (.iload_n 3, 1) := by decide +kernel
theorem dX7_solve_52 : decode cX7_solve 52 = .ok (.iadd, 1) := by decide +kernel
theorem dX7_solve_53 : decode cX7_solve 53 = .ok (.iload_n 3, 1) := by decide +kernel
theorem dX7_solve_54 : decode cX7_solve 54 = .ok (.iload_n 1, 1) := by decide +kernel
theorem dX7_solve_55 : decode cX7_solve 55 = .ok (.invokevirtual 151, 3) := by decide +kernel
theorem dX7_solve_58 : decode cX7_solve 58 = .ok (.goto 15, 3) := by decide +kernel
theorem dX7_solve_61 : decode cX7_solve 61 = .ok (.aload_n 0, 1) := by decide +kernel
theorem dX7_solve_62 : decode cX7_solve 62 = .ok (.bipush 10, 2) := by decide +kernel
theorem dX7_solve_64 : decode cX7_solve 64 = .ok (.iload_n 2, 1) := by decide +kernel
theorem dX7_solve_65 : decode cX7_solve 65 = .ok (.imul, 1) := by decide +kernel
theorem dX7_solve_66 : decode cX7_solve 66 = .ok (.iload_n 3, 1) := by decide +kernel
theorem dX7_solve_67 : decode cX7_solve 67 = .ok (.iadd, 1) := by decide +kernel
theorem dX7_solve_68 : decode cX7_solve 68 = .ok (.iload_n 2, 1) := by decide +kernel
theorem dX7_solve_69 : decode cX7_solve 69 = .ok (.iload_n 3, 1) := by decide +kernel
theorem dX7_solve_70 : decode cX7_solve 70 = .ok (.invokevirtual 154, 3) := by decide +kernel
theorem dX7_solve_73 : decode cX7_solve 73 = .ok (.iinc 3 1, 3) := by decide +kernel
theorem dX7_solve_76 : decode cX7_solve 76 = .ok (.goto (-59), 3) := by decide +kernel
theorem dX7_solve_79 : decode cX7_solve 79 = .ok (.iinc 2 (-1), 3) := by decide +kernel
theorem dX7_solve_82 : decode cX7_solve 82 = .ok (.goto (-71), 3) := by decide +kernel
theorem dX7_solve_85 : decode cX7_solve 85 = .ok (.return_, 1) := by decide +kernel
theorem dX7_rowOf_0 : decode cX7_rowOf 0 = .ok (.bipush 10, 2) := by decide +kernel
theorem dX7_rowOf_2 : decode cX7_rowOf 2 = .ok (.iconst 1, 1) := by decide +kernel
theorem dX7_rowOf_3 : decode cX7_rowOf 3 = .ok (.iload_n 0, 1) := by decide +kernel
theorem dX7_rowOf_4 : decode cX7_rowOf 4 = .ok (.ishl, 1) := by decide +kernel
theorem dX7_rowOf_5 : decode cX7_rowOf 5 = .ok (.imul, 1) := by decide +kernel
theorem dX7_rowOf_6 : decode cX7_rowOf 6 = .ok (.iload_n 0, 1) := by decide +kernel
theorem dX7_rowOf_7 : decode cX7_rowOf 7 = .ok (.iadd, 1) := by decide +kernel
theorem dX7_rowOf_8 : decode cX7_rowOf 8 = .ok (.ireturn, 1) := by decide +kernel
theorem dX7_hasWhole_0 : decode cX7_hasWhole 0 = .ok (.aload_n 0, 1) := by decide +kernel
theorem dX7_hasWhole_1 : decode cX7_hasWhole 1 = .ok (.bipush (-4), 2) := by decide +kernel
theorem dX7_hasWhole_3 : decode cX7_hasWhole 3 = .ok (.invokevirtual 157, 3) := by decide +kernel
theorem dX7_hasWhole_6 : decode cX7_hasWhole 6 = .ok (.aload_n 0, 1) := by decide +kernel
theorem dX7_hasWhole_7 : decode cX7_hasWhole 7 = .ok (.iload_n 1, 1) := by decide +kernel
theorem dX7_hasWhole_8 : decode cX7_hasWhole 8 = .ok (.invokevirtual 161, 3) := by decide +kernel
theorem dX7_hasWhole_11 : decode cX7_hasWhole 11 = .ok (.ifCond .ne 19, 3) := by decide +kernel
theorem dX7_hasWhole_14 : decode cX7_hasWhole 14 = .ok (.aload_n 0, 1) := by decide +kernel
theorem dX7_hasWhole_15 : decode cX7_hasWhole 15 = .ok (.getfield 41, 3) := by decide +kernel
theorem dX7_hasWhole_18 : decode cX7_hasWhole 18 = .ok (.iload_n 1, 1) := by decide +kernel
theorem dX7_hasWhole_19 : decode cX7_hasWhole 19 = .ok (.invokestatic 164, 3) := by decide +kernel
theorem dX7_hasWhole_22 : decode cX7_hasWhole 22 = .ok (.iaload, 1) := by decide +kernel
theorem dX7_hasWhole_23 : decode cX7_hasWhole 23 = .ok (.ifCond .le 7, 3) := by decide +kernel
theorem dX7_hasWhole_26 : decode cX7_hasWhole 26 = .ok (.iconst 1, 1) := by decide +kernel
theorem dX7_hasWhole_27 : decode cX7_hasWhole 27 = .ok (.goto 4, 3) := by decide +kernel
theorem dX7_hasWhole_30 : decode cX7_hasWhole 30 = .ok (.iconst 0, 1) := by decide +kernel
theorem dX7_hasWhole_31 : decode cX7_hasWhole 31 = .ok (.ireturn, 1) := by decide +kernel
theorem dX7_chains_0 : decode cX7_chains 0 = .ok (.aload_n 0, 1) := by decide +kernel
theorem dX7_chains_1 : decode cX7_chains 1 = .ok (.iload_n 1, 1) := by decide +kernel
theorem dX7_chains_2 : decode cX7_chains 2 = .ok (.invokevirtual 167, 3) := by decide +kernel
theorem dX7_chains_5 : decode cX7_chains 5 = .ok (.ifCond .ne 5, 3) := by decide +kernel
theorem dX7_chains_8 : decode cX7_chains 8 = .ok (.iconst (-1), 1) := by decide +kernel
theorem dX7_chains_9 : decode cX7_chains 9 = .ok (.ireturn, 1) := by decide +kernel
theorem dX7_chains_10 : decode cX7_chains 10 = .ok (.aload_n 0, 1) := by decide +kernel
theorem dX7_chains_11 : decode cX7_chains 11 = .ok (.iload_n 1, 1) := by decide +kernel
theorem dX7_chains_12 : decode cX7_chains 12 = .ok (.invokevirtual 170, 3) := by decide +kernel
theorem dX7_chains_15 : decode cX7_chains 15 = .ok (.ifCond .eq 15, 3) := by decide +kernel
theorem dX7_chains_18 : decode cX7_chains 18 = .ok (.aload_n 0, 1) := by decide +kernel
theorem dX7_chains_19 : decode cX7_chains 19 = .ok (.getfield 41, 3) := by decide +kernel
theorem dX7_chains_22 : decode cX7_chains 22 = .ok (.iload_n 1, 1) := by decide +kernel
theorem dX7_chains_23 : decode cX7_chains 23 = .ok (.invokestatic 164, 3) := by decide +kernel
theorem dX7_chains_26 : decode cX7_chains 26 = .ok (.iaload, 1) := by decide +kernel
theorem dX7_chains_27 : decode cX7_chains 27 = .ok (.goto 4, 3) := by decide +kernel
theorem dX7_chains_30 : decode cX7_chains 30 = .ok (.iconst 0, 1) := by decide +kernel
theorem dX7_chains_31 : decode cX7_chains 31 = .ok (.ireturn, 1) := by decide +kernel
theorem dX7_followFrom_0 : decode cX7_followFrom 0 = .ok (.iconst 1, 1) := by decide +kernel
theorem dX7_followFrom_1 : decode cX7_followFrom 1 = .ok (.iload_n 1, 1) := by decide +kernel
theorem dX7_followFrom_2 : decode cX7_followFrom 2 = .ok (.ishl, 1) := by decide +kernel
theorem dX7_followFrom_3 : decode cX7_followFrom 3 = .ok (.istore_n 2, 1) := by decide +kernel
theorem dX7_followFrom_4 : decode cX7_followFrom 4 = .ok (.iload_n 1, 1) := by decide +kernel
theorem dX7_followFrom_5 : decode cX7_followFrom 5 = .ok (.istore_n 3, 1) := by decide +kernel
theorem dX7_followFrom_6 : decode cX7_followFrom 6 = .ok (.aload_n 0, 1) := by decide +kernel
theorem dX7_followFrom_7 : decode cX7_followFrom 7 = .ok (.getfield 68, 3) := by decide +kernel
theorem dX7_followFrom_10 : decode cX7_followFrom 10 = .ok (.iconst 0, 1) := by decide +kernel
theorem dX7_followFrom_11 : decode cX7_followFrom 11 = .ok (.iload_n 1, 1) := by decide +kernel
theorem dX7_followFrom_12 : decode cX7_followFrom 12 = .ok (.iastore, 1) := by decide +kernel
theorem dX7_followFrom_13 : decode cX7_followFrom 13 = .ok (.aload_n 0, 1) := by decide +kernel
theorem dX7_followFrom_14 : decode cX7_followFrom 14 = .ok (.iconst 1, 1) := by decide +kernel
theorem dX7_followFrom_15 : decode cX7_followFrom 15 = .ok (.putfield 173, 3) := by decide +kernel
theorem dX7_followFrom_18 : decode cX7_followFrom 18 = .ok (.aload_n 0, 1) := by decide +kernel
theorem dX7_followFrom_19 : decode cX7_followFrom 19 = .ok (.getfield 17, 3) := by decide +kernel
theorem dX7_followFrom_22 : decode cX7_followFrom 22 = .ok (.iload_n 3, 1) := by decide +kernel
theorem dX7_followFrom_23 : decode cX7_followFrom 23 = .ok (.iaload, 1) := by decide +kernel
theorem dX7_followFrom_24 : decode cX7_followFrom 24 = .ok (.iconst 4, 1) := by decide +kernel
theorem dX7_followFrom_25 : decode cX7_followFrom 25 = .ok (.if_icmp .eq 44, 3) := by decide +kernel
theorem dX7_followFrom_28 : decode cX7_followFrom 28 = .ok (.aload_n 0, 1) := by decide +kernel
theorem dX7_followFrom_29 : decode cX7_followFrom 29 = .ok (.getfield 50, 3) := by decide +kernel
theorem dX7_followFrom_32 : decode cX7_followFrom 32 = .ok (.bipush 10, 2) := by decide +kernel
theorem dX7_followFrom_34 : decode cX7_followFrom 34 = .ok (.iload_n 2, 1) := by decide +kernel
theorem dX7_followFrom_35 : decode cX7_followFrom 35 = .ok (.imul, 1) := by decide +kernel
theorem dX7_followFrom_36 : decode cX7_followFrom 36 = .ok (.iload_n 3, 1) := by decide +kernel
theorem dX7_followFrom_37 : decode cX7_followFrom 37 = .ok (.iadd, 1) := by decide +kernel
theorem dX7_followFrom_38 : decode cX7_followFrom 38 = .ok (.iaload, 1) := by decide +kernel
theorem dX7_followFrom_39 : decode cX7_followFrom 39 = .ok (.istore_n 3, 1) := by decide +kernel
theorem dX7_followFrom_40 : decode cX7_followFrom 40 = .ok (.iload_n 2, 1) := by decide +kernel
theorem dX7_followFrom_41 : decode cX7_followFrom 41 = .ok (.iconst 1, 1) := by decide +kernel
theorem dX7_followFrom_42 : decode cX7_followFrom 42 = .ok (.iload_n 3, 1) := by decide +kernel
theorem dX7_followFrom_43 : decode cX7_followFrom 43 = .ok (.ishl, 1) := by decide +kernel
theorem dX7_followFrom_44 : decode cX7_followFrom 44 = .ok (.ior, 1) := by decide +kernel
theorem dX7_followFrom_45 : decode cX7_followFrom 45 = .ok (.istore_n 2, 1) := by decide +kernel
theorem dX7_followFrom_46 : decode cX7_followFrom 46 = .ok (.aload_n 0, 1) := by decide +kernel
theorem dX7_followFrom_47 : decode cX7_followFrom 47 = .ok (.getfield 68, 3) := by decide +kernel
theorem dX7_followFrom_50 : decode cX7_followFrom 50 = .ok (.aload_n 0, 1) := by decide +kernel
theorem dX7_followFrom_51 : decode cX7_followFrom 51 = .ok (.getfield 173, 3) := by decide +kernel
theorem dX7_followFrom_54 : decode cX7_followFrom 54 = .ok (.iload_n 3, 1) := by decide +kernel
theorem dX7_followFrom_55 : decode cX7_followFrom 55 = .ok (.iastore, 1) := by decide +kernel
theorem dX7_followFrom_56 : decode cX7_followFrom 56 = .ok (.aload_n 0, 1) := by decide +kernel
theorem dX7_followFrom_57 : decode cX7_followFrom 57 = .ok (.dup, 1) := by decide +kernel
theorem dX7_followFrom_58 : decode cX7_followFrom 58 = .ok (.getfield 173, 3) := by decide +kernel
theorem dX7_followFrom_61 : decode cX7_followFrom 61 = .ok (.iconst 1, 1) := by decide +kernel
theorem dX7_followFrom_62 : decode cX7_followFrom 62 = .ok (.iadd, 1) := by decide +kernel
theorem dX7_followFrom_63 : decode cX7_followFrom 63 = .ok (.putfield 173, 3) := by decide +kernel
theorem dX7_followFrom_66 : decode cX7_followFrom 66 = .ok (.goto (-48), 3) := by decide +kernel
theorem dX7_followFrom_69 : decode cX7_followFrom 69 = .ok (.return_, 1) := by decide +kernel
theorem dX7_shortest_0 : decode cX7_shortest 0 = .ok (.aload_n 0, 1) := by decide +kernel
theorem dX7_shortest_1 : decode cX7_shortest 1 = .ok (.iload_n 1, 1) := by decide +kernel
theorem dX7_shortest_2 : decode cX7_shortest 2 = .ok (.invokevirtual 167, 3) := by decide +kernel
theorem dX7_shortest_5 : decode cX7_shortest 5 = .ok (.ifCond .eq 9, 3) := by decide +kernel
theorem dX7_shortest_8 : decode cX7_shortest 8 = .ok (.iload_n 2, 1) := by decide +kernel
theorem dX7_shortest_9 : decode cX7_shortest 9 = .ok (.bipush (-2), 2) := by decide +kernel
theorem dX7_shortest_11 : decode cX7_shortest 11 = .ok (.if_icmp .ge 5, 3) := by decide +kernel
theorem dX7_shortest_14 : decode cX7_shortest 14 = .ok (.iconst (-1), 1) := by decide +kernel
theorem dX7_shortest_15 : decode cX7_shortest 15 = .ok (.ireturn, 1) := by decide +kernel
theorem dX7_shortest_16 : decode cX7_shortest 16 = .ok (.aload_n 0, 1) := by decide +kernel
theorem dX7_shortest_17 : decode cX7_shortest 17 = .ok (.iload_n 1, 1) := by decide +kernel
theorem dX7_shortest_18 : decode cX7_shortest 18 = .ok (.invokevirtual 170, 3) := by decide +kernel
theorem dX7_shortest_21 : decode cX7_shortest 21 = .ok (.ifCond .ne 6, 3) := by decide +kernel
theorem dX7_shortest_24 : decode cX7_shortest 24 = .ok (.bipush (-4), 2) := by decide +kernel
theorem dX7_shortest_26 : decode cX7_shortest 26 = .ok (.ireturn, 1) := by decide +kernel
theorem dX7_shortest_27 : decode cX7_shortest 27 = .ok (.aload_n 0, 1) := by decide +kernel
theorem dX7_shortest_28 : decode cX7_shortest 28 = .ok (.iload_n 1, 1) := by decide +kernel
theorem dX7_shortest_29 : decode cX7_shortest 29 = .ok (.invokevirtual 176, 3) := by decide +kernel
theorem dX7_shortest_32 : decode cX7_shortest 32 = .ok (.iload_n 2, 1) := by decide +kernel
theorem dX7_shortest_33 : decode cX7_shortest 33 = .ok (.bipush (-2), 2) := by decide +kernel
theorem dX7_shortest_35 : decode cX7_shortest 35 = .ok (.if_icmp .ne 22, 3) := by decide +kernel
theorem dX7_shortest_38 : decode cX7_shortest 38 = .ok (.aload_n 0, 1) := by decide +kernel
theorem dX7_shortest_39 : decode cX7_shortest 39 = .ok (.iload_n 1, 1) := by decide +kernel
theorem dX7_shortest_40 : decode cX7_shortest 40 = .ok (.iconst 0, 1) := by decide +kernel
theorem dX7_shortest_41 : decode cX7_shortest 41 = .ok (.bipush (-4), 2) := by decide +kernel
theorem dX7_shortest_43 : decode cX7_shortest 43 = .ok (.invokevirtual 141, 3) := by decide +kernel
theorem dX7_shortest_46 : decode cX7_shortest 46 = .ok (.aload_n 0, 1) := by decide +kernel
theorem dX7_shortest_47 : decode cX7_shortest 47 = .ok (.getfield 44, 3) := by decide +kernel
theorem dX7_shortest_50 : decode cX7_shortest 50 = .ok (.iload_n 1, 1) := by decide +kernel
theorem dX7_shortest_51 : decode cX7_shortest 51 = .ok (.invokestatic 164, 3) := by decide +kernel
theorem dX7_shortest_54 : decode cX7_shortest 54 = .ok (.iaload, 1) := by decide +kernel
theorem dX7_shortest_55 : decode cX7_shortest 55 = .ok (.iadd, 1) := by decide +kernel
theorem dX7_shortest_56 : decode cX7_shortest 56 = .ok (.ireturn, 1) := by decide +kernel
theorem dX7_shortest_57 : decode cX7_shortest 57 = .ok (.iload_n 2, 1) := by decide +kernel
theorem dX7_shortest_58 : decode cX7_shortest 58 = .ok (.iconst (-1), 1) := by decide +kernel
theorem dX7_shortest_59 : decode cX7_shortest 59 = .ok (.if_icmp .ne 10, 3) := by decide +kernel
theorem dX7_shortest_62 : decode cX7_shortest 62 = .ok (.aload_n 0, 1) := by decide +kernel
theorem dX7_shortest_63 : decode cX7_shortest 63 = .ok (.getfield 173, 3) := by decide +kernel
theorem dX7_shortest_66 : decode cX7_shortest 66 = .ok (.goto 22, 3) := by decide +kernel
theorem dX7_shortest_69 : decode cX7_shortest 69 = .ok (.iload_n 2, 1) := by decide +kernel
theorem dX7_shortest_70 : decode cX7_shortest 70 = .ok (.aload_n 0, 1) := by decide +kernel
theorem dX7_shortest_71 : decode cX7_shortest 71 = .ok (.getfield 173, 3) := by decide +kernel
theorem dX7_shortest_74 : decode cX7_shortest 74 = .ok (.if_icmp .ge 12, 3) := by decide +kernel
theorem dX7_shortest_77 : decode cX7_shortest 77 = .ok (.aload_n 0, 1) := by decide +kernel
theorem dX7_shortest_78 : decode cX7_shortest 78 = .ok (.getfield 68, 3) := by decide +kernel
theorem dX7_shortest_81 : decode cX7_shortest 81 = .ok (.iload_n 2, 1) := by decide +kernel
theorem dX7_shortest_82 : decode cX7_shortest 82 = .ok (.iaload, 1) := by decide +kernel
theorem dX7_shortest_83 : decode cX7_shortest 83 = .ok (.goto 5, 3) := by decide +kernel
theorem dX7_shortest_86 : decode cX7_shortest 86 = .ok (.bipush (-4), 2) := by decide +kernel
theorem dX7_shortest_88 : decode cX7_shortest 88 = .ok (.ireturn, 1) := by decide +kernel
theorem dX7_nights_0 : decode cX7_nights 0 = .ok (.aload_n 0, 1) := by decide +kernel
theorem dX7_nights_1 : decode cX7_nights 1 = .ok (.iload_n 1, 1) := by decide +kernel
theorem dX7_nights_2 : decode cX7_nights 2 = .ok (.invokevirtual 167, 3) := by decide +kernel
theorem dX7_nights_5 : decode cX7_nights 5 = .ok (.ifCond .ne 5, 3) := by decide +kernel
theorem dX7_nights_8 : decode cX7_nights 8 = .ok (.iconst (-1), 1) := by decide +kernel
theorem dX7_nights_9 : decode cX7_nights 9 = .ok (.ireturn, 1) := by decide +kernel
theorem dX7_nights_10 : decode cX7_nights 10 = .ok (.aload_n 0, 1) := by decide +kernel
theorem dX7_nights_11 : decode cX7_nights 11 = .ok (.iload_n 1, 1) := by decide +kernel
theorem dX7_nights_12 : decode cX7_nights 12 = .ok (.invokevirtual 170, 3) := by decide +kernel
theorem dX7_nights_15 : decode cX7_nights 15 = .ok (.ifCond .eq 15, 3) := by decide +kernel
theorem dX7_nights_18 : decode cX7_nights 18 = .ok (.aload_n 0, 1) := by decide +kernel
theorem dX7_nights_19 : decode cX7_nights 19 = .ok (.getfield 62, 3) := by decide +kernel
theorem dX7_nights_22 : decode cX7_nights 22 = .ok (.iload_n 1, 1) := by decide +kernel
theorem dX7_nights_23 : decode cX7_nights 23 = .ok (.invokestatic 164, 3) := by decide +kernel
theorem dX7_nights_26 : decode cX7_nights 26 = .ok (.iaload, 1) := by decide +kernel
theorem dX7_nights_27 : decode cX7_nights 27 = .ok (.goto 4, 3) := by decide +kernel
theorem dX7_nights_30 : decode cX7_nights 30 = .ok (.iconst 0, 1) := by decide +kernel
theorem dX7_nights_31 : decode cX7_nights 31 = .ok (.ireturn, 1) := by decide +kernel
theorem dX7_needed_0 : decode cX7_needed 0 = .ok (.aload_n 0, 1) := by decide +kernel
theorem dX7_needed_1 : decode cX7_needed 1 = .ok (.iload_n 1, 1) := by decide +kernel
theorem dX7_needed_2 : decode cX7_needed 2 = .ok (.invokevirtual 167, 3) := by decide +kernel
theorem dX7_needed_5 : decode cX7_needed 5 = .ok (.ifCond .ne 5, 3) := by decide +kernel
theorem dX7_needed_8 : decode cX7_needed 8 = .ok (.iconst (-1), 1) := by decide +kernel
theorem dX7_needed_9 : decode cX7_needed 9 = .ok (.ireturn, 1) := by decide +kernel
theorem dX7_needed_10 : decode cX7_needed 10 = .ok (.aload_n 0, 1) := by decide +kernel
theorem dX7_needed_11 : decode cX7_needed 11 = .ok (.iload_n 1, 1) := by decide +kernel
theorem dX7_needed_12 : decode cX7_needed 12 = .ok (.invokevirtual 170, 3) := by decide +kernel
theorem dX7_needed_15 : decode cX7_needed 15 = .ok (.ifCond .eq 19, 3) := by decide +kernel
theorem dX7_needed_18 : decode cX7_needed 18 = .ok (.aload_n 0, 1) := by decide +kernel
theorem dX7_needed_19 : decode cX7_needed 19 = .ok (.getfield 56, 3) := by decide +kernel
theorem dX7_needed_22 : decode cX7_needed 22 = .ok (.iload_n 1, 1) := by decide +kernel
theorem dX7_needed_23 : decode cX7_needed 23 = .ok (.invokestatic 164, 3) := by decide +kernel
theorem dX7_needed_26 : decode cX7_needed 26 = .ok (.iaload, 1) := by decide +kernel
theorem dX7_needed_27 : decode cX7_needed 27 = .ok (.iconst 1, 1) := by decide +kernel
theorem dX7_needed_28 : decode cX7_needed 28 = .ok (.iload_n 1, 1) := by decide +kernel
theorem dX7_needed_29 : decode cX7_needed 29 = .ok (.ishl, 1) := by decide +kernel
theorem dX7_needed_30 : decode cX7_needed 30 = .ok (.ior, 1) := by decide +kernel
theorem dX7_needed_31 : decode cX7_needed 31 = .ok (.goto 4, 3) := by decide +kernel
theorem dX7_needed_34 : decode cX7_needed 34 = .ok (.iconst 0, 1) := by decide +kernel
theorem dX7_needed_35 : decode cX7_needed 35 = .ok (.ireturn, 1) := by decide +kernel
theorem dX7_forgotten_0 : decode cX7_forgotten 0 = .ok (.aload_n 0, 1) := by decide +kernel
theorem dX7_forgotten_1 : decode cX7_forgotten 1 = .ok (.bipush (-4), 2) := by decide +kernel
theorem dX7_forgotten_3 : decode cX7_forgotten 3 = .ok (.invokevirtual 157, 3) := by decide +kernel
theorem dX7_forgotten_6 : decode cX7_forgotten 6 = .ok (.iconst 1, 1) := by decide +kernel
theorem dX7_forgotten_7 : decode cX7_forgotten 7 = .ok (.aload_n 0, 1) := by decide +kernel
theorem dX7_forgotten_8 : decode cX7_forgotten 8 = .ok (.getfield 13, 3) := by decide +kernel
theorem dX7_forgotten_11 : decode cX7_forgotten 11 = .ok (.iconst 0, 1) := by decide +kernel
theorem dX7_forgotten_12 : decode cX7_forgotten 12 = .ok (.iaload, 1) := by decide +kernel
theorem dX7_forgotten_13 : decode cX7_forgotten 13 = .ok (.ishl, 1) := by decide +kernel
theorem dX7_forgotten_14 : decode cX7_forgotten 14 = .ok (.iconst 1, 1) := by decide +kernel
theorem dX7_forgotten_15 : decode cX7_forgotten 15 = .ok (.isub, 1) := by decide +kernel
theorem dX7_forgotten_16 : decode cX7_forgotten 16 = .ok (.aload_n 0, 1) := by decide +kernel
theorem dX7_forgotten_17 : decode cX7_forgotten 17 = .ok (.getfield 38, 3) := by decide +kernel
theorem dX7_forgotten_20 : decode cX7_forgotten 20 = .ok (.iconst 1, 1) := by decide +kernel
theorem dX7_forgotten_21 : decode cX7_forgotten 21 = .ok (.iaload, 1) := by decide +kernel
theorem dX7_forgotten_22 : decode cX7_forgotten 22 = .ok (.iconst (-1), 1) := by decide +kernel
theorem dX7_forgotten_23 : decode cX7_forgotten 23 = .ok (.ixor, 1) := by decide +kernel
theorem dX7_forgotten_24 : decode cX7_forgotten 24 = .ok (.iand, 1) := by decide +kernel
theorem dX7_forgotten_25 : decode cX7_forgotten 25 = .ok (.istore_n 1, 1) := by decide +kernel
theorem dX7_forgotten_26 : decode cX7_forgotten 26 = .ok (.iconst 0, 1) := by decide +kernel
theorem dX7_forgotten_27 : decode cX7_forgotten 27 = .ok (.istore_n 2, 1) := by decide +kernel
theorem dX7_forgotten_28 : decode cX7_forgotten 28 = .ok (.iload_n 2, 1) := by decide +kernel
theorem dX7_forgotten_29 : decode cX7_forgotten 29 = .ok (.aload_n 0, 1) := by decide +kernel
theorem dX7_forgotten_30 : decode cX7_forgotten 30 = .ok (.getfield 13, 3) := by decide +kernel
theorem dX7_forgotten_33 : decode cX7_forgotten 33 = .ok (.iconst 0, 1) := by decide +kernel
theorem dX7_forgotten_34 : decode cX7_forgotten 34 = .ok (.iaload, 1) := by decide +kernel
theorem dX7_forgotten_35 : decode cX7_forgotten 35 = .ok (.if_icmp .ge 69, 3) := by decide +kernel
theorem dX7_forgotten_38 : decode cX7_forgotten 38 = .ok (.aload_n 0, 1) := by decide +kernel
theorem dX7_forgotten_39 : decode cX7_forgotten 39 = .ok (.iload_n 2, 1) := by decide +kernel
theorem dX7_forgotten_40 : decode cX7_forgotten 40 = .ok (.invokevirtual 167, 3) := by decide +kernel
theorem dX7_forgotten_43 : decode cX7_forgotten 43 = .ok (.ifCond .eq 27, 3) := by decide +kernel
theorem dX7_forgotten_46 : decode cX7_forgotten 46 = .ok (.aload_n 0, 1) := by decide +kernel
theorem dX7_forgotten_47 : decode cX7_forgotten 47 = .ok (.iload_n 2, 1) := by decide +kernel
theorem dX7_forgotten_48 : decode cX7_forgotten 48 = .ok (.invokevirtual 161, 3) := by decide +kernel
theorem dX7_forgotten_51 : decode cX7_forgotten 51 = .ok (.ifCond .ne 19, 3) := by decide +kernel
theorem dX7_forgotten_54 : decode cX7_forgotten 54 = .ok (.aload_n 0, 1) := by decide +kernel
theorem dX7_forgotten_55 : decode cX7_forgotten 55 = .ok (.getfield 41, 3) := by decide +kernel
theorem dX7_forgotten_58 : decode cX7_forgotten 58 = .ok (.iload_n 2, 1) := by decide +kernel
theorem dX7_forgotten_59 : decode cX7_forgotten 59 = .ok (.invokestatic 164, 3) := by decide +kernel
theorem dX7_forgotten_62 : decode cX7_forgotten 62 = .ok (.iaload, 1) := by decide +kernel
theorem dX7_forgotten_63 : decode cX7_forgotten 63 = .ok (.ifCond .le 7, 3) := by decide +kernel
theorem dX7_forgotten_66 : decode cX7_forgotten 66 = .ok (.iconst 1, 1) := by decide +kernel
theorem dX7_forgotten_67 : decode cX7_forgotten 67 = .ok (.goto 4, 3) := by decide +kernel
theorem dX7_forgotten_70 : decode cX7_forgotten 70 = .ok (.iconst 0, 1) := by decide +kernel
theorem dX7_forgotten_71 : decode cX7_forgotten 71 = .ok (.istore_n 3, 1) := by decide +kernel
theorem dX7_forgotten_72 : decode cX7_forgotten 72 = .ok (.iload_n 1, 1) := by decide +kernel
theorem dX7_forgotten_73 : decode cX7_forgotten 73 = .ok (.iload_n 3, 1) := by decide +kernel
theorem dX7_forgotten_74 : decode cX7_forgotten 74 = .ok (.ifCond .eq 21, 3) := by decide +kernel
theorem dX7_forgotten_77 : decode cX7_forgotten 77 = .ok (.aload_n 0, 1) := by decide +kernel
theorem dX7_forgotten_78 : decode cX7_forgotten 78 = .ok (.getfield 59, 3) := by decide +kernel
theorem dX7_forgotten_81 : decode cX7_forgotten 81 = .ok (.iload_n 2, 1) := by decide +kernel
theorem dX7_forgotten_82 : decode cX7_forgotten 82 = .ok (.invokestatic 164, 3) := by decide +kernel
theorem dX7_forgotten_85 : decode cX7_forgotten 85 = .ok (.iaload, 1) := by decide +kernel
theorem dX7_forgotten_86 : decode cX7_forgotten 86 = .ok (.iconst 1, 1) := by decide +kernel
theorem dX7_forgotten_87 : decode cX7_forgotten 87 = .ok (.iload_n 2, 1) := by decide +kernel
theorem dX7_forgotten_88 : decode cX7_forgotten 88 = .ok (.ishl, 1) := by decide +kernel
theorem dX7_forgotten_89 : decode cX7_forgotten 89 = .ok (.ior, 1) := by decide +kernel
theorem dX7_forgotten_90 : decode cX7_forgotten 90 = .ok (.iconst (-1), 1) := by decide +kernel
theorem dX7_forgotten_91 : decode cX7_forgotten 91 = .ok (.ixor, 1) := by decide +kernel
theorem dX7_forgotten_92 : decode cX7_forgotten 92 = .ok (.goto 4, 3) := by decide +kernel
theorem dX7_forgotten_95 : decode cX7_forgotten 95 = .ok (.iconst (-1), 1) := by decide +kernel
theorem dX7_forgotten_96 : decode cX7_forgotten 96 = .ok (.iand, 1) := by decide +kernel
theorem dX7_forgotten_97 : decode cX7_forgotten 97 = .ok (.istore_n 1, 1) := by decide +kernel
theorem dX7_forgotten_98 : decode cX7_forgotten 98 = .ok (.iinc 2 1, 3) := by decide +kernel
theorem dX7_forgotten_101 : decode cX7_forgotten 101 = .ok (.goto (-73), 3) := by decide +kernel
theorem dX7_forgotten_104 : decode cX7_forgotten 104 = .ok (.iload_n 1, 1) := by decide +kernel
theorem dX7_forgotten_105 : decode cX7_forgotten 105 = .ok (.ireturn, 1) := by decide +kernel
theorem dX7_costTo_0 : decode cX7_costTo 0 = .ok (.aload_n 0, 1) := by decide +kernel
theorem dX7_costTo_1 : decode cX7_costTo 1 = .ok (.iload_n 1, 1) := by decide +kernel
theorem dX7_costTo_2 : decode cX7_costTo 2 = .ok (.invokevirtual 161, 3) := by decide +kernel
theorem dX7_costTo_5 : decode cX7_costTo 5 = .ok (.ifCond .ne 17, 3) := by decide +kernel
theorem dX7_costTo_8 : decode cX7_costTo 8 = .ok (.aload_n 0, 1) := by decide +kernel
theorem dX7_costTo_9 : decode cX7_costTo 9 = .ok (.getfield 44, 3) := by decide +kernel
theorem dX7_costTo_12 : decode cX7_costTo 12 = .ok (.iload_n 1, 1) := by decide +kernel
theorem dX7_costTo_13 : decode cX7_costTo 13 = .ok (.invokestatic 164, 3) := by decide +kernel
theorem dX7_costTo_16 : decode cX7_costTo 16 = .ok (.iaload, 1) := by decide +kernel
theorem dX7_costTo_17 : decode cX7_costTo 17 = .ok (.ldc 144, 2) := by decide +kernel
theorem dX7_costTo_19 : decode cX7_costTo 19 = .ok (.if_icmp .lt 8, 3) := by decide +kernel
theorem dX7_costTo_22 : decode cX7_costTo 22 = .ok (.ldc 144, 2) := by decide +kernel
theorem dX7_costTo_24 : decode cX7_costTo 24 = .ok (.goto 21, 3) := by decide +kernel
theorem dX7_costTo_27 : decode cX7_costTo 27 = .ok (.aload_n 0, 1) := by decide +kernel
theorem dX7_costTo_28 : decode cX7_costTo 28 = .ok (.iload_n 1, 1) := by decide +kernel
theorem dX7_costTo_29 : decode cX7_costTo 29 = .ok (.iconst 0, 1) := by decide +kernel
theorem dX7_costTo_30 : decode cX7_costTo 30 = .ok (.bipush (-4), 2) := by decide +kernel
theorem dX7_costTo_32 : decode cX7_costTo 32 = .ok (.invokevirtual 141, 3) := by decide +kernel
theorem dX7_costTo_35 : decode cX7_costTo 35 = .ok (.aload_n 0, 1) := by decide +kernel
theorem dX7_costTo_36 : decode cX7_costTo 36 = .ok (.getfield 44, 3) := by decide +kernel
theorem dX7_costTo_39 : decode cX7_costTo 39 = .ok (.iload_n 1, 1) := by decide +kernel
theorem dX7_costTo_40 : decode cX7_costTo 40 = .ok (.invokestatic 164, 3) := by decide +kernel
theorem dX7_costTo_43 : decode cX7_costTo 43 = .ok (.iaload, 1) := by decide +kernel
theorem dX7_costTo_44 : decode cX7_costTo 44 = .ok (.iadd, 1) := by decide +kernel
theorem dX7_costTo_45 : decode cX7_costTo 45 = .ok (.ireturn, 1) := by decide +kernel
theorem dX7_both_0 : decode cX7_both 0 = .ok (.aload_n 0, 1) := by decide +kernel
theorem dX7_both_1 : decode cX7_both 1 = .ok (.iload_n 1, 1) := by decide +kernel
theorem dX7_both_2 : decode cX7_both 2 = .ok (.invokevirtual 167, 3) := by decide +kernel
theorem dX7_both_5 : decode cX7_both 5 = .ok (.ifCond .eq 20, 3) := by decide +kernel
theorem dX7_both_8 : decode cX7_both 8 = .ok (.aload_n 0, 1) := by decide +kernel
theorem dX7_both_9 : decode cX7_both 9 = .ok (.iload_n 2, 1) := by decide +kernel
theorem dX7_both_10 : decode cX7_both 10 = .ok (.invokevirtual 167, 3) := by decide +kernel
theorem dX7_both_13 : decode cX7_both 13 = .ok (.ifCond .eq 12, 3) := by decide +kernel
theorem dX7_both_16 : decode cX7_both 16 = .ok (.iload_n 3, 1) := by decide +kernel
theorem dX7_both_17 : decode cX7_both 17 = .ok (.iconst 0, 1) := by decide +kernel
theorem dX7_both_18 : decode cX7_both 18 = .ok (.iconst 1, 1) := by decide +kernel
theorem dX7_both_19 : decode cX7_both 19 = .ok (.invokestatic 82, 3) := by decide +kernel
theorem dX7_both_22 : decode cX7_both 22 = .ok (.ifCond .ne 5, 3) := by decide +kernel
theorem dX7_both_25 : decode cX7_both 25 = .ok (.iconst (-1), 1) := by decide +kernel
theorem dX7_both_26 : decode cX7_both 26 = .ok (.ireturn, 1) := by decide +kernel
theorem dX7_both_27 : decode cX7_both 27 = .ok (.bipush (-4), 2) := by decide +kernel
theorem dX7_both_29 : decode cX7_both 29 = .ok (.istore 4, 2) := by decide +kernel
theorem dX7_both_31 : decode cX7_both 31 = .ok (.ldc 144, 2) := by decide +kernel
theorem dX7_both_33 : decode cX7_both 33 = .ok (.istore 5, 2) := by decide +kernel
theorem dX7_both_35 : decode cX7_both 35 = .ok (.iconst 0, 1) := by decide +kernel
theorem dX7_both_36 : decode cX7_both 36 = .ok (.istore 6, 2) := by decide +kernel
theorem dX7_both_38 : decode cX7_both 38 = .ok (.iload 6, 2) := by decide +kernel
theorem dX7_both_40 : decode cX7_both 40 = .ok (.aload_n 0, 1) := by decide +kernel
theorem dX7_both_41 : decode cX7_both 41 = .ok (.getfield 13, 3) := by decide +kernel
theorem dX7_both_44 : decode cX7_both 44 = .ok (.iconst 0, 1) := by decide +kernel
theorem dX7_both_45 : decode cX7_both 45 = .ok (.iaload, 1) := by decide +kernel
theorem dX7_both_46 : decode cX7_both 46 = .ok (.if_icmp .ge 71, 3) := by decide +kernel
theorem dX7_both_49 : decode cX7_both 49 = .ok (.aload_n 0, 1) := by decide +kernel
theorem dX7_both_50 : decode cX7_both 50 = .ok (.getfield 17, 3) := by decide +kernel
theorem dX7_both_53 : decode cX7_both 53 = .ok (.iload 6, 2) := by decide +kernel
theorem dX7_both_55 : decode cX7_both 55 = .ok (.iaload, 1) := by decide +kernel
theorem dX7_both_56 : decode cX7_both 56 = .ok (.iconst 4, 1) := by decide +kernel
theorem dX7_both_57 : decode cX7_both 57 = .ok (.if_icmp .ne 54, 3) := by decide +kernel
theorem dX7_both_60 : decode cX7_both 60 = .ok (.aload_n 0, 1) := by decide +kernel
theorem dX7_both_61 : decode cX7_both 61 = .ok (.iload 6, 2) := by decide +kernel
theorem dX7_both_63 : decode cX7_both 63 = .ok (.invokevirtual 157, 3) := by decide +kernel
theorem dX7_both_66 : decode cX7_both 66 = .ok (.aload_n 0, 1) := by decide +kernel
theorem dX7_both_67 : decode cX7_both 67 = .ok (.iload_n 1, 1) := by decide +kernel
theorem dX7_both_68 : decode cX7_both 68 = .ok (.invokevirtual 179, 3) := by decide +kernel
theorem dX7_both_71 : decode cX7_both 71 = .ok (.aload_n 0, 1) := by decide +kernel
theorem dX7_both_72 : decode cX7_both 72 = .ok (.iload_n 2, 1) := by decide +kernel
theorem dX7_both_73 : decode cX7_both 73 = .ok (.invokevirtual 179, 3) := by decide +kernel
theorem dX7_both_76 : decode cX7_both 76 = .ok (.iadd, 1) := by decide +kernel
theorem dX7_both_77 : decode cX7_both 77 = .ok (.istore 7, 2) := by decide +kernel
theorem dX7_both_79 : decode cX7_both 79 = .ok (.iload 7, 2) := by decide +kernel
theorem dX7_both_81 : decode cX7_both 81 = .ok (.iload 5, 2) := by decide +kernel
theorem dX7_both_83 : decode cX7_both 83 = .ok (.if_icmp .ge 8, 3) := by decide +kernel
theorem dX7_both_86 : decode cX7_both 86 = .ok (.iload 6, 2) := by decide +kernel
theorem dX7_both_88 : decode cX7_both 88 = .ok (.goto 5, 3) := by decide +kernel
theorem dX7_both_91 : decode cX7_both 91 = .ok (.iload 4, 2) := by decide +kernel
theorem dX7_both_93 : decode cX7_both 93 = .ok (.istore 4, 2) := by decide +kernel
theorem dX7_both_95 : decode cX7_both 95 = .ok (.iload 7, 2) := by decide +kernel
theorem dX7_both_97 : decode cX7_both 97 = .ok (.iload 5, 2) := by decide +kernel
theorem dX7_both_99 : decode cX7_both 99 = .ok (.if_icmp .ge 8, 3) := by decide +kernel
theorem dX7_both_102 : decode cX7_both 102 = .ok (.iload 7, 2) := by decide +kernel
theorem dX7_both_104 : decode cX7_both 104 = .ok (.goto 5, 3) := by decide +kernel
theorem dX7_both_107 : decode cX7_both 107 = .ok (.iload 5, 2) := by decide +kernel
theorem dX7_both_109 : decode cX7_both 109 = .ok (.istore 5, 2) := by decide +kernel
theorem dX7_both_111 : decode cX7_both 111 = .ok (.iinc 6 1, 3) := by decide +kernel
theorem dX7_both_114 : decode cX7_both 114 = .ok (.goto (-76), 3) := by decide +kernel
theorem dX7_both_117 : decode cX7_both 117 = .ok (.iload 4, 2) := by decide +kernel
theorem dX7_both_119 : decode cX7_both 119 = .ok (.bipush (-4), 2) := by decide +kernel
theorem dX7_both_121 : decode cX7_both 121 = .ok (.if_icmp .eq 7, 3) := by decide +kernel
theorem dX7_both_124 : decode cX7_both 124 = .ok (.iload_n 3, 1) := by decide +kernel
theorem dX7_both_125 : decode cX7_both 125 = .ok (.ifCond .ne 8, 3) := by decide +kernel
theorem dX7_both_128 : decode cX7_both 128 = .ok (.iload 4, 2) := by decide +kernel
theorem dX7_both_130 : decode cX7_both 130 = .ok (.goto 5, 3) := by decide +kernel
theorem dX7_both_133 : decode cX7_both 133 = .ok (.iload 5, 2) := by decide +kernel
theorem dX7_both_135 : decode cX7_both 135 = .ok (.ireturn, 1) := by decide +kernel
theorem dX7_byTurns_0 : decode cX7_byTurns 0 = .ok (.aload_n 0, 1) := by decide +kernel
theorem dX7_byTurns_1 : decode cX7_byTurns 1 = .ok (.iload_n 1, 1) := by decide +kernel
theorem dX7_byTurns_2 : decode cX7_byTurns 2 = .ok (.invokevirtual 167, 3) := by decide +kernel
theorem dX7_byTurns_5 : decode cX7_byTurns 5 = .ok (.ifCond .eq 12, 3) := by decide +kernel
theorem dX7_byTurns_8 : decode cX7_byTurns 8 = .ok (.iload_n 2, 1) := by decide +kernel
theorem dX7_byTurns_9 : decode cX7_byTurns 9 = .ok (.iconst 0, 1) := by decide +kernel
theorem dX7_byTurns_10 : decode cX7_byTurns 10 = .ok (.iconst 1, 1) := by decide +kernel
theorem dX7_byTurns_11 : decode cX7_byTurns 11 = .ok (.invokestatic 82, 3) := by decide +kernel
theorem dX7_byTurns_14 : decode cX7_byTurns 14 = .ok (.ifCond .ne 5, 3) := by decide +kernel
theorem dX7_byTurns_17 : decode cX7_byTurns 17 = .ok (.iconst (-1), 1) := by decide +kernel
theorem dX7_byTurns_18 : decode cX7_byTurns 18 = .ok (.ireturn, 1) := by decide +kernel
theorem dX7_byTurns_19 : decode cX7_byTurns 19 = .ok (.aload_n 0, 1) := by decide +kernel
theorem dX7_byTurns_20 : decode cX7_byTurns 20 = .ok (.bipush (-4), 2) := by decide +kernel
theorem dX7_byTurns_22 : decode cX7_byTurns 22 = .ok (.invokevirtual 157, 3) := by decide +kernel
theorem dX7_byTurns_25 : decode cX7_byTurns 25 = .ok (.aload_n 0, 1) := by decide +kernel
theorem dX7_byTurns_26 : decode cX7_byTurns 26 = .ok (.iload_n 1, 1) := by decide +kernel
theorem dX7_byTurns_27 : decode cX7_byTurns 27 = .ok (.invokevirtual 161, 3) := by decide +kernel
theorem dX7_byTurns_30 : decode cX7_byTurns 30 = .ok (.ifCond .ne 20, 3) := by decide +kernel
theorem dX7_byTurns_33 : decode cX7_byTurns 33 = .ok (.aload_n 0, 1) := by decide +kernel
theorem dX7_byTurns_34 : decode cX7_byTurns 34 = .ok (.getfield 65, 3) := by decide +kernel
theorem dX7_byTurns_37 : decode cX7_byTurns 37 = .ok (.iload_n 1, 1) := by decide +kernel
theorem dX7_byTurns_38 : decode cX7_byTurns 38 = .ok (.invokestatic 164, 3) := by decide +kernel
theorem dX7_byTurns_41 : decode cX7_byTurns 41 = .ok (.iaload, 1) := by decide +kernel
theorem dX7_byTurns_42 : decode cX7_byTurns 42 = .ok (.iconst 1, 1) := by decide +kernel
theorem dX7_byTurns_43 : decode cX7_byTurns 43 = .ok (.if_icmp .ne 7, 3) := by decide +kernel
theorem dX7_byTurns_46 : decode cX7_byTurns 46 = .ok (.iconst 1, 1) := by decide +kernel
theorem dX7_byTurns_47 : decode cX7_byTurns 47 = .ok (.goto 4, 3) := by decide +kernel
theorem dX7_byTurns_50 : decode cX7_byTurns 50 = .ok (.iconst 0, 1) := by decide +kernel
theorem dX7_byTurns_51 : decode cX7_byTurns 51 = .ok (.istore_n 3, 1) := by decide +kernel
theorem dX7_byTurns_52 : decode cX7_byTurns 52 = .ok (.iload_n 2, 1) := by decide +kernel
theorem dX7_byTurns_53 : decode cX7_byTurns 53 = .ok (.ifCond .eq 7, 3) := by decide +kernel
theorem dX7_byTurns_56 : decode cX7_byTurns 56 = .ok (.iload_n 3, 1) := by decide +kernel
theorem dX7_byTurns_57 : decode cX7_byTurns 57 = .ok (.ifCond .ne 22, 3) := by decide +kernel
theorem dX7_byTurns_60 : decode cX7_byTurns 60 = .ok (.iload_n 2, 1) := by decide +kernel
theorem dX7_byTurns_61 : decode cX7_byTurns 61 = .ok (.ifCond .ne 15, 3) := by decide +kernel
theorem dX7_byTurns_64 : decode cX7_byTurns 64 = .ok (.iload_n 3, 1) := by decide +kernel
theorem dX7_byTurns_65 : decode cX7_byTurns 65 = .ok (.ifCond .eq 7, 3) := by decide +kernel
theorem dX7_byTurns_68 : decode cX7_byTurns 68 = .ok (.iconst 1, 1) := by decide +kernel
theorem dX7_byTurns_69 : decode cX7_byTurns 69 = .ok (.goto 9, 3) := by decide +kernel
theorem dX7_byTurns_72 : decode cX7_byTurns 72 = .ok (.iconst 0, 1) := by decide +kernel
theorem dX7_byTurns_73 : decode cX7_byTurns 73 = .ok (.goto 5, 3) := by decide +kernel
theorem dX7_byTurns_76 : decode cX7_byTurns 76 = .ok (.bipush (-4), 2) := by decide +kernel
theorem dX7_byTurns_78 : decode cX7_byTurns 78 = .ok (.ireturn, 1) := by decide +kernel
theorem dX7_byTurns_79 : decode cX7_byTurns 79 = .ok (.aload_n 0, 1) := by decide +kernel
theorem dX7_byTurns_80 : decode cX7_byTurns 80 = .ok (.iload_n 1, 1) := by decide +kernel
theorem dX7_byTurns_81 : decode cX7_byTurns 81 = .ok (.iconst 1, 1) := by decide +kernel
theorem dX7_byTurns_82 : decode cX7_byTurns 82 = .ok (.iload_n 1, 1) := by decide +kernel
theorem dX7_byTurns_83 : decode cX7_byTurns 83 = .ok (.ishl, 1) := by decide +kernel
theorem dX7_byTurns_84 : decode cX7_byTurns 84 = .ok (.invokevirtual 131, 3) := by decide +kernel
theorem dX7_byTurns_87 : decode cX7_byTurns 87 = .ok (.istore 4, 2) := by decide +kernel
theorem dX7_byTurns_89 : decode cX7_byTurns 89 = .ok (.bipush (-4), 2) := by decide +kernel
theorem dX7_byTurns_91 : decode cX7_byTurns 91 = .ok (.istore 5, 2) := by decide +kernel
theorem dX7_byTurns_93 : decode cX7_byTurns 93 = .ok (.aload_n 0, 1) := by decide +kernel
theorem dX7_byTurns_94 : decode cX7_byTurns 94 = .ok (.getfield 13, 3) := by decide +kernel
theorem dX7_byTurns_97 : decode cX7_byTurns 97 = .ok (.iconst 0, 1) := by decide +kernel
theorem dX7_byTurns_98 : decode cX7_byTurns 98 = .ok (.iaload, 1) := by decide +kernel
theorem dX7_byTurns_99 : decode cX7_byTurns 99 = .ok (.iconst 1, 1) := by decide +kernel
theorem dX7_byTurns_100 : decode cX7_byTurns 100 = .ok (.isub, 1) := by decide +kernel
theorem dX7_byTurns_101 : decode cX7_byTurns 101 = .ok (.istore 6, 2) := by decide +kernel
theorem dX7_byTurns_103 : decode cX7_byTurns 103 = .ok (.iload 6, 2) := by decide +kernel
theorem dX7_byTurns_105 : decode cX7_byTurns 105 = .ok (.ifCond .lt 64, 3) := by decide +kernel
theorem dX7_byTurns_108 : decode cX7_byTurns 108 = .ok (.iload 4, 2) := by decide +kernel
theorem dX7_byTurns_110 : decode cX7_byTurns 110 = .ok (.iload 6, 2) := by decide +kernel
theorem dX7_byTurns_112 : decode cX7_byTurns 112 = .ok (.ishr, 1) := by decide +kernel
theorem dX7_byTurns_113 : decode cX7_byTurns 113 = .ok (.iconst 1, 1) := by decide +kernel
theorem dX7_byTurns_114 : decode cX7_byTurns 114 = .ok (.iand, 1) := by decide +kernel
theorem dX7_byTurns_115 : decode cX7_byTurns 115 = .ok (.iconst 1, 1) := by decide +kernel
theorem dX7_byTurns_116 : decode cX7_byTurns 116 = .ok (.if_icmp .ne 30, 3) := by decide +kernel
theorem dX7_byTurns_119 : decode cX7_byTurns 119 = .ok (.aload_n 0, 1) := by decide +kernel
theorem dX7_byTurns_120 : decode cX7_byTurns 120 = .ok (.getfield 65, 3) := by decide +kernel
theorem dX7_byTurns_123 : decode cX7_byTurns 123 = .ok (.bipush 10, 2) := by decide +kernel
theorem dX7_byTurns_125 : decode cX7_byTurns 125 = .ok (.iconst 1, 1) := by decide +kernel
theorem dX7_byTurns_126 : decode cX7_byTurns 126 = .ok (.iload_n 1, 1) := by decide +kernel
theorem dX7_byTurns_127 : decode cX7_byTurns 127 = .ok (.ishl, 1) := by decide +kernel
theorem dX7_byTurns_128 : decode cX7_byTurns 128 = .ok (.iconst 1, 1) := by decide +kernel
theorem dX7_byTurns_129 : decode cX7_byTurns 129 = .ok (.iload 6, 2) := by decide +kernel
theorem dX7_byTurns_131 : decode cX7_byTurns 131 = .ok (.ishl, 1) := by decide +kernel
theorem dX7_byTurns_132 : decode cX7_byTurns 132 = .ok (.ior, 1) := by decide +kernel
theorem dX7_byTurns_133 : decode cX7_byTurns 133 = .ok (.imul, 1) := by decide +kernel
theorem dX7_byTurns_134 : decode cX7_byTurns 134 = .ok (.iload 6, 2) := by decide +kernel
theorem dX7_byTurns_136 : decode cX7_byTurns 136 = .ok (.iadd, 1) := by decide +kernel
theorem dX7_byTurns_137 : decode cX7_byTurns 137 = .ok (.iaload, 1) := by decide +kernel
theorem dX7_byTurns_138 : decode cX7_byTurns 138 = .ok (.iconst 1, 1) := by decide +kernel
theorem dX7_byTurns_139 : decode cX7_byTurns 139 = .ok (.if_icmp .ne 7, 3) := by decide +kernel
theorem dX7_byTurns_142 : decode cX7_byTurns 142 = .ok (.iconst 1, 1) := by decide +kernel
theorem dX7_byTurns_143 : decode cX7_byTurns 143 = .ok (.goto 4, 3) := by decide +kernel
theorem dX7_byTurns_146 : decode cX7_byTurns 146 = .ok (.iconst 0, 1) := by decide +kernel
theorem dX7_byTurns_147 : decode cX7_byTurns 147 = .ok (.istore 7, 2) := by decide +kernel
theorem dX7_byTurns_149 : decode cX7_byTurns 149 = .ok (.iload 7, 2) := by decide +kernel
theorem dX7_byTurns_151 : decode cX7_byTurns 151 = .ok (.ifCond .eq 8, 3) := by decide +kernel
theorem dX7_byTurns_154 : decode cX7_byTurns 154 = .ok (.iload 6, 2) := by decide +kernel
theorem dX7_byTurns_156 : decode cX7_byTurns 156 = .ok (.goto 5, 3) := by decide +kernel
theorem dX7_byTurns_159 : decode cX7_byTurns 159 = .ok (.iload 5, 2) := by decide +kernel
theorem dX7_byTurns_161 : decode cX7_byTurns 161 = .ok (.istore 5, 2) := by decide +kernel
theorem dX7_byTurns_163 : decode cX7_byTurns 163 = .ok (.iinc 6 (-1), 3) := by decide +kernel
theorem dX7_byTurns_166 : decode cX7_byTurns 166 = .ok (.goto (-63), 3) := by decide +kernel
theorem dX7_byTurns_169 : decode cX7_byTurns 169 = .ok (.iload 5, 2) := by decide +kernel
theorem dX7_byTurns_171 : decode cX7_byTurns 171 = .ok (.ireturn, 1) := by decide +kernel
theorem dX7_days_0 : decode cX7_days 0 = .ok (.aload_n 0, 1) := by decide +kernel
theorem dX7_days_1 : decode cX7_days 1 = .ok (.iload_n 1, 1) := by decide +kernel
theorem dX7_days_2 : decode cX7_days 2 = .ok (.invokevirtual 167, 3) := by decide +kernel
theorem dX7_days_5 : decode cX7_days 5 = .ok (.ifCond .ne 5, 3) := by decide +kernel
theorem dX7_days_8 : decode cX7_days 8 = .ok (.iconst (-1), 1) := by decide +kernel
theorem dX7_days_9 : decode cX7_days 9 = .ok (.ireturn, 1) := by decide +kernel
theorem dX7_days_10 : decode cX7_days 10 = .ok (.aload_n 0, 1) := by decide +kernel
theorem dX7_days_11 : decode cX7_days 11 = .ok (.iload_n 1, 1) := by decide +kernel
theorem dX7_days_12 : decode cX7_days 12 = .ok (.invokevirtual 170, 3) := by decide +kernel
theorem dX7_days_15 : decode cX7_days 15 = .ok (.ifCond .eq 22, 3) := by decide +kernel
theorem dX7_days_18 : decode cX7_days 18 = .ok (.aload_n 0, 1) := by decide +kernel
theorem dX7_days_19 : decode cX7_days 19 = .ok (.getfield 23, 3) := by decide +kernel
theorem dX7_days_22 : decode cX7_days 22 = .ok (.iload_n 1, 1) := by decide +kernel
theorem dX7_days_23 : decode cX7_days 23 = .ok (.iaload, 1) := by decide +kernel
theorem dX7_days_24 : decode cX7_days 24 = .ok (.aload_n 0, 1) := by decide +kernel
theorem dX7_days_25 : decode cX7_days 25 = .ok (.getfield 53, 3) := by decide +kernel
theorem dX7_days_28 : decode cX7_days 28 = .ok (.iload_n 1, 1) := by decide +kernel
theorem dX7_days_29 : decode cX7_days 29 = .ok (.invokestatic 164, 3) := by decide +kernel
theorem dX7_days_32 : decode cX7_days 32 = .ok (.iaload, 1) := by decide +kernel
theorem dX7_days_33 : decode cX7_days 33 = .ok (.iadd, 1) := by decide +kernel
theorem dX7_days_34 : decode cX7_days 34 = .ok (.goto 5, 3) := by decide +kernel
theorem dX7_days_37 : decode cX7_days 37 = .ok (.bipush (-4), 2) := by decide +kernel
theorem dX7_days_39 : decode cX7_days 39 = .ok (.ireturn, 1) := by decide +kernel
theorem dX7_who_0 : decode cX7_who 0 = .ok (.aload_n 0, 1) := by decide +kernel
theorem dX7_who_1 : decode cX7_who 1 = .ok (.iload_n 1, 1) := by decide +kernel
theorem dX7_who_2 : decode cX7_who 2 = .ok (.invokevirtual 124, 3) := by decide +kernel
theorem dX7_who_5 : decode cX7_who 5 = .ok (.ifCond .eq 21, 3) := by decide +kernel
theorem dX7_who_8 : decode cX7_who 8 = .ok (.aload_n 0, 1) := by decide +kernel
theorem dX7_who_9 : decode cX7_who 9 = .ok (.getfield 17, 3) := by decide +kernel
theorem dX7_who_12 : decode cX7_who 12 = .ok (.iload_n 1, 1) := by decide +kernel
theorem dX7_who_13 : decode cX7_who 13 = .ok (.iaload, 1) := by decide +kernel
theorem dX7_who_14 : decode cX7_who 14 = .ok (.iconst 4, 1) := by decide +kernel
theorem dX7_who_15 : decode cX7_who 15 = .ok (.if_icmp .ne 11, 3) := by decide +kernel
theorem dX7_who_18 : decode cX7_who 18 = .ok (.aload_n 0, 1) := by decide +kernel
theorem dX7_who_19 : decode cX7_who 19 = .ok (.iload_n 1, 1) := by decide +kernel
theorem dX7_who_20 : decode cX7_who 20 = .ok (.invokevirtual 145, 3) := by decide +kernel
theorem dX7_who_23 : decode cX7_who 23 = .ok (.goto 4, 3) := by decide +kernel
theorem dX7_who_26 : decode cX7_who 26 = .ok (.iconst (-1), 1) := by decide +kernel
theorem dX7_who_27 : decode cX7_who 27 = .ok (.ireturn, 1) := by decide +kernel
theorem dX7_fitting_0 : decode cX7_fitting 0 = .ok (.aload_n 0, 1) := by decide +kernel
theorem dX7_fitting_1 : decode cX7_fitting 1 = .ok (.iload_n 1, 1) := by decide +kernel
theorem dX7_fitting_2 : decode cX7_fitting 2 = .ok (.invokevirtual 170, 3) := by decide +kernel
theorem dX7_fitting_5 : decode cX7_fitting 5 = .ok (.ifCond .eq 15, 3) := by decide +kernel
theorem dX7_fitting_8 : decode cX7_fitting 8 = .ok (.aload_n 0, 1) := by decide +kernel
theorem dX7_fitting_9 : decode cX7_fitting 9 = .ok (.getfield 62, 3) := by decide +kernel
theorem dX7_fitting_12 : decode cX7_fitting 12 = .ok (.iload_n 1, 1) := by decide +kernel
theorem dX7_fitting_13 : decode cX7_fitting 13 = .ok (.invokestatic 164, 3) := by decide +kernel
theorem dX7_fitting_16 : decode cX7_fitting 16 = .ok (.iaload, 1) := by decide +kernel
theorem dX7_fitting_17 : decode cX7_fitting 17 = .ok (.goto 4, 3) := by decide +kernel
theorem dX7_fitting_20 : decode cX7_fitting 20 = .ok (.iconst 0, 1) := by decide +kernel
theorem dX7_fitting_21 : decode cX7_fitting 21 = .ok (.istore_n 2, 1) := by decide +kernel
theorem dX7_fitting_22 : decode cX7_fitting 22 = .ok (.iconst 0, 1) := by decide +kernel
theorem dX7_fitting_23 : decode cX7_fitting 23 = .ok (.istore_n 3, 1) := by decide +kernel
theorem dX7_fitting_24 : decode cX7_fitting 24 = .ok (.iconst 0, 1) := by decide +kernel
theorem dX7_fitting_25 : decode cX7_fitting 25 = .ok (.istore 4, 2) := by decide +kernel
theorem dX7_fitting_27 : decode cX7_fitting 27 = .ok (.iload 4, 2) := by decide +kernel
theorem dX7_fitting_29 : decode cX7_fitting 29 = .ok (.aload_n 0, 1) := by decide +kernel
theorem dX7_fitting_30 : decode cX7_fitting 30 = .ok (.getfield 32, 3) := by decide +kernel
theorem dX7_fitting_33 : decode cX7_fitting 33 = .ok (.iconst 0, 1) := by decide +kernel
theorem dX7_fitting_34 : decode cX7_fitting 34 = .ok (.iaload, 1) := by decide +kernel
theorem dX7_fitting_35 : decode cX7_fitting 35 = .ok (.if_icmp .ge 32, 3) := by decide +kernel
theorem dX7_fitting_38 : decode cX7_fitting 38 = .ok (.iload_n 3, 1) := by decide +kernel
theorem dX7_fitting_39 : decode cX7_fitting 39 = .ok (.aload_n 0, 1) := by decide +kernel
theorem dX7_fitting_40 : decode cX7_fitting 40 = .ok (.getfield 35, 3) := by decide +kernel
theorem dX7_fitting_43 : decode cX7_fitting 43 = .ok (.iload 4, 2) := by decide +kernel
theorem dX7_fitting_45 : decode cX7_fitting 45 = .ok (.iaload, 1) := by decide +kernel
theorem dX7_fitting_46 : decode cX7_fitting 46 = .ok (.iload_n 2, 1) := by decide +kernel
theorem dX7_fitting_47 : decode cX7_fitting 47 = .ok (.iand, 1) := by decide +kernel
theorem dX7_fitting_48 : decode cX7_fitting 48 = .ok (.ifCond .eq 10, 3) := by decide +kernel
theorem dX7_fitting_51 : decode cX7_fitting 51 = .ok (.iconst 1, 1) := by decide +kernel
theorem dX7_fitting_52 : decode cX7_fitting 52 = .ok (.iload 4, 2) := by decide +kernel
theorem dX7_fitting_54 : decode cX7_fitting 54 = .ok (.ishl, 1) := by decide +kernel
theorem dX7_fitting_55 : decode cX7_fitting 55 = .ok (.goto 4, 3) := by decide +kernel
theorem dX7_fitting_58 : decode cX7_fitting 58 = .ok (.iconst 0, 1) := by decide +kernel
theorem dX7_fitting_59 : decode cX7_fitting 59 = .ok (.ior, 1) := by decide +kernel
theorem dX7_fitting_60 : decode cX7_fitting 60 = .ok (.istore_n 3, 1) := by decide +kernel
theorem dX7_fitting_61 : decode cX7_fitting 61 = .ok (.iinc 4 1, 3) := by decide +kernel
theorem dX7_fitting_64 : decode cX7_fitting 64 = .ok (.goto (-37), 3) := by decide +kernel
theorem dX7_fitting_67 : decode cX7_fitting 67 = .ok (.iload_n 3, 1) := by decide +kernel
theorem dX7_fitting_68 : decode cX7_fitting 68 = .ok (.ireturn, 1) := by decide +kernel
theorem dX7_fits_0 : decode cX7_fits 0 = .ok (.aload_n 0, 1) := by decide +kernel
theorem dX7_fits_1 : decode cX7_fits 1 = .ok (.iload_n 1, 1) := by decide +kernel
theorem dX7_fits_2 : decode cX7_fits 2 = .ok (.invokevirtual 167, 3) := by decide +kernel
theorem dX7_fits_5 : decode cX7_fits 5 = .ok (.ifCond .eq 11, 3) := by decide +kernel
theorem dX7_fits_8 : decode cX7_fits 8 = .ok (.aload_n 0, 1) := by decide +kernel
theorem dX7_fits_9 : decode cX7_fits 9 = .ok (.iload_n 1, 1) := by decide +kernel
theorem dX7_fits_10 : decode cX7_fits 10 = .ok (.invokevirtual 182, 3) := by decide +kernel
theorem dX7_fits_13 : decode cX7_fits 13 = .ok (.goto 4, 3) := by decide +kernel
theorem dX7_fits_16 : decode cX7_fits 16 = .ok (.iconst (-1), 1) := by decide +kernel
theorem dX7_fits_17 : decode cX7_fits 17 = .ok (.ireturn, 1) := by decide +kernel
theorem dX7_look_0 : decode cX7_look 0 = .ok (.aload_n 0, 1) := by decide +kernel
theorem dX7_look_1 : decode cX7_look 1 = .ok (.iload_n 1, 1) := by decide +kernel
theorem dX7_look_2 : decode cX7_look 2 = .ok (.invokevirtual 167, 3) := by decide +kernel
theorem dX7_look_5 : decode cX7_look 5 = .ok (.ifCond .eq 12, 3) := by decide +kernel
theorem dX7_look_8 : decode cX7_look 8 = .ok (.iload_n 2, 1) := by decide +kernel
theorem dX7_look_9 : decode cX7_look 9 = .ok (.iconst 0, 1) := by decide +kernel
theorem dX7_look_10 : decode cX7_look 10 = .ok (.iconst 1, 1) := by decide +kernel
theorem dX7_look_11 : decode cX7_look 11 = .ok (.invokestatic 82, 3) := by decide +kernel
theorem dX7_look_14 : decode cX7_look 14 = .ok (.ifCond .ne 5, 3) := by decide +kernel
theorem dX7_look_17 : decode cX7_look 17 = .ok (.iconst (-1), 1) := by decide +kernel
theorem dX7_look_18 : decode cX7_look 18 = .ok (.ireturn, 1) := by decide +kernel
theorem dX7_look_19 : decode cX7_look 19 = .ok (.aload_n 0, 1) := by decide +kernel
theorem dX7_look_20 : decode cX7_look 20 = .ok (.iload_n 1, 1) := by decide +kernel
theorem dX7_look_21 : decode cX7_look 21 = .ok (.invokevirtual 170, 3) := by decide +kernel
theorem dX7_look_24 : decode cX7_look 24 = .ok (.ifCond .eq 15, 3) := by decide +kernel
theorem dX7_look_27 : decode cX7_look 27 = .ok (.aload_n 0, 1) := by decide +kernel
theorem dX7_look_28 : decode cX7_look 28 = .ok (.getfield 62, 3) := by decide +kernel
theorem dX7_look_31 : decode cX7_look 31 = .ok (.iload_n 1, 1) := by decide +kernel
theorem dX7_look_32 : decode cX7_look 32 = .ok (.invokestatic 164, 3) := by decide +kernel
theorem dX7_look_35 : decode cX7_look 35 = .ok (.iaload, 1) := by decide +kernel
theorem dX7_look_36 : decode cX7_look 36 = .ok (.goto 4, 3) := by decide +kernel
theorem dX7_look_39 : decode cX7_look 39 = .ok (.iconst 0, 1) := by decide +kernel
theorem dX7_look_40 : decode cX7_look 40 = .ok (.istore_n 3, 1) := by decide +kernel
theorem dX7_look_41 : decode cX7_look 41 = .ok (.bipush (-4), 2) := by decide +kernel
theorem dX7_look_43 : decode cX7_look 43 = .ok (.istore 4, 2) := by decide +kernel
theorem dX7_look_45 : decode cX7_look 45 = .ok (.bipush (-4), 2) := by decide +kernel
theorem dX7_look_47 : decode cX7_look 47 = .ok (.istore 5, 2) := by decide +kernel
theorem dX7_look_49 : decode cX7_look 49 = .ok (.iconst 0, 1) := by decide +kernel
theorem dX7_look_50 : decode cX7_look 50 = .ok (.istore 6, 2) := by decide +kernel
theorem dX7_look_52 : decode cX7_look 52 = .ok (.iload 6, 2) := by decide +kernel
theorem dX7_look_54 : decode cX7_look 54 = .ok (.aload_n 0, 1) := by decide +kernel
theorem dX7_look_55 : decode cX7_look 55 = .ok (.getfield 13, 3) := by decide +kernel
theorem dX7_look_58 : decode cX7_look 58 = .ok (.iconst 0, 1) := by decide +kernel
theorem dX7_look_59 : decode cX7_look 59 = .ok (.iaload, 1) := by decide +kernel
theorem dX7_look_60 : decode cX7_look 60 = .ok (.if_icmp .ge 45, 3) := by decide +kernel
theorem dX7_look_63 : decode cX7_look 63 = .ok (.aload_n 0, 1) := by decide +kernel
theorem dX7_look_64 : decode cX7_look 64 = .ok (.iload 6, 2) := by decide +kernel
theorem dX7_look_66 : decode cX7_look 66 = .ok (.invokevirtual 145, 3) := by decide +kernel
theorem dX7_look_69 : decode cX7_look 69 = .ok (.invokestatic 148, 3) := by decide +kernel
theorem dX7_look_72 : decode cX7_look 72 = .ok (.istore 7, 2) := by decide +kernel
theorem dX7_look_74 : decode cX7_look 74 = .ok (.iload_n 3, 1) := by decide +kernel
theorem dX7_look_75 : decode cX7_look 75 = .ok (.iload 6, 2) := by decide +kernel
theorem dX7_look_77 : decode cX7_look 77 = .ok (.ishr, 1) := by decide +kernel
theorem dX7_look_78 : decode cX7_look 78 = .ok (.iconst 1, 1) := by decide +kernel
theorem dX7_look_79 : decode cX7_look 79 = .ok (.iand, 1) := by decide +kernel
theorem dX7_look_80 : decode cX7_look 80 = .ok (.iconst 1, 1) := by decide +kernel
theorem dX7_look_81 : decode cX7_look 81 = .ok (.if_icmp .ne 18, 3) := by decide +kernel
theorem dX7_look_84 : decode cX7_look 84 = .ok (.iload 7, 2) := by decide +kernel
theorem dX7_look_86 : decode cX7_look 86 = .ok (.iload 5, 2) := by decide +kernel
theorem dX7_look_88 : decode cX7_look 88 = .ok (.if_icmp .le 11, 3) := by decide +kernel
theorem dX7_look_91 : decode cX7_look 91 = .ok (.iload 6, 2) := by decide +kernel
theorem dX7_look_93 : decode cX7_look 93 = .ok (.istore 4, 2) := by decide +kernel
theorem dX7_look_95 : decode cX7_look 95 = .ok (.iload 7, 2) := by decide +kernel
theorem dX7_look_97 : decode cX7_look 97 = .ok (.istore 5, 2) := by decide +kernel
theorem dX7_look_99 : decode cX7_look 99 = .ok (.iinc 6 1, 3) := by decide +kernel
theorem dX7_look_102 : decode cX7_look 102 = .ok (.goto (-50), 3) := by decide +kernel
theorem dX7_look_105 : decode cX7_look 105 = .ok (.iload_n 2, 1) := by decide +kernel
theorem dX7_look_106 : decode cX7_look 106 = .ok (.ifCond .ne 8, 3) := by decide +kernel
theorem dX7_look_109 : decode cX7_look 109 = .ok (.iload 4, 2) := by decide +kernel
theorem dX7_look_111 : decode cX7_look 111 = .ok (.goto 5, 3) := by decide +kernel
theorem dX7_look_114 : decode cX7_look 114 = .ok (.iload 5, 2) := by decide +kernel
theorem dX7_look_116 : decode cX7_look 116 = .ok (.ireturn, 1) := by decide +kernel
theorem dX7_laid_0 : decode cX7_laid 0 = .ok (.aload_n 0, 1) := by decide +kernel
theorem dX7_laid_1 : decode cX7_laid 1 = .ok (.iload_n 1, 1) := by decide +kernel
theorem dX7_laid_2 : decode cX7_laid 2 = .ok (.invokevirtual 167, 3) := by decide +kernel
theorem dX7_laid_5 : decode cX7_laid 5 = .ok (.ifCond .eq 7, 3) := by decide +kernel
theorem dX7_laid_8 : decode cX7_laid 8 = .ok (.iload_n 2, 1) := by decide +kernel
theorem dX7_laid_9 : decode cX7_laid 9 = .ok (.ifCond .ge 5, 3) := by decide +kernel
theorem dX7_laid_12 : decode cX7_laid 12 = .ok (.iconst (-1), 1) := by decide +kernel
theorem dX7_laid_13 : decode cX7_laid 13 = .ok (.ireturn, 1) := by decide +kernel
theorem dX7_laid_14 : decode cX7_laid 14 = .ok (.aload_n 0, 1) := by decide +kernel
theorem dX7_laid_15 : decode cX7_laid 15 = .ok (.iload_n 1, 1) := by decide +kernel
theorem dX7_laid_16 : decode cX7_laid 16 = .ok (.invokevirtual 170, 3) := by decide +kernel
theorem dX7_laid_19 : decode cX7_laid 19 = .ok (.ifCond .ne 6, 3) := by decide +kernel
theorem dX7_laid_22 : decode cX7_laid 22 = .ok (.bipush (-4), 2) := by decide +kernel
theorem dX7_laid_24 : decode cX7_laid 24 = .ok (.ireturn, 1) := by decide +kernel
theorem dX7_laid_25 : decode cX7_laid 25 = .ok (.aload_n 0, 1) := by decide +kernel
theorem dX7_laid_26 : decode cX7_laid 26 = .ok (.iload_n 1, 1) := by decide +kernel
theorem dX7_laid_27 : decode cX7_laid 27 = .ok (.invokevirtual 176, 3) := by decide +kernel
theorem dX7_laid_30 : decode cX7_laid 30 = .ok (.iload_n 2, 1) := by decide +kernel
theorem dX7_laid_31 : decode cX7_laid 31 = .ok (.aload_n 0, 1) := by decide +kernel
theorem dX7_laid_32 : decode cX7_laid 32 = .ok (.getfield 173, 3) := by decide +kernel
theorem dX7_laid_35 : decode cX7_laid 35 = .ok (.if_icmp .lt 6, 3) := by decide +kernel
theorem dX7_laid_38 : decode cX7_laid 38 = .ok (.bipush (-4), 2) := by decide +kernel
theorem dX7_laid_40 : decode cX7_laid 40 = .ok (.ireturn, 1) := by decide +kernel
theorem dX7_laid_41 : decode cX7_laid 41 = .ok (.iconst 0, 1) := by decide +kernel
theorem dX7_laid_42 : decode cX7_laid 42 = .ok (.istore_n 3, 1) := by decide +kernel
theorem dX7_laid_43 : decode cX7_laid 43 = .ok (.iconst 0, 1) := by decide +kernel
theorem dX7_laid_44 : decode cX7_laid 44 = .ok (.istore 4, 2) := by decide +kernel
theorem dX7_laid_46 : decode cX7_laid 46 = .ok (.iload 4, 2) := by decide +kernel
theorem dX7_laid_48 : decode cX7_laid 48 = .ok (.iload_n 2, 1) := by decide +kernel
theorem dX7_laid_49 : decode cX7_laid 49 = .ok (.if_icmp .gt 24, 3) := by decide +kernel
theorem dX7_laid_52 : decode cX7_laid 52 = .ok (.iload_n 3, 1) := by decide +kernel
theorem dX7_laid_53 : decode cX7_laid 53 = .ok (.aload_n 0, 1) := by decide +kernel
theorem dX7_laid_54 : decode cX7_laid 54 = .ok (.getfield 23, 3) := by decide +kernel
theorem dX7_laid_57 : decode cX7_laid 57 = .ok (.aload_n 0, 1) := by decide +kernel
theorem dX7_laid_58 : decode cX7_laid 58 = .ok (.getfield 68, 3) := by decide +kernel
theorem dX7_laid_61 : decode cX7_laid 61 = .ok (.iload 4, 2) := by decide +kernel
theorem dX7_laid_63 : decode cX7_laid 63 = .ok (.iaload, 1) := by decide +kernel
theorem dX7_laid_64 : decode cX7_laid 64 = .ok (.iaload, 1) := by decide +kernel
theorem dX7_laid_65 : decode cX7_laid 65 = .ok (.iadd, 1) := by decide +kernel
theorem dX7_laid_66 : decode cX7_laid 66 = .ok (.istore_n 3, 1) := by decide +kernel
theorem dX7_laid_67 : decode cX7_laid 67 = .ok (.iinc 4 1, 3) := by decide +kernel
theorem dX7_laid_70 : decode cX7_laid 70 = .ok (.goto (-24), 3) := by decide +kernel
theorem dX7_laid_73 : decode cX7_laid 73 = .ok (.iload_n 3, 1) := by decide +kernel
theorem dX7_laid_74 : decode cX7_laid 74 = .ok (.ireturn, 1) := by decide +kernel
theorem dX7_odds_0 : decode cX7_odds 0 = .ok (.aload_n 0, 1) := by decide +kernel
theorem dX7_odds_1 : decode cX7_odds 1 = .ok (.iload_n 1, 1) := by decide +kernel
theorem dX7_odds_2 : decode cX7_odds 2 = .ok (.invokevirtual 167, 3) := by decide +kernel
theorem dX7_odds_5 : decode cX7_odds 5 = .ok (.ifCond .eq 22, 3) := by decide +kernel
theorem dX7_odds_8 : decode cX7_odds 8 = .ok (.iload_n 2, 1) := by decide +kernel
theorem dX7_odds_9 : decode cX7_odds 9 = .ok (.iconst 0, 1) := by decide +kernel
theorem dX7_odds_10 : decode cX7_odds 10 = .ok (.bipush 10, 2) := by decide +kernel
theorem dX7_odds_12 : decode cX7_odds 12 = .ok (.invokestatic 82, 3) := by decide +kernel
theorem dX7_odds_15 : decode cX7_odds 15 = .ok (.ifCond .eq 12, 3) := by decide +kernel
theorem dX7_odds_18 : decode cX7_odds 18 = .ok (.iload_n 3, 1) := by decide +kernel
theorem dX7_odds_19 : decode cX7_odds 19 = .ok (.iconst 0, 1) := by decide +kernel
theorem dX7_odds_20 : decode cX7_odds 20 = .ok (.iconst 1, 1) := by decide +kernel
theorem dX7_odds_21 : decode cX7_odds 21 = .ok (.invokestatic 82, 3) := by decide +kernel
theorem dX7_odds_24 : decode cX7_odds 24 = .ok (.ifCond .ne 5, 3) := by decide +kernel
theorem dX7_odds_27 : decode cX7_odds 27 = .ok (.iconst (-1), 1) := by decide +kernel
theorem dX7_odds_28 : decode cX7_odds 28 = .ok (.ireturn, 1) := by decide +kernel
theorem dX7_odds_29 : decode cX7_odds 29 = .ok (.iconst 1, 1) := by decide +kernel
theorem dX7_odds_30 : decode cX7_odds 30 = .ok (.istore 4, 2) := by decide +kernel
theorem dX7_odds_32 : decode cX7_odds 32 = .ok (.iconst 1, 1) := by decide +kernel
theorem dX7_odds_33 : decode cX7_odds 33 = .ok (.istore 5, 2) := by decide +kernel
theorem dX7_odds_35 : decode cX7_odds 35 = .ok (.aload_n 0, 1) := by decide +kernel
theorem dX7_odds_36 : decode cX7_odds 36 = .ok (.iload_n 1, 1) := by decide +kernel
theorem dX7_odds_37 : decode cX7_odds 37 = .ok (.invokevirtual 182, 3) := by decide +kernel
theorem dX7_odds_40 : decode cX7_odds 40 = .ok (.invokestatic 148, 3) := by decide +kernel
theorem dX7_odds_43 : decode cX7_odds 43 = .ok (.istore 6, 2) := by decide +kernel
theorem dX7_odds_45 : decode cX7_odds 45 = .ok (.iload 6, 2) := by decide +kernel
theorem dX7_odds_47 : decode cX7_odds 47 = .ok (.ifCond .le 25, 3) := by decide +kernel
theorem dX7_odds_50 : decode cX7_odds 50 = .ok (.iload 4, 2) := by decide +kernel
theorem dX7_odds_52 : decode cX7_odds 52 = .ok (.bipush 10, 2) := by decide +kernel
theorem dX7_odds_54 : decode cX7_odds 54 = .ok (.imul, 1) := by decide +kernel
theorem dX7_odds_55 : decode cX7_odds 55 = .ok (.istore 4, 2) := by decide +kernel
theorem dX7_odds_57 : decode cX7_odds 57 = .ok (.iload 5, 2) := by decide +kernel
theorem dX7_odds_59 : decode cX7_odds 59 = .ok (.bipush 10, 2) := by decide +kernel
theorem dX7_odds_61 : decode cX7_odds 61 = .ok (.iload_n 2, 1) := by decide +kernel
theorem dX7_odds_62 : decode cX7_odds 62 = .ok (.isub, 1) := by decide +kernel
theorem dX7_odds_63 : decode cX7_odds 63 = .ok (.imul, 1) := by decide +kernel
theorem dX7_odds_64 : decode cX7_odds 64 = .ok (.istore 5, 2) := by decide +kernel
theorem dX7_odds_66 : decode cX7_odds 66 = .ok (.iinc 6 (-1), 3) := by decide +kernel
theorem dX7_odds_69 : decode cX7_odds 69 = .ok (.goto (-24), 3) := by decide +kernel
theorem dX7_odds_72 : decode cX7_odds 72 = .ok (.iload 4, 2) := by decide +kernel
theorem dX7_odds_74 : decode cX7_odds 74 = .ok (.iload 5, 2) := by decide +kernel
theorem dX7_odds_76 : decode cX7_odds 76 = .ok (.isub, 1) := by decide +kernel
theorem dX7_odds_77 : decode cX7_odds 77 = .ok (.istore 6, 2) := by decide +kernel
theorem dX7_odds_79 : decode cX7_odds 79 = .ok (.iload 6, 2) := by decide +kernel
theorem dX7_odds_81 : decode cX7_odds 81 = .ok (.istore 7, 2) := by decide +kernel
theorem dX7_odds_83 : decode cX7_odds 83 = .ok (.iload 4, 2) := by decide +kernel
theorem dX7_odds_85 : decode cX7_odds 85 = .ok (.istore 8, 2) := by decide +kernel
theorem dX7_odds_87 : decode cX7_odds 87 = .ok (.iload 8, 2) := by decide +kernel
theorem dX7_odds_89 : decode cX7_odds 89 = .ok (.ifCond .eq 21, 3) := by decide +kernel
theorem dX7_odds_92 : decode cX7_odds 92 = .ok (.iload 7, 2) := by decide +kernel
theorem dX7_odds_94 : decode cX7_odds 94 = .ok (.iload 8, 2) := by decide +kernel
theorem dX7_odds_96 : decode cX7_odds 96 = .ok (.irem, 1) := by decide +kernel
theorem dX7_odds_97 : decode cX7_odds 97 = .ok (.istore 9, 2) := by decide +kernel
theorem dX7_odds_99 : decode cX7_odds 99 = .ok (.iload 8, 2) := by decide +kernel
theorem dX7_odds_101 : decode cX7_odds 101 = .ok (.istore 7, 2) := by decide +kernel
theorem dX7_odds_103 : decode cX7_odds 103 = .ok (.iload 9, 2) := by decide +kernel
theorem dX7_odds_105 : decode cX7_odds 105 = .ok (.istore 8, 2) := by decide +kernel
theorem dX7_odds_107 : decode cX7_odds 107 = .ok (.goto (-20), 3) := by decide +kernel
theorem dX7_odds_110 : decode cX7_odds 110 = .ok (.iload_n 3, 1) := by decide +kernel
theorem dX7_odds_111 : decode cX7_odds 111 = .ok (.ifCond .ne 11, 3) := by decide +kernel
theorem dX7_odds_114 : decode cX7_odds 114 = .ok (.iload 6, 2) := by decide +kernel
theorem dX7_odds_116 : decode cX7_odds 116 = .ok (.iload 7, 2) := by decide +kernel
theorem dX7_odds_118 : decode cX7_odds 118 = .ok (.idiv, 1) := by decide +kernel
theorem dX7_odds_119 : decode cX7_odds 119 = .ok (.goto 8, 3) := by decide +kernel
theorem dX7_odds_122 : decode cX7_odds 122 = .ok (.iload 4, 2) := by decide +kernel
theorem dX7_odds_124 : decode cX7_odds 124 = .ok (.iload 7, 2) := by decide +kernel
theorem dX7_odds_126 : decode cX7_odds 126 = .ok (.idiv, 1) := by decide +kernel
theorem dX7_odds_127 : decode cX7_odds 127 = .ok (.ireturn, 1) := by decide +kernel
theorem dX7_trialBy_0 : decode cX7_trialBy 0 = .ok (.iload_n 1, 1) := by decide +kernel
theorem dX7_trialBy_1 : decode cX7_trialBy 1 = .ok (.iconst 0, 1) := by decide +kernel
theorem dX7_trialBy_2 : decode cX7_trialBy 2 = .ok (.sipush 9999, 3) := by decide +kernel
theorem dX7_trialBy_5 : decode cX7_trialBy 5 = .ok (.invokestatic 82, 3) := by decide +kernel
theorem dX7_trialBy_8 : decode cX7_trialBy 8 = .ok (.ifCond .eq 20, 3) := by decide +kernel
theorem dX7_trialBy_11 : decode cX7_trialBy 11 = .ok (.aload_n 0, 1) := by decide +kernel
theorem dX7_trialBy_12 : decode cX7_trialBy 12 = .ok (.iload_n 2, 1) := by decide +kernel
theorem dX7_trialBy_13 : decode cX7_trialBy 13 = .ok (.invokevirtual 167, 3) := by decide +kernel
theorem dX7_trialBy_16 : decode cX7_trialBy 16 = .ok (.ifCond .eq 12, 3) := by decide +kernel
theorem dX7_trialBy_19 : decode cX7_trialBy 19 = .ok (.iload_n 3, 1) := by decide +kernel
theorem dX7_trialBy_20 : decode cX7_trialBy 20 = .ok (.iconst 0, 1) := by decide +kernel
theorem dX7_trialBy_21 : decode cX7_trialBy 21 = .ok (.iconst 1, 1) := by decide +kernel
theorem dX7_trialBy_22 : decode cX7_trialBy 22 = .ok (.invokestatic 82, 3) := by decide +kernel
theorem dX7_trialBy_25 : decode cX7_trialBy 25 = .ok (.ifCond .ne 5, 3) := by decide +kernel
theorem dX7_trialBy_28 : decode cX7_trialBy 28 = .ok (.iconst (-1), 1) := by decide +kernel
theorem dX7_trialBy_29 : decode cX7_trialBy 29 = .ok (.ireturn, 1) := by decide +kernel
theorem dX7_trialBy_30 : decode cX7_trialBy 30 = .ok (.aload_n 0, 1) := by decide +kernel
theorem dX7_trialBy_31 : decode cX7_trialBy 31 = .ok (.iload_n 2, 1) := by decide +kernel
theorem dX7_trialBy_32 : decode cX7_trialBy 32 = .ok (.invokevirtual 161, 3) := by decide +kernel
theorem dX7_trialBy_35 : decode cX7_trialBy 35 = .ok (.ifCond .eq 14, 3) := by decide +kernel
theorem dX7_trialBy_38 : decode cX7_trialBy 38 = .ok (.iload_n 3, 1) := by decide +kernel
theorem dX7_trialBy_39 : decode cX7_trialBy 39 = .ok (.ifCond .ne 7, 3) := by decide +kernel
theorem dX7_trialBy_42 : decode cX7_trialBy 42 = .ok (.iconst 1, 1) := by decide +kernel
theorem dX7_trialBy_43 : decode cX7_trialBy 43 = .ok (.goto 5, 3) := by decide +kernel
theorem dX7_trialBy_46 : decode cX7_trialBy 46 = .ok (.bipush (-4), 2) := by decide +kernel
theorem dX7_trialBy_48 : decode cX7_trialBy 48 = .ok (.ireturn, 1) := by decide +kernel
theorem dX7_trialBy_49 : decode cX7_trialBy 49 = .ok (.iconst 1, 1) := by decide +kernel
theorem dX7_trialBy_50 : decode cX7_trialBy 50 = .ok (.iload_n 2, 1) := by decide +kernel
theorem dX7_trialBy_51 : decode cX7_trialBy 51 = .ok (.ishl, 1) := by decide +kernel
theorem dX7_trialBy_52 : decode cX7_trialBy 52 = .ok (.istore 4, 2) := by decide +kernel
theorem dX7_trialBy_54 : decode cX7_trialBy 54 = .ok (.iload_n 2, 1) := by decide +kernel
theorem dX7_trialBy_55 : decode cX7_trialBy 55 = .ok (.istore 5, 2) := by decide +kernel
theorem dX7_trialBy_57 : decode cX7_trialBy 57 = .ok (.iconst 1, 1) := by decide +kernel
theorem dX7_trialBy_58 : decode cX7_trialBy 58 = .ok (.istore 6, 2) := by decide +kernel
theorem dX7_trialBy_60 : decode cX7_trialBy 60 = .ok (.aload_n 0, 1) := by decide +kernel
theorem dX7_trialBy_61 : decode cX7_trialBy 61 = .ok (.iload 5, 2) := by decide +kernel
theorem dX7_trialBy_63 : decode cX7_trialBy 63 = .ok (.iload 4, 2) := by decide +kernel
theorem dX7_trialBy_65 : decode cX7_trialBy 65 = .ok (.invokevirtual 131, 3) := by decide +kernel
theorem dX7_trialBy_68 : decode cX7_trialBy 68 = .ok (.istore 7, 2) := by decide +kernel
theorem dX7_trialBy_70 : decode cX7_trialBy 70 = .ok (.iload 7, 2) := by decide +kernel
theorem dX7_trialBy_72 : decode cX7_trialBy 72 = .ok (.ifCond .eq 106, 3) := by decide +kernel
theorem dX7_trialBy_75 : decode cX7_trialBy 75 = .ok (.ldc2_w 185, 3) := by decide +kernel
theorem dX7_trialBy_78 : decode cX7_trialBy 78 = .ok (.iload_n 1, 1) := by decide +kernel
theorem dX7_trialBy_79 : decode cX7_trialBy 79 = .ok (.i2l, 1) := by decide +kernel
theorem dX7_trialBy_80 : decode cX7_trialBy 80 = .ok (.lmul, 1) := by decide +kernel
theorem dX7_trialBy_81 : decode cX7_trialBy 81 = .ok (.ldc2_w 187, 3) := by decide +kernel
theorem dX7_trialBy_84 : decode cX7_trialBy 84 = .ok (.iload 6, 2) := by decide +kernel
theorem dX7_trialBy_86 : decode cX7_trialBy 86 = .ok (.i2l, 1) := by decide +kernel
theorem dX7_trialBy_87 : decode cX7_trialBy 87 = .ok (.lmul, 1) := by decide +kernel
theorem dX7_trialBy_88 : decode cX7_trialBy 88 = .ok (.ladd, 1) := by decide +kernel
theorem dX7_trialBy_89 : decode cX7_trialBy 89 = .ok (.lconst 1, 1) := by decide +kernel
theorem dX7_trialBy_90 : decode cX7_trialBy 90 = .ok (.ladd, 1) := by decide +kernel
theorem dX7_trialBy_91 : decode cX7_trialBy 91 = .ok (.lstore 8, 2) := by decide +kernel
theorem dX7_trialBy_93 : decode cX7_trialBy 93 = .ok (.lload 8, 2) := by decide +kernel
theorem dX7_trialBy_95 : decode cX7_trialBy 95 = .ok (.lload 8, 2) := by decide +kernel
theorem dX7_trialBy_97 : decode cX7_trialBy 97 = .ok (.lmul, 1) := by decide +kernel
theorem dX7_trialBy_98 : decode cX7_trialBy 98 = .ok (.ldc2_w 189, 3) := by decide +kernel
theorem dX7_trialBy_101 : decode cX7_trialBy 101 = .ok (.lrem, 1) := by decide +kernel
theorem dX7_trialBy_102 : decode cX7_trialBy 102 = .ok (.l2i, 1) := by decide +kernel
theorem dX7_trialBy_103 : decode cX7_trialBy 103 = .ok (.iconst 4, 1) := by decide +kernel
theorem dX7_trialBy_104 : decode cX7_trialBy 104 = .ok (.idiv, 1) := by decide +kernel
theorem dX7_trialBy_105 : decode cX7_trialBy 105 = .ok (.iload 7, 2) := by decide +kernel
theorem dX7_trialBy_107 : decode cX7_trialBy 107 = .ok (.invokestatic 148, 3) := by decide +kernel
theorem dX7_trialBy_110 : decode cX7_trialBy 110 = .ok (.irem, 1) := by decide +kernel
theorem dX7_trialBy_111 : decode cX7_trialBy 111 = .ok (.istore 10, 2) := by decide +kernel
theorem dX7_trialBy_113 : decode cX7_trialBy 113 = .ok (.iconst 0, 1) := by decide +kernel
theorem dX7_trialBy_114 : decode cX7_trialBy 114 = .ok (.istore 11, 2) := by decide +kernel
theorem dX7_trialBy_116 : decode cX7_trialBy 116 = .ok (.iload 7, 2) := by decide +kernel
theorem dX7_trialBy_118 : decode cX7_trialBy 118 = .ok (.iload 11, 2) := by decide +kernel
theorem dX7_trialBy_120 : decode cX7_trialBy 120 = .ok (.ishr, 1) := by decide +kernel
theorem dX7_trialBy_121 : decode cX7_trialBy 121 = .ok (.iconst 1, 1) := by decide +kernel
theorem dX7_trialBy_122 : decode cX7_trialBy 122 = .ok (.iand, 1) := by decide +kernel
theorem dX7_trialBy_123 : decode cX7_trialBy 123 = .ok (.ifCond .eq 8, 3) := by decide +kernel
theorem dX7_trialBy_126 : decode cX7_trialBy 126 = .ok (.iload 10, 2) := by decide +kernel
theorem dX7_trialBy_128 : decode cX7_trialBy 128 = .ok (.ifCond .le 21, 3) := by decide +kernel
theorem dX7_trialBy_131 : decode cX7_trialBy 131 = .ok (.iload 10, 2) := by decide +kernel
theorem dX7_trialBy_133 : decode cX7_trialBy 133 = .ok (.iload 7, 2) := by decide +kernel
theorem dX7_trialBy_135 : decode cX7_trialBy 135 = .ok (.iload 11, 2) := by decide +kernel
theorem dX7_trialBy_137 : decode cX7_trialBy 137 = .ok (.ishr, 1) := by decide +kernel
theorem dX7_trialBy_138 : decode cX7_trialBy 138 = .ok (.iconst 1, 1) := by decide +kernel
theorem dX7_trialBy_139 : decode cX7_trialBy 139 = .ok (.iand, 1) := by decide +kernel
theorem dX7_trialBy_140 : decode cX7_trialBy 140 = .ok (.isub, 1) := by decide +kernel
theorem dX7_trialBy_141 : decode cX7_trialBy 141 = .ok (.istore 10, 2) := by decide +kernel
theorem dX7_trialBy_143 : decode cX7_trialBy 143 = .ok (.iinc 11 1, 3) := by decide +kernel
theorem dX7_trialBy_146 : decode cX7_trialBy 146 = .ok (.goto (-30), 3) := by decide +kernel
theorem dX7_trialBy_149 : decode cX7_trialBy 149 = .ok (.iload 11, 2) := by decide +kernel
theorem dX7_trialBy_151 : decode cX7_trialBy 151 = .ok (.istore 5, 2) := by decide +kernel
theorem dX7_trialBy_153 : decode cX7_trialBy 153 = .ok (.iload 4, 2) := by decide +kernel
theorem dX7_trialBy_155 : decode cX7_trialBy 155 = .ok (.iconst 1, 1) := by decide +kernel
theorem dX7_trialBy_156 : decode cX7_trialBy 156 = .ok (.iload 11, 2) := by decide +kernel
theorem dX7_trialBy_158 : decode cX7_trialBy 158 = .ok (.ishl, 1) := by decide +kernel
theorem dX7_trialBy_159 : decode cX7_trialBy 159 = .ok (.ior, 1) := by decide +kernel
theorem dX7_trialBy_160 : decode cX7_trialBy 160 = .ok (.istore 4, 2) := by decide +kernel
theorem dX7_trialBy_162 : decode cX7_trialBy 162 = .ok (.iinc 6 1, 3) := by decide +kernel
theorem dX7_trialBy_165 : decode cX7_trialBy 165 = .ok (.aload_n 0, 1) := by decide +kernel
theorem dX7_trialBy_166 : decode cX7_trialBy 166 = .ok (.iload 5, 2) := by decide +kernel
theorem dX7_trialBy_168 : decode cX7_trialBy 168 = .ok (.iload 4, 2) := by decide +kernel
theorem dX7_trialBy_170 : decode cX7_trialBy 170 = .ok (.invokevirtual 131, 3) := by decide +kernel
theorem dX7_trialBy_173 : decode cX7_trialBy 173 = .ok (.istore 7, 2) := by decide +kernel
theorem dX7_trialBy_175 : decode cX7_trialBy 175 = .ok (.goto (-105), 3) := by decide +kernel
theorem dX7_trialBy_178 : decode cX7_trialBy 178 = .ok (.iload_n 3, 1) := by decide +kernel
theorem dX7_trialBy_179 : decode cX7_trialBy 179 = .ok (.ifCond .ne 8, 3) := by decide +kernel
theorem dX7_trialBy_182 : decode cX7_trialBy 182 = .ok (.iload 6, 2) := by decide +kernel
theorem dX7_trialBy_184 : decode cX7_trialBy 184 = .ok (.goto 21, 3) := by decide +kernel
theorem dX7_trialBy_187 : decode cX7_trialBy 187 = .ok (.aload_n 0, 1) := by decide +kernel
theorem dX7_trialBy_188 : decode cX7_trialBy 188 = .ok (.getfield 17, 3) := by decide +kernel
theorem dX7_trialBy_191 : decode cX7_trialBy 191 = .ok (.iload 5, 2) := by decide +kernel
theorem dX7_trialBy_193 : decode cX7_trialBy 193 = .ok (.iaload, 1) := by decide +kernel
theorem dX7_trialBy_194 : decode cX7_trialBy 194 = .ok (.iconst 4, 1) := by decide +kernel
theorem dX7_trialBy_195 : decode cX7_trialBy 195 = .ok (.if_icmp .ne 8, 3) := by decide +kernel
theorem dX7_trialBy_198 : decode cX7_trialBy 198 = .ok (.iload 5, 2) := by decide +kernel
theorem dX7_trialBy_200 : decode cX7_trialBy 200 = .ok (.goto 5, 3) := by decide +kernel
theorem dX7_trialBy_203 : decode cX7_trialBy 203 = .ok (.bipush (-4), 2) := by decide +kernel
theorem dX7_trialBy_205 : decode cX7_trialBy 205 = .ok (.ireturn, 1) := by decide +kernel
theorem dX7_keep_0 : decode cX7_keep 0 = .ok (.aload_n 0, 1) := by decide +kernel
theorem dX7_keep_1 : decode cX7_keep 1 = .ok (.getfield 115, 3) := by decide +kernel
theorem dX7_keep_4 : decode cX7_keep 4 = .ok (.iconst 2, 1) := by decide +kernel
theorem dX7_keep_5 : decode cX7_keep 5 = .ok (.if_icmp .ne 6, 3) := by decide +kernel
theorem dX7_keep_8 : decode cX7_keep 8 = .ok (.bipush (-3), 2) := by decide +kernel
theorem dX7_keep_10 : decode cX7_keep 10 = .ok (.ireturn, 1) := by decide +kernel
theorem dX7_keep_11 : decode cX7_keep 11 = .ok (.aload_n 0, 1) := by decide +kernel
theorem dX7_keep_12 : decode cX7_keep 12 = .ok (.iconst 0, 1) := by decide +kernel
theorem dX7_keep_13 : decode cX7_keep 13 = .ok (.bipush 108, 2) := by decide +kernel
theorem dX7_keep_15 : decode cX7_keep 15 = .ok (.bipush 12, 2) := by decide +kernel
theorem dX7_keep_17 : decode cX7_keep 17 = .ok (.aload_n 0, 1) := by decide +kernel
theorem dX7_keep_18 : decode cX7_keep 18 = .ok (.getfield 115, 3) := by decide +kernel
theorem dX7_keep_21 : decode cX7_keep 21 = .ok (.imul, 1) := by decide +kernel
theorem dX7_keep_22 : decode cX7_keep 22 = .ok (.iadd, 1) := by decide +kernel
theorem dX7_keep_23 : decode cX7_keep 23 = .ok (.invokevirtual 121, 3) := by decide +kernel
theorem dX7_keep_26 : decode cX7_keep 26 = .ok (.aload_n 0, 1) := by decide +kernel
theorem dX7_keep_27 : decode cX7_keep 27 = .ok (.dup, 1) := by decide +kernel
theorem dX7_keep_28 : decode cX7_keep 28 = .ok (.getfield 115, 3) := by decide +kernel
theorem dX7_keep_31 : decode cX7_keep 31 = .ok (.iconst 1, 1) := by decide +kernel
theorem dX7_keep_32 : decode cX7_keep 32 = .ok (.iadd, 1) := by decide +kernel
theorem dX7_keep_33 : decode cX7_keep 33 = .ok (.putfield 115, 3) := by decide +kernel
theorem dX7_keep_36 : decode cX7_keep 36 = .ok (.aload_n 0, 1) := by decide +kernel
theorem dX7_keep_37 : decode cX7_keep 37 = .ok (.getfield 115, 3) := by decide +kernel
theorem dX7_keep_40 : decode cX7_keep 40 = .ok (.ireturn, 1) := by decide +kernel
theorem dX7_back_0 : decode cX7_back 0 = .ok (.aload_n 0, 1) := by decide +kernel
theorem dX7_back_1 : decode cX7_back 1 = .ok (.getfield 115, 3) := by decide +kernel
theorem dX7_back_4 : decode cX7_back 4 = .ok (.ifCond .ne 6, 3) := by decide +kernel
theorem dX7_back_7 : decode cX7_back 7 = .ok (.bipush (-2), 2) := by decide +kernel
theorem dX7_back_9 : decode cX7_back 9 = .ok (.ireturn, 1) := by decide +kernel
theorem dX7_back_10 : decode cX7_back 10 = .ok (.aload_n 0, 1) := by decide +kernel
theorem dX7_back_11 : decode cX7_back 11 = .ok (.dup, 1) := by decide +kernel
theorem dX7_back_12 : decode cX7_back 12 = .ok (.getfield 115, 3) := by decide +kernel
theorem dX7_back_15 : decode cX7_back 15 = .ok (.iconst 1, 1) := by decide +kernel
theorem dX7_back_16 : decode cX7_back 16 = .ok (.isub, 1) := by decide +kernel
theorem dX7_back_17 : decode cX7_back 17 = .ok (.putfield 115, 3) := by decide +kernel
theorem dX7_back_20 : decode cX7_back 20 = .ok (.aload_n 0, 1) := by decide +kernel
theorem dX7_back_21 : decode cX7_back 21 = .ok (.bipush 108, 2) := by decide +kernel
theorem dX7_back_23 : decode cX7_back 23 = .ok (.bipush 12, 2) := by decide +kernel
theorem dX7_back_25 : decode cX7_back 25 = .ok (.aload_n 0, 1) := by decide +kernel
theorem dX7_back_26 : decode cX7_back 26 = .ok (.getfield 115, 3) := by decide +kernel
theorem dX7_back_29 : decode cX7_back 29 = .ok (.imul, 1) := by decide +kernel
theorem dX7_back_30 : decode cX7_back 30 = .ok (.iadd, 1) := by decide +kernel
theorem dX7_back_31 : decode cX7_back 31 = .ok (.iconst 0, 1) := by decide +kernel
theorem dX7_back_32 : decode cX7_back 32 = .ok (.invokevirtual 121, 3) := by decide +kernel
theorem dX7_back_35 : decode cX7_back 35 = .ok (.aload_n 0, 1) := by decide +kernel
theorem dX7_back_36 : decode cX7_back 36 = .ok (.iconst 0, 1) := by decide +kernel
theorem dX7_back_37 : decode cX7_back 37 = .ok (.putfield 112, 3) := by decide +kernel
theorem dX7_back_40 : decode cX7_back 40 = .ok (.aload_n 0, 1) := by decide +kernel
theorem dX7_back_41 : decode cX7_back 41 = .ok (.getfield 115, 3) := by decide +kernel
theorem dX7_back_44 : decode cX7_back 44 = .ok (.ireturn, 1) := by decide +kernel
theorem dX7_count_0 : decode cX7_count 0 = .ok (.iload_n 1, 1) := by decide +kernel
theorem dX7_count_1 : decode cX7_count 1 = .ok (.tableswitch 103 0 7 #[47, 54, 64, 71, 78, 88, 93, 98], 47) := by decide +kernel
theorem dX7_count_48 : decode cX7_count 48 = .ok (.aload_n 0, 1) := by decide +kernel
theorem dX7_count_49 : decode cX7_count 49 = .ok (.getfield 13, 3) := by decide +kernel
theorem dX7_count_52 : decode cX7_count 52 = .ok (.iconst 0, 1) := by decide +kernel
theorem dX7_count_53 : decode cX7_count 53 = .ok (.iaload, 1) := by decide +kernel
theorem dX7_count_54 : decode cX7_count 54 = .ok (.ireturn, 1) := by decide +kernel
theorem dX7_count_55 : decode cX7_count 55 = .ok (.aload_n 0, 1) := by decide +kernel
theorem dX7_count_56 : decode cX7_count 56 = .ok (.getfield 29, 3) := by decide +kernel
theorem dX7_count_59 : decode cX7_count 59 = .ok (.iconst 0, 1) := by decide +kernel
theorem dX7_count_60 : decode cX7_count 60 = .ok (.iaload, 1) := by decide +kernel
theorem dX7_count_61 : decode cX7_count 61 = .ok (.invokestatic 148, 3) := by decide +kernel
theorem dX7_count_64 : decode cX7_count 64 = .ok (.ireturn, 1) := by decide +kernel
theorem dX7_count_65 : decode cX7_count 65 = .ok (.aload_n 0, 1) := by decide +kernel
theorem dX7_count_66 : decode cX7_count 66 = .ok (.getfield 32, 3) := by decide +kernel
theorem dX7_count_69 : decode cX7_count 69 = .ok (.iconst 0, 1) := by decide +kernel
theorem dX7_count_70 : decode cX7_count 70 = .ok (.iaload, 1) := by decide +kernel
theorem dX7_count_71 : decode cX7_count 71 = .ok (.ireturn, 1) := by decide +kernel
theorem dX7_count_72 : decode cX7_count 72 = .ok (.aload_n 0, 1) := by decide +kernel
theorem dX7_count_73 : decode cX7_count 73 = .ok (.getfield 38, 3) := by decide +kernel
theorem dX7_count_76 : decode cX7_count 76 = .ok (.iconst 0, 1) := by decide +kernel
theorem dX7_count_77 : decode cX7_count 77 = .ok (.iaload, 1) := by decide +kernel
theorem dX7_count_78 : decode cX7_count 78 = .ok (.ireturn, 1) := by decide +kernel
theorem dX7_count_79 : decode cX7_count 79 = .ok (.aload_n 0, 1) := by decide +kernel
theorem dX7_count_80 : decode cX7_count 80 = .ok (.getfield 38, 3) := by decide +kernel
theorem dX7_count_83 : decode cX7_count 83 = .ok (.iconst 1, 1) := by decide +kernel
theorem dX7_count_84 : decode cX7_count 84 = .ok (.iaload, 1) := by decide +kernel
theorem dX7_count_85 : decode cX7_count 85 = .ok (.invokestatic 148, 3) := by decide +kernel
theorem dX7_count_88 : decode cX7_count 88 = .ok (.ireturn, 1) := by decide +kernel
theorem dX7_count_89 : decode cX7_count 89 = .ok (.aload_n 0, 1) := by decide +kernel
theorem dX7_count_90 : decode cX7_count 90 = .ok (.getfield 112, 3) := by decide +kernel
theorem dX7_count_93 : decode cX7_count 93 = .ok (.ireturn, 1) := by decide +kernel
theorem dX7_count_94 : decode cX7_count 94 = .ok (.aload_n 0, 1) := by decide +kernel
theorem dX7_count_95 : decode cX7_count 95 = .ok (.getfield 115, 3) := by decide +kernel
theorem dX7_count_98 : decode cX7_count 98 = .ok (.ireturn, 1) := by decide +kernel
theorem dX7_count_99 : decode cX7_count 99 = .ok (.aload_n 0, 1) := by decide +kernel
theorem dX7_count_100 : decode cX7_count 100 = .ok (.getfield 86, 3) := by decide +kernel
theorem dX7_count_103 : decode cX7_count 103 = .ok (.ireturn, 1) := by decide +kernel
theorem dX7_count_104 : decode cX7_count 104 = .ok (.iconst (-1), 1) := by decide +kernel
theorem dX7_count_105 : decode cX7_count 105 = .ok (.ireturn, 1) := by decide +kernel
theorem dJ6_bitCount_0f7a4_0 : decode cJ6_bitCount_0f7a4 0 = .ok (.iload_n 0, 1) := by decide +kernel
theorem dJ6_bitCount_0f7a4_1 : decode cJ6_bitCount_0f7a4 1 = .ok (.iload_n 0, 1) := by decide +kernel
theorem dJ6_bitCount_0f7a4_2 : decode cJ6_bitCount_0f7a4 2 = .ok (.iconst 1, 1) := by decide +kernel
theorem dJ6_bitCount_0f7a4_3 : decode cJ6_bitCount_0f7a4 3 = .ok (.iushr, 1) := by decide +kernel
theorem dJ6_bitCount_0f7a4_4 : decode cJ6_bitCount_0f7a4 4 = .ok (.ldc_w 265, 3) := by decide +kernel
theorem dJ6_bitCount_0f7a4_7 : decode cJ6_bitCount_0f7a4 7 = .ok (.iand, 1) := by decide +kernel
theorem dJ6_bitCount_0f7a4_8 : decode cJ6_bitCount_0f7a4 8 = .ok (.isub, 1) := by decide +kernel
theorem dJ6_bitCount_0f7a4_9 : decode cJ6_bitCount_0f7a4 9 = .ok (.istore_n 0, 1) := by decide +kernel
theorem dJ6_bitCount_0f7a4_10 : decode cJ6_bitCount_0f7a4 10 = .ok (.iload_n 0, 1) := by decide +kernel
theorem dJ6_bitCount_0f7a4_11 : decode cJ6_bitCount_0f7a4 11 = .ok (.ldc_w 266, 3) := by decide +kernel
theorem dJ6_bitCount_0f7a4_14 : decode cJ6_bitCount_0f7a4 14 = .ok (.iand, 1) := by decide +kernel
theorem dJ6_bitCount_0f7a4_15 : decode cJ6_bitCount_0f7a4 15 = .ok (.iload_n 0, 1) := by decide +kernel
theorem dJ6_bitCount_0f7a4_16 : decode cJ6_bitCount_0f7a4 16 = .ok (.iconst 2, 1) := by decide +kernel
theorem dJ6_bitCount_0f7a4_17 : decode cJ6_bitCount_0f7a4 17 = .ok (.iushr, 1) := by decide +kernel
theorem dJ6_bitCount_0f7a4_18 : decode cJ6_bitCount_0f7a4 18 = .ok (.ldc_w 266, 3) := by decide +kernel
theorem dJ6_bitCount_0f7a4_21 : decode cJ6_bitCount_0f7a4 21 = .ok (.iand, 1) := by decide +kernel
theorem dJ6_bitCount_0f7a4_22 : decode cJ6_bitCount_0f7a4 22 = .ok (.iadd, 1) := by decide +kernel
theorem dJ6_bitCount_0f7a4_23 : decode cJ6_bitCount_0f7a4 23 = .ok (.istore_n 0, 1) := by decide +kernel
theorem dJ6_bitCount_0f7a4_24 : decode cJ6_bitCount_0f7a4 24 = .ok (.iload_n 0, 1) := by decide +kernel
theorem dJ6_bitCount_0f7a4_25 : decode cJ6_bitCount_0f7a4 25 = .ok (.iload_n 0, 1) := by decide +kernel
theorem dJ6_bitCount_0f7a4_26 : decode cJ6_bitCount_0f7a4 26 = .ok (.iconst 4, 1) := by decide +kernel
theorem dJ6_bitCount_0f7a4_27 : decode cJ6_bitCount_0f7a4 27 = .ok (.iushr, 1) := by decide +kernel
theorem dJ6_bitCount_0f7a4_28 : decode cJ6_bitCount_0f7a4 28 = .ok (.iadd, 1) := by decide +kernel
theorem dJ6_bitCount_0f7a4_29 : decode cJ6_bitCount_0f7a4 29 = .ok (.ldc_w 267, 3) := by decide +kernel
theorem dJ6_bitCount_0f7a4_32 : decode cJ6_bitCount_0f7a4 32 = .ok (.iand, 1) := by decide +kernel
theorem dJ6_bitCount_0f7a4_33 : decode cJ6_bitCount_0f7a4 33 = .ok (.istore_n 0, 1) := by decide +kernel
theorem dJ6_bitCount_0f7a4_34 : decode cJ6_bitCount_0f7a4 34 = .ok (.iload_n 0, 1) := by decide +kernel
theorem dJ6_bitCount_0f7a4_35 : decode cJ6_bitCount_0f7a4 35 = .ok (.iload_n 0, 1) := by decide +kernel
theorem dJ6_bitCount_0f7a4_36 : decode cJ6_bitCount_0f7a4 36 = .ok (.bipush 8, 2) := by decide +kernel
theorem dJ6_bitCount_0f7a4_38 : decode cJ6_bitCount_0f7a4 38 = .ok (.iushr, 1) := by decide +kernel
theorem dJ6_bitCount_0f7a4_39 : decode cJ6_bitCount_0f7a4 39 = .ok (.iadd, 1) := by decide +kernel
theorem dJ6_bitCount_0f7a4_40 : decode cJ6_bitCount_0f7a4 40 = .ok (.istore_n 0, 1) := by decide +kernel
theorem dJ6_bitCount_0f7a4_41 : decode cJ6_bitCount_0f7a4 41 = .ok (.iload_n 0, 1) := by decide +kernel
theorem dJ6_bitCount_0f7a4_42 : decode cJ6_bitCount_0f7a4 42 = .ok (.iload_n 0, 1) := by decide +kernel
theorem dJ6_bitCount_0f7a4_43 : decode cJ6_bitCount_0f7a4 43 = .ok (.bipush 16, 2) := by decide +kernel
theorem dJ6_bitCount_0f7a4_45 : decode cJ6_bitCount_0f7a4 45 = .ok (.iushr, 1) := by decide +kernel
theorem dJ6_bitCount_0f7a4_46 : decode cJ6_bitCount_0f7a4 46 = .ok (.iadd, 1) := by decide +kernel
theorem dJ6_bitCount_0f7a4_47 : decode cJ6_bitCount_0f7a4 47 = .ok (.istore_n 0, 1) := by decide +kernel
theorem dJ6_bitCount_0f7a4_48 : decode cJ6_bitCount_0f7a4 48 = .ok (.iload_n 0, 1) := by decide +kernel
theorem dJ6_bitCount_0f7a4_49 : decode cJ6_bitCount_0f7a4 49 = .ok (.bipush 63, 2) := by decide +kernel
theorem dJ6_bitCount_0f7a4_51 : decode cJ6_bitCount_0f7a4 51 = .ok (.iand, 1) := by decide +kernel
theorem dJ6_bitCount_0f7a4_52 : decode cJ6_bitCount_0f7a4 52 = .ok (.ireturn, 1) := by decide +kernel
theorem dJ9_max_7cf53_0 : decode cJ9_max_7cf53 0 = .ok (.iload_n 0, 1) := by decide +kernel
theorem dJ9_max_7cf53_1 : decode cJ9_max_7cf53 1 = .ok (.iload_n 1, 1) := by decide +kernel
theorem dJ9_max_7cf53_2 : decode cJ9_max_7cf53 2 = .ok (.if_icmp .lt 7, 3) := by decide +kernel
theorem dJ9_max_7cf53_5 : decode cJ9_max_7cf53 5 = .ok (.iload_n 0, 1) := by decide +kernel
theorem dJ9_max_7cf53_6 : decode cJ9_max_7cf53 6 = .ok (.goto 4, 3) := by decide +kernel
theorem dJ9_max_7cf53_9 : decode cJ9_max_7cf53 9 = .ok (.iload_n 1, 1) := by decide +kernel
theorem dJ9_max_7cf53_10 : decode cJ9_max_7cf53 10 = .ok (.ireturn, 1) := by decide +kernel
theorem dJ9_min_7cf53_0 : decode cJ9_min_7cf53 0 = .ok (.iload_n 0, 1) := by decide +kernel
theorem dJ9_min_7cf53_1 : decode cJ9_min_7cf53 1 = .ok (.iload_n 1, 1) := by decide +kernel
theorem dJ9_min_7cf53_2 : decode cJ9_min_7cf53 2 = .ok (.if_icmp .gt 7, 3) := by decide +kernel
theorem dJ9_min_7cf53_5 : decode cJ9_min_7cf53 5 = .ok (.iload_n 0, 1) := by decide +kernel
theorem dJ9_min_7cf53_6 : decode cJ9_min_7cf53 6 = .ok (.goto 4, 3) := by decide +kernel
theorem dJ9_min_7cf53_9 : decode cJ9_min_7cf53 9 = .ok (.iload_n 1, 1) := by decide +kernel
theorem dJ9_min_7cf53_10 : decode cJ9_min_7cf53 10 = .ok (.ireturn, 1) := by decide +kernel
theorem dL_law_0 : decode cL_law 0 = .ok (.new 7, 3) := by decide +kernel
theorem dL_law_3 : decode cL_law 3 = .ok (.dup, 1) := by decide +kernel
theorem dL_law_4 : decode cL_law 4 = .ok (.invokespecial 9, 3) := by decide +kernel
theorem dL_law_7 : decode cL_law 7 = .ok (.astore_n 1, 1) := by decide +kernel
theorem dL_law_8 : decode cL_law 8 = .ok (.new 10, 3) := by decide +kernel
theorem dL_law_11 : decode cL_law 11 = .ok (.dup, 1) := by decide +kernel
theorem dL_law_12 : decode cL_law 12 = .ok (.invokespecial 12, 3) := by decide +kernel
theorem dL_law_15 : decode cL_law 15 = .ok (.astore_n 2, 1) := by decide +kernel
theorem dL_law_16 : decode cL_law 16 = .ok (.iconst 0, 1) := by decide +kernel
theorem dL_law_17 : decode cL_law 17 = .ok (.istore_n 3, 1) := by decide +kernel
theorem dL_law_18 : decode cL_law 18 = .ok (.iload_n 3, 1) := by decide +kernel
theorem dL_law_19 : decode cL_law 19 = .ok (.aload_n 0, 1) := by decide +kernel
theorem dL_law_20 : decode cL_law 20 = .ok (.arraylength, 1) := by decide +kernel
theorem dL_law_21 : decode cL_law 21 = .ok (.iconst 4, 1) := by decide +kernel
theorem dL_law_22 : decode cL_law 22 = .ok (.isub, 1) := by decide +kernel
theorem dL_law_23 : decode cL_law 23 = .ok (.if_icmp .gt 834, 3) := by decide +kernel
theorem dL_law_26 : decode cL_law 26 = .ok (.aload_n 0, 1) := by decide +kernel
theorem dL_law_27 : decode cL_law 27 = .ok (.iload_n 3, 1) := by decide +kernel
theorem dL_law_28 : decode cL_law 28 = .ok (.iaload, 1) := by decide +kernel
theorem dL_law_29 : decode cL_law 29 = .ok (.bipush 31, 2) := by decide +kernel
theorem dL_law_31 : decode cL_law 31 = .ok (.iand, 1) := by decide +kernel
theorem dL_law_32 : decode cL_law 32 = .ok (.tableswitch 819 0 28 #[132, 155, 168, 181, 194, 227, 250, 263, 286, 299, 322, 335, 358, 381, 414, 437, 460, 473, 516, 549, 572, 595, 618, 651, 684, 727, 770, 783, 796], 132) := by decide +kernel
theorem dL_law_164 : decode cL_law 164 = .ok (.aload_n 1, 1) := by decide +kernel
theorem dL_law_165 : decode cL_law 165 = .ok (.aload_n 0, 1) := by decide +kernel
theorem dL_law_166 : decode cL_law 166 = .ok (.iload_n 3, 1) := by decide +kernel
theorem dL_law_167 : decode cL_law 167 = .ok (.iconst 1, 1) := by decide +kernel
theorem dL_law_168 : decode cL_law 168 = .ok (.iadd, 1) := by decide +kernel
theorem dL_law_169 : decode cL_law 169 = .ok (.iaload, 1) := by decide +kernel
theorem dL_law_170 : decode cL_law 170 = .ok (.invokevirtual 13, 3) := by decide +kernel
theorem dL_law_173 : decode cL_law 173 = .ok (.aload_n 2, 1) := by decide +kernel
theorem dL_law_174 : decode cL_law 174 = .ok (.aload_n 0, 1) := by decide +kernel
theorem dL_law_175 : decode cL_law 175 = .ok (.iload_n 3, 1) := by decide +kernel
theorem dL_law_176 : decode cL_law 176 = .ok (.iconst 1, 1) := by decide +kernel
theorem dL_law_177 : decode cL_law 177 = .ok (.iadd, 1) := by decide +kernel
theorem dL_law_178 : decode cL_law 178 = .ok (.iaload, 1) := by decide +kernel
theorem dL_law_179 : decode cL_law 179 = .ok (.invokevirtual 17, 3) := by decide +kernel
theorem dL_law_182 : decode cL_law 182 = .ok (.if_icmp .eq 669, 3) := by decide +kernel
theorem dL_law_185 : decode cL_law 185 = .ok (.iconst 0, 1) := by decide +kernel
theorem dL_law_186 : decode cL_law 186 = .ok (.ireturn, 1) := by decide +kernel
theorem dL_law_187 : decode cL_law 187 = .ok (.aload_n 1, 1) := by decide +kernel
theorem dL_law_188 : decode cL_law 188 = .ok (.invokevirtual 18, 3) := by decide +kernel
theorem dL_law_191 : decode cL_law 191 = .ok (.aload_n 2, 1) := by decide +kernel
theorem dL_law_192 : decode cL_law 192 = .ok (.invokevirtual 22, 3) := by decide +kernel
theorem dL_law_195 : decode cL_law 195 = .ok (.if_icmp .eq 656, 3) := by decide +kernel
theorem dL_law_198 : decode cL_law 198 = .ok (.iconst 0, 1) := by decide +kernel
theorem dL_law_199 : decode cL_law 199 = .ok (.ireturn, 1) := by decide +kernel
theorem dL_law_200 : decode cL_law 200 = .ok (.aload_n 1, 1) := by decide +kernel
theorem dL_law_201 : decode cL_law 201 = .ok (.invokevirtual 23, 3) := by decide +kernel
theorem dL_law_204 : decode cL_law 204 = .ok (.aload_n 2, 1) := by decide +kernel
theorem dL_law_205 : decode cL_law 205 = .ok (.invokevirtual 26, 3) := by decide +kernel
theorem dL_law_208 : decode cL_law 208 = .ok (.if_icmp .eq 643, 3) := by decide +kernel
theorem dL_law_211 : decode cL_law 211 = .ok (.iconst 0, 1) := by decide +kernel
theorem dL_law_212 : decode cL_law 212 = .ok (.ireturn, 1) := by decide +kernel
theorem dL_law_213 : decode cL_law 213 = .ok (.aload_n 1, 1) := by decide +kernel
theorem dL_law_214 : decode cL_law 214 = .ok (.invokevirtual 27, 3) := by decide +kernel
theorem dL_law_217 : decode cL_law 217 = .ok (.aload_n 2, 1) := by decide +kernel
theorem dL_law_218 : decode cL_law 218 = .ok (.invokevirtual 30, 3) := by decide +kernel
theorem dL_law_221 : decode cL_law 221 = .ok (.if_icmp .eq 630, 3) := by decide +kernel
theorem dL_law_224 : decode cL_law 224 = .ok (.iconst 0, 1) := by decide +kernel
theorem dL_law_225 : decode cL_law 225 = .ok (.ireturn, 1) := by decide +kernel
theorem dL_law_226 : decode cL_law 226 = .ok (.aload_n 1, 1) := by decide +kernel
theorem dL_law_227 : decode cL_law 227 = .ok (.aload_n 0, 1) := by decide +kernel
theorem dL_law_228 : decode cL_law 228 = .ok (.iload_n 3, 1) := by decide +kernel
theorem dL_law_229 : decode cL_law 229 = .ok (.iconst 1, 1) := by decide +kernel
theorem dL_law_230 : decode cL_law 230 = .ok (.iadd, 1) := by decide +kernel
theorem dL_law_231 : decode cL_law 231 = .ok (.iaload, 1) := by decide +kernel
theorem dL_law_232 : decode cL_law 232 = .ok (.aload_n 0, 1) := by decide +kernel
theorem dL_law_233 : decode cL_law 233 = .ok (.iload_n 3, 1) := by decide +kernel
theorem dL_law_234 : decode cL_law 234 = .ok (.iconst 2, 1) := by decide +kernel
theorem dL_law_235 : decode cL_law 235 = .ok (.iadd, 1) := by decide +kernel
theorem dL_law_236 : decode cL_law 236 = .ok (.iaload, 1) := by decide +kernel
theorem dL_law_237 : decode cL_law 237 = .ok (.invokevirtual 31, 3) := by decide +kernel
theorem dL_law_240 : decode cL_law 240 = .ok (.aload_n 2, 1) := by decide +kernel
theorem dL_law_241 : decode cL_law 241 = .ok (.aload_n 0, 1) := by decide +kernel
theorem dL_law_242 : decode cL_law 242 = .ok (.iload_n 3, 1) := by decide +kernel
theorem dL_law_243 : decode cL_law 243 = .ok (.iconst 1, 1) := by decide +kernel
theorem dL_law_244 : decode cL_law 244 = .ok (.iadd, 1) := by decide +kernel
theorem dL_law_245 : decode cL_law 245 = .ok (.iaload, 1) := by decide +kernel
theorem dL_law_246 : decode cL_law 246 = .ok (.aload_n 0, 1) := by decide +kernel
theorem dL_law_247 : decode cL_law 247 = .ok (.iload_n 3, 1) := by decide +kernel
theorem dL_law_248 : decode cL_law 248 = .ok (.iconst 2, 1) := by decide +kernel
theorem dL_law_249 : decode cL_law 249 = .ok (.iadd, 1) := by decide +kernel
theorem dL_law_250 : decode cL_law 250 = .ok (.iaload, 1) := by decide +kernel
theorem dL_law_251 : decode cL_law 251 = .ok (.invokevirtual 35, 3) := by decide +kernel
theorem dL_law_254 : decode cL_law 254 = .ok (.if_icmp .eq 597, 3) := by decide +kernel
theorem dL_law_257 : decode cL_law 257 = .ok (.iconst 0, 1) := by decide +kernel
theorem dL_law_258 : decode cL_law 258 = .ok (.ireturn, 1) := by decide +kernel
theorem dL_law_259 : decode cL_law 259 = .ok (.aload_n 1, 1) := by decide +kernel
theorem dL_law_260 : decode cL_law 260 = .ok (.aload_n 0, 1) := by decide +kernel
theorem dL_law_261 : decode cL_law 261 = .ok (.iload_n 3, 1) := by decide +kernel
theorem dL_law_262 : decode cL_law 262 = .ok (.iconst 1, 1) := by decide +kernel
theorem dL_law_263 : decode cL_law 263 = .ok (.iadd, 1) := by decide +kernel
theorem dL_law_264 : decode cL_law 264 = .ok (.iaload, 1) := by decide +kernel
theorem dL_law_265 : decode cL_law 265 = .ok (.invokevirtual 36, 3) := by decide +kernel
theorem dL_law_268 : decode cL_law 268 = .ok (.aload_n 2, 1) := by decide +kernel
theorem dL_law_269 : decode cL_law 269 = .ok (.aload_n 0, 1) := by decide +kernel
theorem dL_law_270 : decode cL_law 270 = .ok (.iload_n 3, 1) := by decide +kernel
theorem dL_law_271 : decode cL_law 271 = .ok (.iconst 1, 1) := by decide +kernel
theorem dL_law_272 : decode cL_law 272 = .ok (.iadd, 1) := by decide +kernel
theorem dL_law_273 : decode cL_law 273 = .ok (.iaload, 1) := by decide +kernel
theorem dL_law_274 : decode cL_law 274 = .ok (.invokevirtual 39, 3) := by decide +kernel
theorem dL_law_277 : decode cL_law 277 = .ok (.if_icmp .eq 574, 3) := by decide +kernel
theorem dL_law_280 : decode cL_law 280 = .ok (.iconst 0, 1) := by decide +kernel
theorem dL_law_281 : decode cL_law 281 = .ok (.ireturn, 1) := by decide +kernel
theorem dL_law_282 : decode cL_law 282 = .ok (.aload_n 1, 1) := by decide +kernel
theorem dL_law_283 : decode cL_law 283 = .ok (.invokevirtual 40, 3) := by decide +kernel
theorem dL_law_286 : decode cL_law 286 = .ok (.aload_n 2, 1) := by decide +kernel
theorem dL_law_287 : decode cL_law 287 = .ok (.invokevirtual 43, 3) := by decide +kernel
theorem dL_law_290 : decode cL_law 290 = .ok (.if_icmp .eq 561, 3) := by decide +kernel
theorem dL_law_293 : decode cL_law 293 = .ok (.iconst 0, 1) := by decide +kernel
theorem dL_law_294 : decode cL_law 294 = .ok (.ireturn, 1) := by decide +kernel
theorem dL_law_295 : decode cL_law 295 = .ok (.aload_n 1, 1) := by decide +kernel
theorem dL_law_296 : decode cL_law 296 = .ok (.aload_n 0, 1) := by decide +kernel
theorem dL_law_297 : decode cL_law 297 = .ok (.iload_n 3, 1) := by decide +kernel
theorem dL_law_298 : decode cL_law 298 = .ok (.iconst 1, 1) := by decide +kernel
theorem dL_law_299 : decode cL_law 299 = .ok (.iadd, 1) := by decide +kernel
theorem dL_law_300 : decode cL_law 300 = .ok (.iaload, 1) := by decide +kernel
theorem dL_law_301 : decode cL_law 301 = .ok (.invokevirtual 44, 3) := by decide +kernel
theorem dL_law_304 : decode cL_law 304 = .ok (.aload_n 2, 1) := by decide +kernel
theorem dL_law_305 : decode cL_law 305 = .ok (.aload_n 0, 1) := by decide +kernel
theorem dL_law_306 : decode cL_law 306 = .ok (.iload_n 3, 1) := by decide +kernel
theorem dL_law_307 : decode cL_law 307 = .ok (.iconst 1, 1) := by decide +kernel
theorem dL_law_308 : decode cL_law 308 = .ok (.iadd, 1) := by decide +kernel
theorem dL_law_309 : decode cL_law 309 = .ok (.iaload, 1) := by decide +kernel
theorem dL_law_310 : decode cL_law 310 = .ok (.invokevirtual 47, 3) := by decide +kernel
theorem dL_law_313 : decode cL_law 313 = .ok (.if_icmp .eq 538, 3) := by decide +kernel
theorem dL_law_316 : decode cL_law 316 = .ok (.iconst 0, 1) := by decide +kernel
theorem dL_law_317 : decode cL_law 317 = .ok (.ireturn, 1) := by decide +kernel
theorem dL_law_318 : decode cL_law 318 = .ok (.aload_n 1, 1) := by decide +kernel
theorem dL_law_319 : decode cL_law 319 = .ok (.invokevirtual 48, 3) := by decide +kernel
theorem dL_law_322 : decode cL_law 322 = .ok (.aload_n 2, 1) := by decide +kernel
theorem dL_law_323 : decode cL_law 323 = .ok (.invokevirtual 51, 3) := by decide +kernel
theorem dL_law_326 : decode cL_law 326 = .ok (.if_icmp .eq 525, 3) := by decide +kernel
theorem dL_law_329 : decode cL_law 329 = .ok (.iconst 0, 1) := by decide +kernel
theorem dL_law_330 : decode cL_law 330 = .ok (.ireturn, 1) := by decide +kernel
theorem dL_law_331 : decode cL_law 331 = .ok (.aload_n 1, 1) := by decide +kernel
theorem dL_law_332 : decode cL_law 332 = .ok (.aload_n 0, 1) := by decide +kernel
theorem dL_law_333 : decode cL_law 333 = .ok (.iload_n 3, 1) := by decide +kernel
theorem dL_law_334 : decode cL_law 334 = .ok (.iconst 1, 1) := by decide +kernel
theorem dL_law_335 : decode cL_law 335 = .ok (.iadd, 1) := by decide +kernel
theorem dL_law_336 : decode cL_law 336 = .ok (.iaload, 1) := by decide +kernel
theorem dL_law_337 : decode cL_law 337 = .ok (.invokevirtual 52, 3) := by decide +kernel
theorem dL_law_340 : decode cL_law 340 = .ok (.aload_n 2, 1) := by decide +kernel
theorem dL_law_341 : decode cL_law 341 = .ok (.aload_n 0, 1) := by decide +kernel
theorem dL_law_342 : decode cL_law 342 = .ok (.iload_n 3, 1) := by decide +kernel
theorem dL_law_343 : decode cL_law 343 = .ok (.iconst 1, 1) := by decide +kernel
theorem dL_law_344 : decode cL_law 344 = .ok (.iadd, 1) := by decide +kernel
theorem dL_law_345 : decode cL_law 345 = .ok (.iaload, 1) := by decide +kernel
theorem dL_law_346 : decode cL_law 346 = .ok (.invokevirtual 55, 3) := by decide +kernel
theorem dL_law_349 : decode cL_law 349 = .ok (.if_icmp .eq 502, 3) := by decide +kernel
theorem dL_law_352 : decode cL_law 352 = .ok (.iconst 0, 1) := by decide +kernel
theorem dL_law_353 : decode cL_law 353 = .ok (.ireturn, 1) := by decide +kernel
theorem dL_law_354 : decode cL_law 354 = .ok (.aload_n 1, 1) := by decide +kernel
theorem dL_law_355 : decode cL_law 355 = .ok (.invokevirtual 56, 3) := by decide +kernel
theorem dL_law_358 : decode cL_law 358 = .ok (.aload_n 2, 1) := by decide +kernel
theorem dL_law_359 : decode cL_law 359 = .ok (.invokevirtual 59, 3) := by decide +kernel
theorem dL_law_362 : decode cL_law 362 = .ok (.if_icmp .eq 489, 3) := by decide +kernel
theorem dL_law_365 : decode cL_law 365 = .ok (.iconst 0, 1) := by decide +kernel
theorem dL_law_366 : decode cL_law 366 = .ok (.ireturn, 1) := by decide +kernel
theorem dL_law_367 : decode cL_law 367 = .ok (.aload_n 1, 1) := by decide +kernel
theorem dL_law_368 : decode cL_law 368 = .ok (.aload_n 0, 1) := by decide +kernel
theorem dL_law_369 : decode cL_law 369 = .ok (.iload_n 3, 1) := by decide +kernel
theorem dL_law_370 : decode cL_law 370 = .ok (.iconst 1, 1) := by decide +kernel
theorem dL_law_371 : decode cL_law 371 = .ok (.iadd, 1) := by decide +kernel
theorem dL_law_372 : decode cL_law 372 = .ok (.iaload, 1) := by decide +kernel
theorem dL_law_373 : decode cL_law 373 = .ok (.invokevirtual 60, 3) := by decide +kernel
theorem dL_law_376 : decode cL_law 376 = .ok (.aload_n 2, 1) := by decide +kernel
theorem dL_law_377 : decode cL_law 377 = .ok (.aload_n 0, 1) := by decide +kernel
theorem dL_law_378 : decode cL_law 378 = .ok (.iload_n 3, 1) := by decide +kernel
theorem dL_law_379 : decode cL_law 379 = .ok (.iconst 1, 1) := by decide +kernel
theorem dL_law_380 : decode cL_law 380 = .ok (.iadd, 1) := by decide +kernel
theorem dL_law_381 : decode cL_law 381 = .ok (.iaload, 1) := by decide +kernel
theorem dL_law_382 : decode cL_law 382 = .ok (.invokevirtual 63, 3) := by decide +kernel
theorem dL_law_385 : decode cL_law 385 = .ok (.if_icmp .eq 466, 3) := by decide +kernel
theorem dL_law_388 : decode cL_law 388 = .ok (.iconst 0, 1) := by decide +kernel
theorem dL_law_389 : decode cL_law 389 = .ok (.ireturn, 1) := by decide +kernel
theorem dL_law_390 : decode cL_law 390 = .ok (.aload_n 1, 1) := by decide +kernel
theorem dL_law_391 : decode cL_law 391 = .ok (.aload_n 0, 1) := by decide +kernel
theorem dL_law_392 : decode cL_law 392 = .ok (.iload_n 3, 1) := by decide +kernel
theorem dL_law_393 : decode cL_law 393 = .ok (.iconst 1, 1) := by decide +kernel
theorem dL_law_394 : decode cL_law 394 = .ok (.iadd, 1) := by decide +kernel
theorem dL_law_395 : decode cL_law 395 = .ok (.iaload, 1) := by decide +kernel
theorem dL_law_396 : decode cL_law 396 = .ok (.invokevirtual 64, 3) := by decide +kernel
theorem dL_law_399 : decode cL_law 399 = .ok (.aload_n 2, 1) := by decide +kernel
theorem dL_law_400 : decode cL_law 400 = .ok (.aload_n 0, 1) := by decide +kernel
theorem dL_law_401 : decode cL_law 401 = .ok (.iload_n 3, 1) := by decide +kernel
theorem dL_law_402 : decode cL_law 402 = .ok (.iconst 1, 1) := by decide +kernel
theorem dL_law_403 : decode cL_law 403 = .ok (.iadd, 1) := by decide +kernel
theorem dL_law_404 : decode cL_law 404 = .ok (.iaload, 1) := by decide +kernel
theorem dL_law_405 : decode cL_law 405 = .ok (.invokevirtual 67, 3) := by decide +kernel
theorem dL_law_408 : decode cL_law 408 = .ok (.if_icmp .eq 443, 3) := by decide +kernel
theorem dL_law_411 : decode cL_law 411 = .ok (.iconst 0, 1) := by decide +kernel
theorem dL_law_412 : decode cL_law 412 = .ok (.ireturn, 1) := by decide +kernel
theorem dL_law_413 : decode cL_law 413 = .ok (.aload_n 1, 1) := by decide +kernel
theorem dL_law_414 : decode cL_law 414 = .ok (.aload_n 0, 1) := by decide +kernel
theorem dL_law_415 : decode cL_law 415 = .ok (.iload_n 3, 1) := by decide +kernel
theorem dL_law_416 : decode cL_law 416 = .ok (.iconst 1, 1) := by decide +kernel
theorem dL_law_417 : decode cL_law 417 = .ok (.iadd, 1) := by decide +kernel
theorem dL_law_418 : decode cL_law 418 = .ok (.iaload, 1) := by decide +kernel
theorem dL_law_419 : decode cL_law 419 = .ok (.aload_n 0, 1) := by decide +kernel
theorem dL_law_420 : decode cL_law 420 = .ok (.iload_n 3, 1) := by decide +kernel
theorem dL_law_421 : decode cL_law 421 = .ok (.iconst 2, 1) := by decide +kernel
theorem dL_law_422 : decode cL_law 422 = .ok (.iadd, 1) := by decide +kernel
theorem dL_law_423 : decode cL_law 423 = .ok (.iaload, 1) := by decide +kernel
theorem dL_law_424 : decode cL_law 424 = .ok (.invokevirtual 68, 3) := by decide +kernel
theorem dL_law_427 : decode cL_law 427 = .ok (.aload_n 2, 1) := by decide +kernel
theorem dL_law_428 : decode cL_law 428 = .ok (.aload_n 0, 1) := by decide +kernel
theorem dL_law_429 : decode cL_law 429 = .ok (.iload_n 3, 1) := by decide +kernel
theorem dL_law_430 : decode cL_law 430 = .ok (.iconst 1, 1) := by decide +kernel
theorem dL_law_431 : decode cL_law 431 = .ok (.iadd, 1) := by decide +kernel
theorem dL_law_432 : decode cL_law 432 = .ok (.iaload, 1) := by decide +kernel
theorem dL_law_433 : decode cL_law 433 = .ok (.aload_n 0, 1) := by decide +kernel
theorem dL_law_434 : decode cL_law 434 = .ok (.iload_n 3, 1) := by decide +kernel
theorem dL_law_435 : decode cL_law 435 = .ok (.iconst 2, 1) := by decide +kernel
theorem dL_law_436 : decode cL_law 436 = .ok (.iadd, 1) := by decide +kernel
theorem dL_law_437 : decode cL_law 437 = .ok (.iaload, 1) := by decide +kernel
theorem dL_law_438 : decode cL_law 438 = .ok (.invokevirtual 71, 3) := by decide +kernel
theorem dL_law_441 : decode cL_law 441 = .ok (.if_icmp .eq 410, 3) := by decide +kernel
theorem dL_law_444 : decode cL_law 444 = .ok (.iconst 0, 1) := by decide +kernel
theorem dL_law_445 : decode cL_law 445 = .ok (.ireturn, 1) := by decide +kernel
theorem dL_law_446 : decode cL_law 446 = .ok (.aload_n 1, 1) := by decide +kernel
theorem dL_law_447 : decode cL_law 447 = .ok (.aload_n 0, 1) := by decide +kernel
theorem dL_law_448 : decode cL_law 448 = .ok (.iload_n 3, 1) := by decide +kernel
theorem dL_law_449 : decode cL_law 449 = .ok (.iconst 1, 1) := by decide +kernel
theorem dL_law_450 : decode cL_law 450 = .ok (.iadd, 1) := by decide +kernel
theorem dL_law_451 : decode cL_law 451 = .ok (.iaload, 1) := by decide +kernel
theorem dL_law_452 : decode cL_law 452 = .ok (.invokevirtual 72, 3) := by decide +kernel
theorem dL_law_455 : decode cL_law 455 = .ok (.aload_n 2, 1) := by decide +kernel
theorem dL_law_456 : decode cL_law 456 = .ok (.aload_n 0, 1) := by decide +kernel
theorem dL_law_457 : decode cL_law 457 = .ok (.iload_n 3, 1) := by decide +kernel
theorem dL_law_458 : decode cL_law 458 = .ok (.iconst 1, 1) := by decide +kernel
theorem dL_law_459 : decode cL_law 459 = .ok (.iadd, 1) := by decide +kernel
theorem dL_law_460 : decode cL_law 460 = .ok (.iaload, 1) := by decide +kernel
theorem dL_law_461 : decode cL_law 461 = .ok (.invokevirtual 75, 3) := by decide +kernel
theorem dL_law_464 : decode cL_law 464 = .ok (.if_icmp .eq 387, 3) := by decide +kernel
theorem dL_law_467 : decode cL_law 467 = .ok (.iconst 0, 1) := by decide +kernel
theorem dL_law_468 : decode cL_law 468 = .ok (.ireturn, 1) := by decide +kernel
theorem dL_law_469 : decode cL_law 469 = .ok (.aload_n 1, 1) := by decide +kernel
theorem dL_law_470 : decode cL_law 470 = .ok (.aload_n 0, 1) := by decide +kernel
theorem dL_law_471 : decode cL_law 471 = .ok (.iload_n 3, 1) := by decide +kernel
theorem dL_law_472 : decode cL_law 472 = .ok (.iconst 1, 1) := by decide +kernel
theorem dL_law_473 : decode cL_law 473 = .ok (.iadd, 1) := by decide +kernel
theorem dL_law_474 : decode cL_law 474 = .ok (.iaload, 1) := by decide +kernel
theorem dL_law_475 : decode cL_law 475 = .ok (.invokevirtual 76, 3) := by decide +kernel
theorem dL_law_478 : decode cL_law 478 = .ok (.aload_n 2, 1) := by decide +kernel
theorem dL_law_479 : decode cL_law 479 = .ok (.aload_n 0, 1) := by decide +kernel
theorem dL_law_480 : decode cL_law 480 = .ok (.iload_n 3, 1) := by decide +kernel
theorem dL_law_481 : decode cL_law 481 = .ok (.iconst 1, 1) := by decide +kernel
theorem dL_law_482 : decode cL_law 482 = .ok (.iadd, 1) := by decide +kernel
theorem dL_law_483 : decode cL_law 483 = .ok (.iaload, 1) := by decide +kernel
theorem dL_law_484 : decode cL_law 484 = .ok (.invokevirtual 79, 3) := by decide +kernel
theorem dL_law_487 : decode cL_law 487 = .ok (.if_icmp .eq 364, 3) := by decide +kernel
theorem dL_law_490 : decode cL_law 490 = .ok (.iconst 0, 1) := by decide +kernel
theorem dL_law_491 : decode cL_law 491 = .ok (.ireturn, 1) := by decide +kernel
theorem dL_law_492 : decode cL_law 492 = .ok (.aload_n 1, 1) := by decide +kernel
theorem dL_law_493 : decode cL_law 493 = .ok (.invokevirtual 80, 3) := by decide +kernel
theorem dL_law_496 : decode cL_law 496 = .ok (.aload_n 2, 1) := by decide +kernel
theorem dL_law_497 : decode cL_law 497 = .ok (.invokevirtual 83, 3) := by decide +kernel
theorem dL_law_500 : decode cL_law 500 = .ok (.if_icmp .eq 351, 3) := by decide +kernel
theorem dL_law_503 : decode cL_law 503 = .ok (.iconst 0, 1) := by decide +kernel
theorem dL_law_504 : decode cL_law 504 = .ok (.ireturn, 1) := by decide +kernel
theorem dL_law_505 : decode cL_law 505 = .ok (.aload_n 1, 1) := by decide +kernel
theorem dL_law_506 : decode cL_law 506 = .ok (.aload_n 0, 1) := by decide +kernel
theorem dL_law_507 : decode cL_law 507 = .ok (.iload_n 3, 1) := by decide +kernel
theorem dL_law_508 : decode cL_law 508 = .ok (.iconst 1, 1) := by decide +kernel
theorem dL_law_509 : decode cL_law 509 = .ok (.iadd, 1) := by decide +kernel
theorem dL_law_510 : decode cL_law 510 = .ok (.iaload, 1) := by decide +kernel
theorem dL_law_511 : decode cL_law 511 = .ok (.aload_n 0, 1) := by decide +kernel
theorem dL_law_512 : decode cL_law 512 = .ok (.iload_n 3, 1) := by decide +kernel
theorem dL_law_513 : decode cL_law 513 = .ok (.iconst 2, 1) := by decide +kernel
theorem dL_law_514 : decode cL_law 514 = .ok (.iadd, 1) := by decide +kernel
theorem dL_law_515 : decode cL_law 515 = .ok (.iaload, 1) := by decide +kernel
theorem dL_law_516 : decode cL_law 516 = .ok (.aload_n 0, 1) := by decide +kernel
theorem dL_law_517 : decode cL_law 517 = .ok (.iload_n 3, 1) := by decide +kernel
theorem dL_law_518 : decode cL_law 518 = .ok (.iconst 3, 1) := by decide +kernel
theorem dL_law_519 : decode cL_law 519 = .ok (.iadd, 1) := by decide +kernel
theorem dL_law_520 : decode cL_law 520 = .ok (.iaload, 1) := by decide +kernel
theorem dL_law_521 : decode cL_law 521 = .ok (.invokevirtual 84, 3) := by decide +kernel
theorem dL_law_524 : decode cL_law 524 = .ok (.aload_n 2, 1) := by decide +kernel
theorem dL_law_525 : decode cL_law 525 = .ok (.aload_n 0, 1) := by decide +kernel
theorem dL_law_526 : decode cL_law 526 = .ok (.iload_n 3, 1) := by decide +kernel
theorem dL_law_527 : decode cL_law 527 = .ok (.iconst 1, 1) := by decide +kernel
theorem dL_law_528 : decode cL_law 528 = .ok (.iadd, 1) := by decide +kernel
theorem dL_law_529 : decode cL_law 529 = .ok (.iaload, 1) := by decide +kernel
theorem dL_law_530 : decode cL_law 530 = .ok (.aload_n 0, 1) := by decide +kernel
theorem dL_law_531 : decode cL_law 531 = .ok (.iload_n 3, 1) := by decide +kernel
theorem dL_law_532 : decode cL_law 532 = .ok (.iconst 2, 1) := by decide +kernel
theorem dL_law_533 : decode cL_law 533 = .ok (.iadd, 1) := by decide +kernel
theorem dL_law_534 : decode cL_law 534 = .ok (.iaload, 1) := by decide +kernel
theorem dL_law_535 : decode cL_law 535 = .ok (.aload_n 0, 1) := by decide +kernel
theorem dL_law_536 : decode cL_law 536 = .ok (.iload_n 3, 1) := by decide +kernel
theorem dL_law_537 : decode cL_law 537 = .ok (.iconst 3, 1) := by decide +kernel
theorem dL_law_538 : decode cL_law 538 = .ok (.iadd, 1) := by decide +kernel
theorem dL_law_539 : decode cL_law 539 = .ok (.iaload, 1) := by decide +kernel
theorem dL_law_540 : decode cL_law 540 = .ok (.invokevirtual 88, 3) := by decide +kernel
theorem dL_law_543 : decode cL_law 543 = .ok (.if_icmp .eq 308, 3) := by decide +kernel
theorem dL_law_546 : decode cL_law 546 = .ok (.iconst 0, 1) := by decide +kernel
theorem dL_law_547 : decode cL_law 547 = .ok (.ireturn, 1) := by decide +kernel
theorem dL_law_548 : decode cL_law 548 = .ok (.aload_n 1, 1) := by decide +kernel
theorem dL_law_549 : decode cL_law 549 = .ok (.aload_n 0, 1) := by decide +kernel
theorem dL_law_550 : decode cL_law 550 = .ok (.iload_n 3, 1) := by decide +kernel
theorem dL_law_551 : decode cL_law 551 = .ok (.iconst 1, 1) := by decide +kernel
theorem dL_law_552 : decode cL_law 552 = .ok (.iadd, 1) := by decide +kernel
theorem dL_law_553 : decode cL_law 553 = .ok (.iaload, 1) := by decide +kernel
theorem dL_law_554 : decode cL_law 554 = .ok (.aload_n 0, 1) := by decide +kernel
theorem dL_law_555 : decode cL_law 555 = .ok (.iload_n 3, 1) := by decide +kernel
theorem dL_law_556 : decode cL_law 556 = .ok (.iconst 2, 1) := by decide +kernel
theorem dL_law_557 : decode cL_law 557 = .ok (.iadd, 1) := by decide +kernel
theorem dL_law_558 : decode cL_law 558 = .ok (.iaload, 1) := by decide +kernel
theorem dL_law_559 : decode cL_law 559 = .ok (.invokevirtual 89, 3) := by decide +kernel
theorem dL_law_562 : decode cL_law 562 = .ok (.aload_n 2, 1) := by decide +kernel
theorem dL_law_563 : decode cL_law 563 = .ok (.aload_n 0, 1) := by decide +kernel
theorem dL_law_564 : decode cL_law 564 = .ok (.iload_n 3, 1) := by decide +kernel
theorem dL_law_565 : decode cL_law 565 = .ok (.iconst 1, 1) := by decide +kernel
theorem dL_law_566 : decode cL_law 566 = .ok (.iadd, 1) := by decide +kernel
theorem dL_law_567 : decode cL_law 567 = .ok (.iaload, 1) := by decide +kernel
theorem dL_law_568 : decode cL_law 568 = .ok (.aload_n 0, 1) := by decide +kernel
theorem dL_law_569 : decode cL_law 569 = .ok (.iload_n 3, 1) := by decide +kernel
theorem dL_law_570 : decode cL_law 570 = .ok (.iconst 2, 1) := by decide +kernel
theorem dL_law_571 : decode cL_law 571 = .ok (.iadd, 1) := by decide +kernel
theorem dL_law_572 : decode cL_law 572 = .ok (.iaload, 1) := by decide +kernel
theorem dL_law_573 : decode cL_law 573 = .ok (.invokevirtual 92, 3) := by decide +kernel
theorem dL_law_576 : decode cL_law 576 = .ok (.if_icmp .eq 275, 3) := by decide +kernel
theorem dL_law_579 : decode cL_law 579 = .ok (.iconst 0, 1) := by decide +kernel
theorem dL_law_580 : decode cL_law 580 = .ok (.ireturn, 1) := by decide +kernel
theorem dL_law_581 : decode cL_law 581 = .ok (.aload_n 1, 1) := by decide +kernel
theorem dL_law_582 : decode cL_law 582 = .ok (.aload_n 0, 1) := by decide +kernel
theorem dL_law_583 : decode cL_law 583 = .ok (.iload_n 3, 1) := by decide +kernel
theorem dL_law_584 : decode cL_law 584 = .ok (.iconst 1, 1) := by decide +kernel
theorem dL_law_585 : decode cL_law 585 = .ok (.iadd, 1) := by decide +kernel
theorem dL_law_586 : decode cL_law 586 = .ok (.iaload, 1) := by decide +kernel
theorem dL_law_587 : decode cL_law 587 = .ok (.invokevirtual 93, 3) := by decide +kernel
theorem dL_law_590 : decode cL_law 590 = .ok (.aload_n 2, 1) := by decide +kernel
theorem dL_law_591 : decode cL_law 591 = .ok (.aload_n 0, 1) := by decide +kernel
theorem dL_law_592 : decode cL_law 592 = .ok (.iload_n 3, 1) := by decide +kernel
theorem dL_law_593 : decode cL_law 593 = .ok (.iconst 1, 1) := by decide +kernel
theorem dL_law_594 : decode cL_law 594 = .ok (.iadd, 1) := by decide +kernel
theorem dL_law_595 : decode cL_law 595 = .ok (.iaload, 1) := by decide +kernel
theorem dL_law_596 : decode cL_law 596 = .ok (.invokevirtual 96, 3) := by decide +kernel
theorem dL_law_599 : decode cL_law 599 = .ok (.if_icmp .eq 252, 3) := by decide +kernel
theorem dL_law_602 : decode cL_law 602 = .ok (.iconst 0, 1) := by decide +kernel
theorem dL_law_603 : decode cL_law 603 = .ok (.ireturn, 1) := by decide +kernel
theorem dL_law_604 : decode cL_law 604 = .ok (.aload_n 1, 1) := by decide +kernel
theorem dL_law_605 : decode cL_law 605 = .ok (.aload_n 0, 1) := by decide +kernel
theorem dL_law_606 : decode cL_law 606 = .ok (.iload_n 3, 1) := by decide +kernel
theorem dL_law_607 : decode cL_law 607 = .ok (.iconst 1, 1) := by decide +kernel
theorem dL_law_608 : decode cL_law 608 = .ok (.iadd, 1) := by decide +kernel
theorem dL_law_609 : decode cL_law 609 = .ok (.iaload, 1) := by decide +kernel
theorem dL_law_610 : decode cL_law 610 = .ok (.invokevirtual 97, 3) := by decide +kernel
theorem dL_law_613 : decode cL_law 613 = .ok (.aload_n 2, 1) := by decide +kernel
theorem dL_law_614 : decode cL_law 614 = .ok (.aload_n 0, 1) := by decide +kernel
theorem dL_law_615 : decode cL_law 615 = .ok (.iload_n 3, 1) := by decide +kernel
theorem dL_law_616 : decode cL_law 616 = .ok (.iconst 1, 1) := by decide +kernel
theorem dL_law_617 : decode cL_law 617 = .ok (.iadd, 1) := by decide +kernel
theorem dL_law_618 : decode cL_law 618 = .ok (.iaload, 1) := by decide +kernel
theorem dL_law_619 : decode cL_law 619 = .ok (.invokevirtual 100, 3) := by decide +kernel
theorem dL_law_622 : decode cL_law 622 = .ok (.if_icmp .eq 229, 3) := by decide +kernel
theorem dL_law_625 : decode cL_law 625 = .ok (.iconst 0, 1) := by decide +kernel
theorem dL_law_626 : decode cL_law 626 = .ok (.ireturn, 1) := by decide +kernel
theorem dL_law_627 : decode cL_law 627 = .ok (.aload_n 1, 1) := by decide +kernel
theorem dL_law_628 : decode cL_law 628 = .ok (.aload_n 0, 1) := by decide +kernel
theorem dL_law_629 : decode cL_law 629 = .ok (.iload_n 3, 1) := by decide +kernel
theorem dL_law_630 : decode cL_law 630 = .ok (.iconst 1, 1) := by decide +kernel
theorem dL_law_631 : decode cL_law 631 = .ok (.iadd, 1) := by decide +kernel
theorem dL_law_632 : decode cL_law 632 = .ok (.iaload, 1) := by decide +kernel
theorem dL_law_633 : decode cL_law 633 = .ok (.invokevirtual 101, 3) := by decide +kernel
theorem dL_law_636 : decode cL_law 636 = .ok (.aload_n 2, 1) := by decide +kernel
theorem dL_law_637 : decode cL_law 637 = .ok (.aload_n 0, 1) := by decide +kernel
theorem dL_law_638 : decode cL_law 638 = .ok (.iload_n 3, 1) := by decide +kernel
theorem dL_law_639 : decode cL_law 639 = .ok (.iconst 1, 1) := by decide +kernel
theorem dL_law_640 : decode cL_law 640 = .ok (.iadd, 1) := by decide +kernel
theorem dL_law_641 : decode cL_law 641 = .ok (.iaload, 1) := by decide +kernel
theorem dL_law_642 : decode cL_law 642 = .ok (.invokevirtual 104, 3) := by decide +kernel
theorem dL_law_645 : decode cL_law 645 = .ok (.if_icmp .eq 206, 3) := by decide +kernel
theorem dL_law_648 : decode cL_law 648 = .ok (.iconst 0, 1) := by decide +kernel
theorem dL_law_649 : decode cL_law 649 = .ok (.ireturn, 1) := by decide +kernel
theorem dL_law_650 : decode cL_law 650 = .ok (.aload_n 1, 1) := by decide +kernel
theorem dL_law_651 : decode cL_law 651 = .ok (.aload_n 0, 1) := by decide +kernel
theorem dL_law_652 : decode cL_law 652 = .ok (.iload_n 3, 1) := by decide +kernel
theorem dL_law_653 : decode cL_law 653 = .ok (.iconst 1, 1) := by decide +kernel
theorem dL_law_654 : decode cL_law 654 = .ok (.iadd, 1) := by decide +kernel
theorem dL_law_655 : decode cL_law 655 = .ok (.iaload, 1) := by decide +kernel
theorem dL_law_656 : decode cL_law 656 = .ok (.aload_n 0, 1) := by decide +kernel
theorem dL_law_657 : decode cL_law 657 = .ok (.iload_n 3, 1) := by decide +kernel
theorem dL_law_658 : decode cL_law 658 = .ok (.iconst 2, 1) := by decide +kernel
theorem dL_law_659 : decode cL_law 659 = .ok (.iadd, 1) := by decide +kernel
theorem dL_law_660 : decode cL_law 660 = .ok (.iaload, 1) := by decide +kernel
theorem dL_law_661 : decode cL_law 661 = .ok (.invokevirtual 105, 3) := by decide +kernel
theorem dL_law_664 : decode cL_law 664 = .ok (.aload_n 2, 1) := by decide +kernel
theorem dL_law_665 : decode cL_law 665 = .ok (.aload_n 0, 1) := by decide +kernel
theorem dL_law_666 : decode cL_law 666 = .ok (.iload_n 3, 1) := by decide +kernel
theorem dL_law_667 : decode cL_law 667 = .ok (.iconst 1, 1) := by decide +kernel
theorem dL_law_668 : decode cL_law 668 = .ok (.iadd, 1) := by decide +kernel
theorem dL_law_669 : decode cL_law 669 = .ok (.iaload, 1) := by decide +kernel
theorem dL_law_670 : decode cL_law 670 = .ok (.aload_n 0, 1) := by decide +kernel
theorem dL_law_671 : decode cL_law 671 = .ok (.iload_n 3, 1) := by decide +kernel
theorem dL_law_672 : decode cL_law 672 = .ok (.iconst 2, 1) := by decide +kernel
theorem dL_law_673 : decode cL_law 673 = .ok (.iadd, 1) := by decide +kernel
theorem dL_law_674 : decode cL_law 674 = .ok (.iaload, 1) := by decide +kernel
theorem dL_law_675 : decode cL_law 675 = .ok (.invokevirtual 108, 3) := by decide +kernel
theorem dL_law_678 : decode cL_law 678 = .ok (.if_icmp .eq 173, 3) := by decide +kernel
theorem dL_law_681 : decode cL_law 681 = .ok (.iconst 0, 1) := by decide +kernel
theorem dL_law_682 : decode cL_law 682 = .ok (.ireturn, 1) := by decide +kernel
theorem dL_law_683 : decode cL_law 683 = .ok (.aload_n 1, 1) := by decide +kernel
theorem dL_law_684 : decode cL_law 684 = .ok (.aload_n 0, 1) := by decide +kernel
theorem dL_law_685 : decode cL_law 685 = .ok (.iload_n 3, 1) := by decide +kernel
theorem dL_law_686 : decode cL_law 686 = .ok (.iconst 1, 1) := by decide +kernel
theorem dL_law_687 : decode cL_law 687 = .ok (.iadd, 1) := by decide +kernel
theorem dL_law_688 : decode cL_law 688 = .ok (.iaload, 1) := by decide +kernel
theorem dL_law_689 : decode cL_law 689 = .ok (.aload_n 0, 1) := by decide +kernel
theorem dL_law_690 : decode cL_law 690 = .ok (.iload_n 3, 1) := by decide +kernel
theorem dL_law_691 : decode cL_law 691 = .ok (.iconst 2, 1) := by decide +kernel
theorem dL_law_692 : decode cL_law 692 = .ok (.iadd, 1) := by decide +kernel
theorem dL_law_693 : decode cL_law 693 = .ok (.iaload, 1) := by decide +kernel
theorem dL_law_694 : decode cL_law 694 = .ok (.invokevirtual 109, 3) := by decide +kernel
theorem dL_law_697 : decode cL_law 697 = .ok (.aload_n 2, 1) := by decide +kernel
theorem dL_law_698 : decode cL_law 698 = .ok (.aload_n 0, 1) := by decide +kernel
theorem dL_law_699 : decode cL_law 699 = .ok (.iload_n 3, 1) := by decide +kernel
theorem dL_law_700 : decode cL_law 700 = .ok (.iconst 1, 1) := by decide +kernel
theorem dL_law_701 : decode cL_law 701 = .ok (.iadd, 1) := by decide +kernel
theorem dL_law_702 : decode cL_law 702 = .ok (.iaload, 1) := by decide +kernel
theorem dL_law_703 : decode cL_law 703 = .ok (.aload_n 0, 1) := by decide +kernel
theorem dL_law_704 : decode cL_law 704 = .ok (.iload_n 3, 1) := by decide +kernel
theorem dL_law_705 : decode cL_law 705 = .ok (.iconst 2, 1) := by decide +kernel
theorem dL_law_706 : decode cL_law 706 = .ok (.iadd, 1) := by decide +kernel
theorem dL_law_707 : decode cL_law 707 = .ok (.iaload, 1) := by decide +kernel
theorem dL_law_708 : decode cL_law 708 = .ok (.invokevirtual 112, 3) := by decide +kernel
theorem dL_law_711 : decode cL_law 711 = .ok (.if_icmp .eq 140, 3) := by decide +kernel
theorem dL_law_714 : decode cL_law 714 = .ok (.iconst 0, 1) := by decide +kernel
theorem dL_law_715 : decode cL_law 715 = .ok (.ireturn, 1) := by decide +kernel
theorem dL_law_716 : decode cL_law 716 = .ok (.aload_n 1, 1) := by decide +kernel
theorem dL_law_717 : decode cL_law 717 = .ok (.aload_n 0, 1) := by decide +kernel
theorem dL_law_718 : decode cL_law 718 = .ok (.iload_n 3, 1) := by decide +kernel
theorem dL_law_719 : decode cL_law 719 = .ok (.iconst 1, 1) := by decide +kernel
theorem dL_law_720 : decode cL_law 720 = .ok (.iadd, 1) := by decide +kernel
theorem dL_law_721 : decode cL_law 721 = .ok (.iaload, 1) := by decide +kernel
theorem dL_law_722 : decode cL_law 722 = .ok (.aload_n 0, 1) := by decide +kernel
theorem dL_law_723 : decode cL_law 723 = .ok (.iload_n 3, 1) := by decide +kernel
theorem dL_law_724 : decode cL_law 724 = .ok (.iconst 2, 1) := by decide +kernel
theorem dL_law_725 : decode cL_law 725 = .ok (.iadd, 1) := by decide +kernel
theorem dL_law_726 : decode cL_law 726 = .ok (.iaload, 1) := by decide +kernel
theorem dL_law_727 : decode cL_law 727 = .ok (.aload_n 0, 1) := by decide +kernel
theorem dL_law_728 : decode cL_law 728 = .ok (.iload_n 3, 1) := by decide +kernel
theorem dL_law_729 : decode cL_law 729 = .ok (.iconst 3, 1) := by decide +kernel
theorem dL_law_730 : decode cL_law 730 = .ok (.iadd, 1) := by decide +kernel
theorem dL_law_731 : decode cL_law 731 = .ok (.iaload, 1) := by decide +kernel
theorem dL_law_732 : decode cL_law 732 = .ok (.invokevirtual 113, 3) := by decide +kernel
theorem dL_law_735 : decode cL_law 735 = .ok (.aload_n 2, 1) := by decide +kernel
theorem dL_law_736 : decode cL_law 736 = .ok (.aload_n 0, 1) := by decide +kernel
theorem dL_law_737 : decode cL_law 737 = .ok (.iload_n 3, 1) := by decide +kernel
theorem dL_law_738 : decode cL_law 738 = .ok (.iconst 1, 1) := by decide +kernel
theorem dL_law_739 : decode cL_law 739 = .ok (.iadd, 1) := by decide +kernel
theorem dL_law_740 : decode cL_law 740 = .ok (.iaload, 1) := by decide +kernel
theorem dL_law_741 : decode cL_law 741 = .ok (.aload_n 0, 1) := by decide +kernel
theorem dL_law_742 : decode cL_law 742 = .ok (.iload_n 3, 1) := by decide +kernel
theorem dL_law_743 : decode cL_law 743 = .ok (.iconst 2, 1) := by decide +kernel
theorem dL_law_744 : decode cL_law 744 = .ok (.iadd, 1) := by decide +kernel
theorem dL_law_745 : decode cL_law 745 = .ok (.iaload, 1) := by decide +kernel
theorem dL_law_746 : decode cL_law 746 = .ok (.aload_n 0, 1) := by decide +kernel
theorem dL_law_747 : decode cL_law 747 = .ok (.iload_n 3, 1) := by decide +kernel
theorem dL_law_748 : decode cL_law 748 = .ok (.iconst 3, 1) := by decide +kernel
theorem dL_law_749 : decode cL_law 749 = .ok (.iadd, 1) := by decide +kernel
theorem dL_law_750 : decode cL_law 750 = .ok (.iaload, 1) := by decide +kernel
theorem dL_law_751 : decode cL_law 751 = .ok (.invokevirtual 116, 3) := by decide +kernel
theorem dL_law_754 : decode cL_law 754 = .ok (.if_icmp .eq 97, 3) := by decide +kernel
theorem dL_law_757 : decode cL_law 757 = .ok (.iconst 0, 1) := by decide +kernel
theorem dL_law_758 : decode cL_law 758 = .ok (.ireturn, 1) := by decide +kernel
theorem dL_law_759 : decode cL_law 759 = .ok (.aload_n 1, 1) := by decide +kernel
theorem dL_law_760 : decode cL_law 760 = .ok (.aload_n 0, 1) := by decide +kernel
theorem dL_law_761 : decode cL_law 761 = .ok (.iload_n 3, 1) := by decide +kernel
theorem dL_law_762 : decode cL_law 762 = .ok (.iconst 1, 1) := by decide +kernel
theorem dL_law_763 : decode cL_law 763 = .ok (.iadd, 1) := by decide +kernel
theorem dL_law_764 : decode cL_law 764 = .ok (.iaload, 1) := by decide +kernel
theorem dL_law_765 : decode cL_law 765 = .ok (.aload_n 0, 1) := by decide +kernel
theorem dL_law_766 : decode cL_law 766 = .ok (.iload_n 3, 1) := by decide +kernel
theorem dL_law_767 : decode cL_law 767 = .ok (.iconst 2, 1) := by decide +kernel
theorem dL_law_768 : decode cL_law 768 = .ok (.iadd, 1) := by decide +kernel
theorem dL_law_769 : decode cL_law 769 = .ok (.iaload, 1) := by decide +kernel
theorem dL_law_770 : decode cL_law 770 = .ok (.aload_n 0, 1) := by decide +kernel
theorem dL_law_771 : decode cL_law 771 = .ok (.iload_n 3, 1) := by decide +kernel
theorem dL_law_772 : decode cL_law 772 = .ok (.iconst 3, 1) := by decide +kernel
theorem dL_law_773 : decode cL_law 773 = .ok (.iadd, 1) := by decide +kernel
theorem dL_law_774 : decode cL_law 774 = .ok (.iaload, 1) := by decide +kernel
theorem dL_law_775 : decode cL_law 775 = .ok (.invokevirtual 117, 3) := by decide +kernel
theorem dL_law_778 : decode cL_law 778 = .ok (.aload_n 2, 1) := by decide +kernel
theorem dL_law_779 : decode cL_law 779 = .ok (.aload_n 0, 1) := by decide +kernel
theorem dL_law_780 : decode cL_law 780 = .ok (.iload_n 3, 1) := by decide +kernel
theorem dL_law_781 : decode cL_law 781 = .ok (.iconst 1, 1) := by decide +kernel
theorem dL_law_782 : decode cL_law 782 = .ok (.iadd, 1) := by decide +kernel
theorem dL_law_783 : decode cL_law 783 = .ok (.iaload, 1) := by decide +kernel
theorem dL_law_784 : decode cL_law 784 = .ok (.aload_n 0, 1) := by decide +kernel
theorem dL_law_785 : decode cL_law 785 = .ok (.iload_n 3, 1) := by decide +kernel
theorem dL_law_786 : decode cL_law 786 = .ok (.iconst 2, 1) := by decide +kernel
theorem dL_law_787 : decode cL_law 787 = .ok (.iadd, 1) := by decide +kernel
theorem dL_law_788 : decode cL_law 788 = .ok (.iaload, 1) := by decide +kernel
theorem dL_law_789 : decode cL_law 789 = .ok (.aload_n 0, 1) := by decide +kernel
theorem dL_law_790 : decode cL_law 790 = .ok (.iload_n 3, 1) := by decide +kernel
theorem dL_law_791 : decode cL_law 791 = .ok (.iconst 3, 1) := by decide +kernel
theorem dL_law_792 : decode cL_law 792 = .ok (.iadd, 1) := by decide +kernel
theorem dL_law_793 : decode cL_law 793 = .ok (.iaload, 1) := by decide +kernel
theorem dL_law_794 : decode cL_law 794 = .ok (.invokevirtual 120, 3) := by decide +kernel
theorem dL_law_797 : decode cL_law 797 = .ok (.if_icmp .eq 54, 3) := by decide +kernel
theorem dL_law_800 : decode cL_law 800 = .ok (.iconst 0, 1) := by decide +kernel
theorem dL_law_801 : decode cL_law 801 = .ok (.ireturn, 1) := by decide +kernel
theorem dL_law_802 : decode cL_law 802 = .ok (.aload_n 1, 1) := by decide +kernel
theorem dL_law_803 : decode cL_law 803 = .ok (.invokevirtual 121, 3) := by decide +kernel
theorem dL_law_806 : decode cL_law 806 = .ok (.aload_n 2, 1) := by decide +kernel
theorem dL_law_807 : decode cL_law 807 = .ok (.invokevirtual 124, 3) := by decide +kernel
theorem dL_law_810 : decode cL_law 810 = .ok (.if_icmp .eq 41, 3) := by decide +kernel
theorem dL_law_813 : decode cL_law 813 = .ok (.iconst 0, 1) := by decide +kernel
theorem dL_law_814 : decode cL_law 814 = .ok (.ireturn, 1) := by decide +kernel
theorem dL_law_815 : decode cL_law 815 = .ok (.aload_n 1, 1) := by decide +kernel
theorem dL_law_816 : decode cL_law 816 = .ok (.invokevirtual 125, 3) := by decide +kernel
theorem dL_law_819 : decode cL_law 819 = .ok (.aload_n 2, 1) := by decide +kernel
theorem dL_law_820 : decode cL_law 820 = .ok (.invokevirtual 128, 3) := by decide +kernel
theorem dL_law_823 : decode cL_law 823 = .ok (.if_icmp .eq 28, 3) := by decide +kernel
theorem dL_law_826 : decode cL_law 826 = .ok (.iconst 0, 1) := by decide +kernel
theorem dL_law_827 : decode cL_law 827 = .ok (.ireturn, 1) := by decide +kernel
theorem dL_law_828 : decode cL_law 828 = .ok (.aload_n 1, 1) := by decide +kernel
theorem dL_law_829 : decode cL_law 829 = .ok (.aload_n 0, 1) := by decide +kernel
theorem dL_law_830 : decode cL_law 830 = .ok (.iload_n 3, 1) := by decide +kernel
theorem dL_law_831 : decode cL_law 831 = .ok (.iconst 1, 1) := by decide +kernel
theorem dL_law_832 : decode cL_law 832 = .ok (.iadd, 1) := by decide +kernel
theorem dL_law_833 : decode cL_law 833 = .ok (.iaload, 1) := by decide +kernel
theorem dL_law_834 : decode cL_law 834 = .ok (.invokevirtual 129, 3) := by decide +kernel
theorem dL_law_837 : decode cL_law 837 = .ok (.aload_n 2, 1) := by decide +kernel
theorem dL_law_838 : decode cL_law 838 = .ok (.aload_n 0, 1) := by decide +kernel
theorem dL_law_839 : decode cL_law 839 = .ok (.iload_n 3, 1) := by decide +kernel
theorem dL_law_840 : decode cL_law 840 = .ok (.iconst 1, 1) := by decide +kernel
theorem dL_law_841 : decode cL_law 841 = .ok (.iadd, 1) := by decide +kernel
theorem dL_law_842 : decode cL_law 842 = .ok (.iaload, 1) := by decide +kernel
theorem dL_law_843 : decode cL_law 843 = .ok (.invokevirtual 132, 3) := by decide +kernel
theorem dL_law_846 : decode cL_law 846 = .ok (.if_icmp .eq 5, 3) := by decide +kernel
theorem dL_law_849 : decode cL_law 849 = .ok (.iconst 0, 1) := by decide +kernel
theorem dL_law_850 : decode cL_law 850 = .ok (.ireturn, 1) := by decide +kernel
theorem dL_law_851 : decode cL_law 851 = .ok (.iinc 3 4, 3) := by decide +kernel
theorem dL_law_854 : decode cL_law 854 = .ok (.goto (-836), 3) := by decide +kernel
theorem dL_law_857 : decode cL_law 857 = .ok (.iconst 1, 1) := by decide +kernel
theorem dL_law_858 : decode cL_law 858 = .ok (.ireturn, 1) := by decide +kernel
abbrev vwCl : List vw_C := [(RX0, TX0, 8), (RX1, TX1, 3), (RX2, TX2, 2), (RX3, TX3, 2), (RX4, TX4, 3), (RX5, TX5, 10), (RX6, TX6, 9), (RX7, TX7, 26)]
theorem inX_0 : ∀ w ∈ wsX00, w ∈ lw_tbl := by decide +kernel
theorem inX_1 : ∀ w ∈ wsX10, w ∈ lw_tbl := by decide +kernel
theorem inX_2 : ∀ w ∈ wsX20, w ∈ lw_tbl := by decide +kernel
theorem inX_3 : ∀ w ∈ wsX30, w ∈ lw_tbl := by decide +kernel
theorem inX_4 : ∀ w ∈ wsX40, w ∈ lw_tbl := by decide +kernel
theorem inX_5 : ∀ w ∈ wsX50, w ∈ lw_tbl := by decide +kernel
theorem inX_6 : ∀ w ∈ wsX60, w ∈ lw_tbl := by decide +kernel
theorem inX_7 : ∀ w ∈ wsX70, w ∈ lw_tbl := by decide +kernel
end
section
/-! the abstract machine of this proof: a world of numbered cells, the k-th at the address B.1 + k; a frame of abstract values -/
abbrev ax_B : Type := Nat × Nat
abbrev ax_M : Type := MethodName × ByteArray × Nat × Option FieldType
/-- an abstract value: a reference is the cell's number; a float stands for the class's one String constant -/
def ax_v (B : ax_B) (v : Value) : Value := match v with
  | .ref k => .ref (B.1 + k)
  | .float _ => .ref B.2
  | .int x => .int x
  | .long x => .long x
  | .double x => .double x
  | .null => .null
  | .retAddr x => .retAddr x
theorem ax_cat (B : ax_B) (v : Value) : (ax_v B v).category = v.category := by cases v <;> rfl
theorem ax_cats (B : ax_B) (st : List Value) : ((st.map (ax_v B)).map fun v => v.category).sum = (st.map fun v => v.category).sum := by
  rw [List.map_map]
  congr 1
  exact List.map_congr_left fun v _ => ax_cat B v
abbrev ax_C : Type := (FieldType × Nat × (Nat → Int32)) ⊕ (Nat × (Nat → Option Nat)) ⊕ (Nat × List Value)
abbrev ai (n : Nat) (f : Nat → Int32) : ax_C := .inl (.int, n, f)
abbrev ab (n : Nat) (f : Nat → Int32) : ax_C := .inl (.byte, n, f)
abbrev aq (n : Nat) (f : Nat → Option Nat) : ax_C := .inr (.inl (n, f))
abbrev ao (ci : Nat) (fs : List Value) : ax_C := .inr (.inr (ci, fs))
abbrev ax_W : Type := Nat → ax_C
abbrev ty_H : FieldType := .object RX1
def ax_e (B : ax_B) (cA : FieldType → ClassId) (c : ax_C) : va_E := match c with
  | .inl (ty, n, f) => .inl (cA ty, n, .inl f)
  | .inr (.inl (n, f)) => .inl (cA ty_H, n, .inr (.inr (.inr (.inr (fun j => (f j).map (fun k => B.1 + k))))))
  | .inr (.inr (ci, fs)) => .inr (ci, fs.map (ax_v B))
def ax_dead : ax_C := ao 99 []
def ax_up (w : ax_W) (a : Nat) (c : ax_C) : ax_W := fun j => if j = a then c else w j
theorem up_same (w : ax_W) (a : Nat) (c : ax_C) : ax_up w a c a = c := by simp [ax_up]
theorem up_ne (w : ax_W) {a j : Nat} (c : ax_C) (h : j ≠ a) : ax_up w a c j = w j := by simp [ax_up, h]
/-- the heap holds the world w of n cells -/
def ax_H (B : ax_B) (D : va_G) (cA : FieldType → ClassId) (w : ax_W) (n : Nat) (H : Heap) : Prop :=
  H.size = B.1 + n ∧ (∀ k, k < n → va_at D vwCl (B.1 + k, ax_e B cA (w k)) H) ∧ ∀ k, n ≤ k → w k = ax_dead
abbrev ax_tys (cA : FieldType → ClassId) : List (ClassId × FieldType) := [(cA .int, .int), (cA .byte, .byte), (cA ty_H, ty_H)]
def is_nest : Cond → Bool
  | .fieldLinkNest .. => true
  | .methodLinkNest .. => true
  | _ => false
def TB : List Cond := lw_tbl.filter goodWord
def NB : List Cond := lw_tbl.filter is_nest
theorem TB_good : ∀ w ∈ TB, goodWord w = true := fun _ h => (List.mem_filter.mp h).2
theorem TB_in {w : Cond} (h : w ∈ lw_tbl) (hg : goodWord w = true) : w ∈ TB := List.mem_filter.mpr ⟨h, hg⟩
theorem NB_in {w : Cond} (h : w ∈ lw_tbl) (hg : is_nest w = true) : w ∈ NB := List.mem_filter.mpr ⟨h, hg⟩
theorem NB_warm {s U : State} (hW : s.WarmedH U.vm) (h : ∀ w ∈ NB, va_Nw w s) : ∀ w ∈ NB, va_Nw w U := by
  intro w hw
  have h1 := h w hw
  have h2 := (List.mem_filter.mp hw).2
  cases w <;> first | (simp [is_nest] at h2; done) | exact va_Nw.warmF hW h1 | exact va_Nw.warmM hW h1
theorem NB_on {w : Cond} (hw : w ∈ NB) : w.onTables = true := by
  have h2 := (List.mem_filter.mp hw).2
  cases w <;> first | (simp [is_nest] at h2; done) | rfl
def tx_first : String := "s0,3,1;s1,2,2;s1,5,1;s2,4,3;s3,1,1;s4,0,0;s4,2,0;s2,3,2;v0;v7;r0,1;r0,2;r1,3;r2,3;r2,6;r3,4;r4,5;r3,6;r7,2;r7,4;r1,0;p5,5;p5,6;"
def tx_bytes : List Int32 := tx_first.toList.map (fun ch => Int32.ofNat ch.toNat)
/-- the String constant, at B.2, and the static that its reading asks for -/
def ax_S (B : ax_B) (U : State) : Prop := (∃ a : Nat, vk_S 1 [131] [tx_bytes] (fun _ => B.2) (fun _ => a) (fun q => B.1 ≤ q) U U.heap) ∧ vk_R RX6 62 tx_first B.2 U ∧ va_Z "java/lang/String" "COMPACT_STRINGS" "Z" (.int 1) (fun q => B.1 ≤ q) U U.heap
theorem ax_S_go {B : ax_B} {s U : State} (hW : s.WarmedH U.vm) (hq : ∀ q, q < B.1 → U.heap[q]? = s.heap[q]?) (h : ax_S B s) : ax_S B U := by
  obtain ⟨⟨a, h1⟩, h2, h3⟩ := h
  have hk : ∀ q : Nat, q < s.heap.size → ¬ (B.1 ≤ q) → U.heap[q]? = s.heap[q]? := fun q _ h => hq q (by omega)
  exact ⟨⟨a, (h1.moved hW.alike).kept hk⟩, h2.warm hW, (h3.moved hW.alike).kept hk⟩
/-- what is known of a state where a method begins -/
def ax_U (B : ax_B) (D : va_G) (cA : FieldType → ClassId) (U : State) : Prop := va_K D vwCl (ax_tys cA) U ∧ (∀ w ∈ NB, va_Nw w U) ∧ B.1 ≤ U.heap.size ∧ ax_S B U ∧ va_AO RX1 U
theorem ax_U_go {B : ax_B} {D : va_G} {cA : FieldType → ClassId} {s U : State} (hW : s.WarmedH U.vm) (hz : B.1 ≤ U.heap.size) (hq : ∀ q, q < B.1 → U.heap[q]? = s.heap[q]?) (h : ax_U B D cA s) : ax_U B D cA U :=
  ⟨h.1.moved hW.alike, NB_warm hW h.2.1, hz, ax_S_go hW hq h.2.2.2.1, h.2.2.2.2.moved hW.alike⟩
def ax_X (B : ax_B) (D : va_G) (cA : FieldType → ClassId) (M : ax_M) (d : Nat) (R : Room) (p : Program) (s : State) (m : MethodId) (args : Array Value) (meth : Method) (c : Code) : Prop :=
  p.tables.exec = Jvm.exec ∧ c.code = M.2.1 ∧ c.maxLocals = M.2.2.1 ∧ meth.sig.returnType = M.2.2.2 ∧ meth.locks = false ∧ s.vm.findClass M.1.cls = some m.cls ∧ meth.name = M.1.name ∧ (∀ w ∈ TB, w.before args s = true) ∧ ax_U B D cA s ∧ d ≤ R.frames ∧ 40 * d ≤ R.locals
/-- the locals -/
def ax_L (B : ax_B) (ls' : Array Slot) (nL : Nat) (ls : List (Option Value)) : Prop := ls'.size = nL ∧ lv_wf ls' ∧ ls.length = nL ∧ ∀ (i : Nat) (v : Value), ls[i]? = some (some v) → ls'[i]? = some (.val (ax_v B v))
def ax_Q (B : ax_B) (D : va_G) (cA : FieldType → ClassId) (P : Option Value → ax_W → Nat → Prop) : Array Value → State → Outcome → State → Prop := fun _ st o t =>
  ∃ (r : Option Value) (w' : ax_W) (n' : Nat), o = .returned (r.map (ax_v B)) ∧ P r w' n' ∧ ax_H B D cA w' n' t.heap ∧ ∀ q, q < B.1 → t.heap[q]? = st.heap[q]?
def ax_F (B : ax_B) (s : State) (H : Heap) (locs : List Loc) : Prop := (∀ q, q < B.1 → H[q]? = s.heap[q]?) ∧ ∀ l ∈ locs, B.1 ≤ l.base
/-- from the frame at pc in the method M, over the world w of n cells, it returns with P of the answer and the world; d: how many calls deep; q1, q2: cells and slots that it may make -/
def Run (M : ax_M) (d q1 q2 pc : Nat) (ls : List (Option Value)) (st : List Value) (w : ax_W) (n : Nat) (P : Option Value → ax_W → Nat → Prop) : Prop :=
  ∀ (B : ax_B) (D : va_G) (cA : FieldType → ClassId) (p : Program) (l : Launch) (e : Env) (R : Room) (s : State) (m : MethodId) (args : Array Value) (below : List Frame) (meth : Method) (c : Code) (H : Heap) (locs : List Loc) (ls' : Array Slot) (cells slots mc ms : Nat),
    ax_X B D cA M d R p s m args meth c → ax_H B D cA w n H → ax_F B s H locs → ax_L B ls' M.2.2.1 ls → cells + q1 ≤ mc → slots + q2 ≤ ms → mc ≤ R.cells → ms ≤ R.slots →
    W p l e R s m args below meth c H locs cells slots (MQ below (ax_Q B D cA P) args s mc ms (fun a => B.1 ≤ a)) (F0 m pc ls' (st.map (ax_v B)))
section RUN
variable {M : ax_M} {d q1 q2 pc : Nat} {ls : List (Option Value)} {st : List Value} {w : ax_W} {n : Nat} {P : Option Value → ax_W → Nat → Prop}
theorem Run.deeper {d' : Nat} (h : Run M d q1 q2 pc ls st w n P) (hd : d ≤ d') : Run M d' q1 q2 pc ls st w n P := by
  intro B D cA p l e R s m args below meth c H locs ls' cells slots mc ms X
  obtain ⟨x1, x2, x3, x4, x5, x6, x7, x8, x9, x10, x11⟩ := X
  exact h B D cA p l e R s m args below meth c H locs ls' cells slots mc ms ⟨x1, x2, x3, x4, x5, x6, x7, x8, x9, Nat.le_trans hd x10, Nat.le_trans (Nat.mul_le_mul_left 40 hd) x11⟩
theorem ax_Q.mono {B : ax_B} {D : va_G} {cA : FieldType → ClassId} {P P' : Option Value → ax_W → Nat → Prop} (h : ∀ r w n, P r w n → P' r w n) {a : Array Value} {s : State} {o : Outcome} {t : State} (q : ax_Q B D cA P a s o t) : ax_Q B D cA P' a s o t := by
  obtain ⟨r, w', n', h1, h2, h3⟩ := q
  exact ⟨r, w', n', h1, h _ _ _ h2, h3⟩
theorem Run.mono {P' : Option Value → ax_W → Nat → Prop} (h : Run M d q1 q2 pc ls st w n P) (hP : ∀ r w n, P r w n → P' r w n) : Run M d q1 q2 pc ls st w n P' := by
  intro B D cA p l e R s m args below meth c H locs ls' cells slots mc ms X h1 h2 h3 h4 h5 h6 h7 T hT Y
  obtain ⟨t, a1, o, b1, b2, b3, b4⟩ := h B D cA p l e R s m args below meth c H locs ls' cells slots mc ms X h1 h2 h3 h4 h5 h6 h7 T hT Y
  exact ⟨t, a1, o, b1, b2, b3.mono hP, b4⟩
theorem Run.room {q1' q2' : Nat} (h : Run M d q1 q2 pc ls st w n P) (h1 : q1 ≤ q1') (h2 : q2 ≤ q2') : Run M d q1' q2' pc ls st w n P := by
  intro B D cA p l e R s m args below meth c H locs ls' cells slots mc ms X g1 g2 g3 g4 g5
  exact h B D cA p l e R s m args below meth c H locs ls' cells slots mc ms X g1 g2 g3 (by omega) (by omega)
/-- fewer locals known -/
theorem Run.less {ls2 : List (Option Value)} (hl : ls2.length = ls.length) (hs : ∀ (i : Nat) (v : Value), ls2[i]? = some (some v) → ls[i]? = some (some v)) (h : Run M d q1 q2 pc ls2 st w n P) : Run M d q1 q2 pc ls st w n P := by
  intro B D cA p l e R s m args below meth c H locs ls' cells slots mc ms X h1 h2 h3
  exact h B D cA p l e R s m args below meth c H locs ls' cells slots mc ms X h1 h2 ⟨h3.1, h3.2.1, hl.trans h3.2.2.1, fun i v hv => h3.2.2.2 i v (hs i v hv)⟩
end RUN
/-! storing a local -/
def l_set : List (Option Value) → Nat → Value → List (Option Value)
  | [], _, _ => []
  | _ :: xs, 0, v => some v :: xs
  | x :: xs, 1, v => (match x with
    | some (.long _) => none
    | some (.double _) => none
    | y => y) :: l_set xs 0 v
  | x :: xs, i + 2, v => x :: l_set xs (i + 1) v
theorem l_set_len : ∀ (ls : List (Option Value)) (i : Nat) (v : Value), (l_set ls i v).length = ls.length
  | [], _, _ => rfl
  | _ :: _, 0, _ => rfl
  | x :: xs, 1, v => by simp [l_set, l_set_len xs 0 v]
  | x :: xs, i + 2, v => by simp [l_set, l_set_len xs (i + 1) v]
theorem l_set_at : ∀ (ls : List (Option Value)) (i : Nat) (v : Value) (j : Nat) (x : Value), (l_set ls i v)[j]? = some (some x) → (j = i ∧ x = v) ∨ (j ≠ i ∧ ls[j]? = some (some x) ∧ ¬ (j + 1 = i ∧ x.category = 2))
  | [], _, _, j, x, h => by simp [l_set] at h
  | y :: xs, 0, v, 0, x, h => by simp [l_set] at h; exact Or.inl ⟨rfl, h.symm⟩
  | y :: xs, 0, v, j + 1, x, h => by simp [l_set] at h; exact Or.inr ⟨by omega, by simpa using h, by omega⟩
  | y :: xs, 1, v, 0, x, h => by
    refine Or.inr ⟨by omega, ?_⟩
    cases y with
    | none => simp [l_set] at h
    | some y => cases y <;> simp [l_set] at h <;> subst h <;> exact ⟨rfl, by simp [Value.category]⟩
  | y :: xs, 1, v, j + 1, x, h => by
    simp only [l_set, List.getElem?_cons_succ] at h
    rcases l_set_at xs 0 v j x h with ⟨a, b⟩ | ⟨a, b, c⟩
    · exact Or.inl ⟨by omega, b⟩
    · exact Or.inr ⟨by omega, by simpa using b, by omega⟩
  | y :: xs, i + 2, v, 0, x, h => by
    simp [l_set] at h
    exact Or.inr ⟨by omega, by simp [h], by omega⟩
  | y :: xs, i + 2, v, j + 1, x, h => by
    simp only [l_set, List.getElem?_cons_succ] at h
    rcases l_set_at xs (i + 1) v j x h with ⟨a, b⟩ | ⟨a, b, c⟩
    · exact Or.inl ⟨by omega, b⟩
    · exact Or.inr ⟨by omega, by simpa using b, fun z => c ⟨by omega, z.2⟩⟩
theorem ax_L.store {B : ax_B} {ls' : Array Slot} {nL i : Nat} {ls : List (Option Value)} {v : Value} (h : ax_L B ls' nL ls) (hi : i < nL) (hc : v.category = 1) :
    ∃ ls2, storeLocals ls' i (ax_v B v) = some ls2 ∧ ax_L B ls2 nL (l_set ls i v) := by
  obtain ⟨h1, h2, h3, h4⟩ := h
  have hc' : (ax_v B v).category = 1 := by rw [ax_cat]; exact hc
  obtain ⟨ls2, e, g⟩ := lv_store1 (v := ax_v B v) (l := []) ⟨h1, h2, fun q hq => (by cases hq)⟩ hi hc'
  refine ⟨ls2, e, g.1, g.2.1, by rw [l_set_len]; exact h3, fun j x hx => ?_⟩
  rcases l_set_at ls i v j x hx with ⟨rfl, rfl⟩ | ⟨a, b, c⟩
  · exact g.2.2 (j, ax_v B x) (by simp)
  · obtain ⟨ls3, e3, g3⟩ := lv_store1 (v := ax_v B v) (l := [(j, ax_v B x)]) ⟨h1, h2, fun q hq => by
      rw [List.mem_singleton.mp hq]; exact h4 j x b⟩ hi hc'
    cases e.symm.trans e3
    refine g3.2.2 (j, ax_v B x) (List.mem_cons_of_mem _ (List.mem_filter.mpr ⟨List.mem_singleton.mpr rfl, ?_⟩))
    have hj : (j == i) = false := by simpa using a
    by_cases hji : j + 1 = i
    · have : ¬ x.category = 2 := fun z => c ⟨hji, z⟩
      simp [hj, ax_cat, this]
    · simp [hj, hji]
def l_set2 (ls : List (Option Value)) (i : Nat) (v : Value) : List (Option Value) := (l_set ls i v).set (i + 1) none
theorem ax_L.store2 {B : ax_B} {ls' : Array Slot} {nL i : Nat} {ls : List (Option Value)} {v : Value} (h : ax_L B ls' nL ls) (hi : i + 1 < nL) (hc : v.category = 2) :
    ∃ ls2, storeLocals ls' i (ax_v B v) = some ls2 ∧ ax_L B ls2 nL (l_set2 ls i v) := by
  obtain ⟨h1, h2, h3, h4⟩ := h
  have hc' : (ax_v B v).category = 2 := by rw [ax_cat]; exact hc
  obtain ⟨ls2, e, g⟩ := lv_store2 (v := ax_v B v) (l := []) ⟨h1, h2, fun q hq => (by cases hq)⟩ hi hc'
  refine ⟨ls2, e, g.1, g.2.1, by rw [l_set2, List.length_set, l_set_len]; exact h3, fun j x hx => ?_⟩
  have hj1 : j ≠ i + 1 := by
    intro hj
    subst hj
    rw [l_set2, List.getElem?_set] at hx
    simp at hx
  rw [l_set2, List.getElem?_set_ne (Ne.symm hj1)] at hx
  rcases l_set_at ls i v j x hx with ⟨rfl, rfl⟩ | ⟨a, b, c⟩
  · exact g.2.2 (j, ax_v B x) (by simp)
  · obtain ⟨ls3, e3, g3⟩ := lv_store2 (v := ax_v B v) (l := [(j, ax_v B x)]) ⟨h1, h2, fun q hq => by
      rw [List.mem_singleton.mp hq]; exact h4 j x b⟩ hi hc'
    cases e.symm.trans e3
    refine g3.2.2 (j, ax_v B x) (List.mem_cons_of_mem _ (List.mem_filter.mpr ⟨List.mem_singleton.mpr rfl, ?_⟩))
    have hj : (j == i) = false := by simpa using a
    have hj2 : (j == i + 1) = false := by simpa using hj1
    by_cases hji : j + 1 = i
    · have : ¬ x.category = 2 := fun z => c ⟨hji, z⟩
      simp [hj, hj2, ax_cat, this]
    · simp [hj, hj2, hji]
end
section
/-! one rule an instruction: from the world behind it to the world ahead of it -/
section RULES
variable {M : ax_M} {d q1 q2 pc : Nat} {ls : List (Option Value)} {st : List Value} {w : ax_W} {n : Nat} {P : Option Value → ax_W → Nat → Prop}
theorem x_iconst {k : Int} {v : Int32} (hd : decode M.2.1 pc = .ok (.iconst k, 1)) (hv : Int32.ofInt k = v) (kk : Run M d q1 q2 (pc + 1) ls (.int v :: st) w n P) : Run M d q1 q2 pc ls (st) w n P := by
  intro B D cA p l e R s m args below meth c H locs ls' cells slots mc ms C hH hF hL h4 h5 h6 h7
  exact lv_iconst C.1 C.2.1 hd hv (kk B D cA p l e R s m args below meth c H locs ls' cells slots mc ms C hH hF hL h4 h5 h6 h7)
theorem x_bipush {k : Int} {v : Int32} (hd : decode M.2.1 pc = .ok (.bipush k, 2)) (hv : (Int8.ofInt k).toInt32 = v) (kk : Run M d q1 q2 (pc + 2) ls (.int v :: st) w n P) : Run M d q1 q2 pc ls (st) w n P := by
  intro B D cA p l e R s m args below meth c H locs ls' cells slots mc ms C hH hF hL h4 h5 h6 h7
  exact lv_bipush C.1 C.2.1 hd hv (kk B D cA p l e R s m args below meth c H locs ls' cells slots mc ms C hH hF hL h4 h5 h6 h7)
theorem x_sipush {k : Int} {v : Int32} (hd : decode M.2.1 pc = .ok (.sipush k, 3)) (hv : (Int16.ofInt k).toInt32 = v) (kk : Run M d q1 q2 (pc + 3) ls (.int v :: st) w n P) : Run M d q1 q2 pc ls (st) w n P := by
  intro B D cA p l e R s m args below meth c H locs ls' cells slots mc ms C hH hF hL h4 h5 h6 h7
  exact lv_sipush C.1 C.2.1 hd hv (kk B D cA p l e R s m args below meth c H locs ls' cells slots mc ms C hH hF hL h4 h5 h6 h7)
theorem x_lconst {k : Fin 2} {v : Int64} (hd : decode M.2.1 pc = .ok (.lconst k, 1)) (hv : Int64.ofNat (k : Nat) = v) (kk : Run M d q1 q2 (pc + 1) ls (.long v :: st) w n P) : Run M d q1 q2 pc ls (st) w n P := by
  intro B D cA p l e R s m args below meth c H locs ls' cells slots mc ms C hH hF hL h4 h5 h6 h7
  exact lv_lconst C.1 C.2.1 hd hv (kk B D cA p l e R s m args below meth c H locs ls' cells slots mc ms C hH hF hL h4 h5 h6 h7)
theorem x_null  (hd : decode M.2.1 pc = .ok (.aconst_null, 1))  (kk : Run M d q1 q2 (pc + 1) ls (.null :: st) w n P) : Run M d q1 q2 pc ls (st) w n P := by
  intro B D cA p l e R s m args below meth c H locs ls' cells slots mc ms C hH hF hL h4 h5 h6 h7
  exact lv_null C.1 C.2.1 hd  (kk B D cA p l e R s m args below meth c H locs ls' cells slots mc ms C hH hF hL h4 h5 h6 h7)
theorem x_iadd {x y : Int32} (hd : decode M.2.1 pc = .ok (.iadd, 1))  (kk : Run M d q1 q2 (pc + 1) ls (.int (x + y) :: st) w n P) : Run M d q1 q2 pc ls (.int y :: .int x :: st) w n P := by
  intro B D cA p l e R s m args below meth c H locs ls' cells slots mc ms C hH hF hL h4 h5 h6 h7
  exact lv_iadd C.1 C.2.1 hd  (kk B D cA p l e R s m args below meth c H locs ls' cells slots mc ms C hH hF hL h4 h5 h6 h7)
theorem x_isub {x y : Int32} (hd : decode M.2.1 pc = .ok (.isub, 1))  (kk : Run M d q1 q2 (pc + 1) ls (.int (x - y) :: st) w n P) : Run M d q1 q2 pc ls (.int y :: .int x :: st) w n P := by
  intro B D cA p l e R s m args below meth c H locs ls' cells slots mc ms C hH hF hL h4 h5 h6 h7
  exact lv_isub C.1 C.2.1 hd  (kk B D cA p l e R s m args below meth c H locs ls' cells slots mc ms C hH hF hL h4 h5 h6 h7)
theorem x_imul {x y : Int32} (hd : decode M.2.1 pc = .ok (.imul, 1))  (kk : Run M d q1 q2 (pc + 1) ls (.int (x * y) :: st) w n P) : Run M d q1 q2 pc ls (.int y :: .int x :: st) w n P := by
  intro B D cA p l e R s m args below meth c H locs ls' cells slots mc ms C hH hF hL h4 h5 h6 h7
  exact lv_imul C.1 C.2.1 hd  (kk B D cA p l e R s m args below meth c H locs ls' cells slots mc ms C hH hF hL h4 h5 h6 h7)
theorem x_iand {x y : Int32} (hd : decode M.2.1 pc = .ok (.iand, 1))  (kk : Run M d q1 q2 (pc + 1) ls (.int (x &&& y) :: st) w n P) : Run M d q1 q2 pc ls (.int y :: .int x :: st) w n P := by
  intro B D cA p l e R s m args below meth c H locs ls' cells slots mc ms C hH hF hL h4 h5 h6 h7
  exact lv_iand C.1 C.2.1 hd  (kk B D cA p l e R s m args below meth c H locs ls' cells slots mc ms C hH hF hL h4 h5 h6 h7)
theorem x_ior {x y : Int32} (hd : decode M.2.1 pc = .ok (.ior, 1))  (kk : Run M d q1 q2 (pc + 1) ls (.int (x ||| y) :: st) w n P) : Run M d q1 q2 pc ls (.int y :: .int x :: st) w n P := by
  intro B D cA p l e R s m args below meth c H locs ls' cells slots mc ms C hH hF hL h4 h5 h6 h7
  exact lv_ior C.1 C.2.1 hd  (kk B D cA p l e R s m args below meth c H locs ls' cells slots mc ms C hH hF hL h4 h5 h6 h7)
theorem x_ixor {x y : Int32} (hd : decode M.2.1 pc = .ok (.ixor, 1))  (kk : Run M d q1 q2 (pc + 1) ls (.int (x ^^^ y) :: st) w n P) : Run M d q1 q2 pc ls (.int y :: .int x :: st) w n P := by
  intro B D cA p l e R s m args below meth c H locs ls' cells slots mc ms C hH hF hL h4 h5 h6 h7
  exact lv_ixor C.1 C.2.1 hd  (kk B D cA p l e R s m args below meth c H locs ls' cells slots mc ms C hH hF hL h4 h5 h6 h7)
theorem x_ishl {x y : Int32} (hd : decode M.2.1 pc = .ok (.ishl, 1))  (kk : Run M d q1 q2 (pc + 1) ls (.int (x <<< (y &&& 31)) :: st) w n P) : Run M d q1 q2 pc ls (.int y :: .int x :: st) w n P := by
  intro B D cA p l e R s m args below meth c H locs ls' cells slots mc ms C hH hF hL h4 h5 h6 h7
  exact lv_ishl C.1 C.2.1 hd  (kk B D cA p l e R s m args below meth c H locs ls' cells slots mc ms C hH hF hL h4 h5 h6 h7)
theorem x_ishr {x y : Int32} (hd : decode M.2.1 pc = .ok (.ishr, 1))  (kk : Run M d q1 q2 (pc + 1) ls (.int (x >>> (y &&& 31)) :: st) w n P) : Run M d q1 q2 pc ls (.int y :: .int x :: st) w n P := by
  intro B D cA p l e R s m args below meth c H locs ls' cells slots mc ms C hH hF hL h4 h5 h6 h7
  exact lv_ishr C.1 C.2.1 hd  (kk B D cA p l e R s m args below meth c H locs ls' cells slots mc ms C hH hF hL h4 h5 h6 h7)
theorem x_idiv {x y : Int32} (hd : decode M.2.1 pc = .ok (.idiv, 1)) (hne : ¬ y = 0) (kk : Run M d q1 q2 (pc + 1) ls (.int (x / y) :: st) w n P) : Run M d q1 q2 pc ls (.int y :: .int x :: st) w n P := by
  intro B D cA p l e R s m args below meth c H locs ls' cells slots mc ms C hH hF hL h4 h5 h6 h7
  exact lv_idiv C.1 C.2.1 hd hne (kk B D cA p l e R s m args below meth c H locs ls' cells slots mc ms C hH hF hL h4 h5 h6 h7)
theorem x_irem {x y : Int32} (hd : decode M.2.1 pc = .ok (.irem, 1)) (hne : ¬ y = 0) (kk : Run M d q1 q2 (pc + 1) ls (.int (x - x / y * y) :: st) w n P) : Run M d q1 q2 pc ls (.int y :: .int x :: st) w n P := by
  intro B D cA p l e R s m args below meth c H locs ls' cells slots mc ms C hH hF hL h4 h5 h6 h7
  exact lv_irem C.1 C.2.1 hd hne (kk B D cA p l e R s m args below meth c H locs ls' cells slots mc ms C hH hF hL h4 h5 h6 h7)
theorem x_iushr {x y : Int32} (hd : decode M.2.1 pc = .ok (.iushr, 1))  (kk : Run M d q1 q2 (pc + 1) ls (.int ((x.toUInt32 >>> (y.toUInt32 &&& Int32.toUInt32 31)).toInt32) :: st) w n P) : Run M d q1 q2 pc ls (.int y :: .int x :: st) w n P := by
  intro B D cA p l e R s m args below meth c H locs ls' cells slots mc ms C hH hF hL h4 h5 h6 h7
  exact lv_iushr C.1 C.2.1 hd rfl (kk B D cA p l e R s m args below meth c H locs ls' cells slots mc ms C hH hF hL h4 h5 h6 h7)
theorem x_ladd {x y : Int64} (hd : decode M.2.1 pc = .ok (.ladd, 1))  (kk : Run M d q1 q2 (pc + 1) ls (.long (x + y) :: st) w n P) : Run M d q1 q2 pc ls (.long y :: .long x :: st) w n P := by
  intro B D cA p l e R s m args below meth c H locs ls' cells slots mc ms C hH hF hL h4 h5 h6 h7
  exact lv_ladd C.1 C.2.1 hd  (kk B D cA p l e R s m args below meth c H locs ls' cells slots mc ms C hH hF hL h4 h5 h6 h7)
theorem x_lmul {x y : Int64} (hd : decode M.2.1 pc = .ok (.lmul, 1))  (kk : Run M d q1 q2 (pc + 1) ls (.long (x * y) :: st) w n P) : Run M d q1 q2 pc ls (.long y :: .long x :: st) w n P := by
  intro B D cA p l e R s m args below meth c H locs ls' cells slots mc ms C hH hF hL h4 h5 h6 h7
  exact lv_lmul C.1 C.2.1 hd  (kk B D cA p l e R s m args below meth c H locs ls' cells slots mc ms C hH hF hL h4 h5 h6 h7)
theorem x_ldiv {x y : Int64} (hd : decode M.2.1 pc = .ok (.ldiv, 1)) (hne : ¬ y = 0) (kk : Run M d q1 q2 (pc + 1) ls (.long (x / y) :: st) w n P) : Run M d q1 q2 pc ls (.long y :: .long x :: st) w n P := by
  intro B D cA p l e R s m args below meth c H locs ls' cells slots mc ms C hH hF hL h4 h5 h6 h7
  exact lv_ldiv C.1 C.2.1 hd hne (kk B D cA p l e R s m args below meth c H locs ls' cells slots mc ms C hH hF hL h4 h5 h6 h7)
theorem x_lrem {x y : Int64} (hd : decode M.2.1 pc = .ok (.lrem, 1)) (hne : ¬ y = 0) (kk : Run M d q1 q2 (pc + 1) ls (.long (x - x / y * y) :: st) w n P) : Run M d q1 q2 pc ls (.long y :: .long x :: st) w n P := by
  intro B D cA p l e R s m args below meth c H locs ls' cells slots mc ms C hH hF hL h4 h5 h6 h7
  exact lv_lrem C.1 C.2.1 hd hne (kk B D cA p l e R s m args below meth c H locs ls' cells slots mc ms C hH hF hL h4 h5 h6 h7)
theorem x_i2l {x : Int32} (hd : decode M.2.1 pc = .ok (.i2l, 1))  (kk : Run M d q1 q2 (pc + 1) ls (.long x.toInt64 :: st) w n P) : Run M d q1 q2 pc ls (.int x :: st) w n P := by
  intro B D cA p l e R s m args below meth c H locs ls' cells slots mc ms C hH hF hL h4 h5 h6 h7
  exact lv_i2l C.1 C.2.1 hd rfl (kk B D cA p l e R s m args below meth c H locs ls' cells slots mc ms C hH hF hL h4 h5 h6 h7)
theorem x_l2i {x : Int64} (hd : decode M.2.1 pc = .ok (.l2i, 1))  (kk : Run M d q1 q2 (pc + 1) ls (.int x.toInt32 :: st) w n P) : Run M d q1 q2 pc ls (.long x :: st) w n P := by
  intro B D cA p l e R s m args below meth c H locs ls' cells slots mc ms C hH hF hL h4 h5 h6 h7
  exact lv_l2i C.1 C.2.1 hd rfl (kk B D cA p l e R s m args below meth c H locs ls' cells slots mc ms C hH hF hL h4 h5 h6 h7)
theorem x_i2b {x : Int32} (hd : decode M.2.1 pc = .ok (.i2b, 1))  (kk : Run M d q1 q2 (pc + 1) ls (.int x.toInt8.toInt32 :: st) w n P) : Run M d q1 q2 pc ls (.int x :: st) w n P := by
  intro B D cA p l e R s m args below meth c H locs ls' cells slots mc ms C hH hF hL h4 h5 h6 h7
  exact lv_i2b C.1 C.2.1 hd rfl (kk B D cA p l e R s m args below meth c H locs ls' cells slots mc ms C hH hF hL h4 h5 h6 h7)
theorem x_pop {v : Value} (hd : decode M.2.1 pc = .ok (.pop, 1)) (hc : v.category = 1) (kk : Run M d q1 q2 (pc + 1) ls (st) w n P) : Run M d q1 q2 pc ls (v :: st) w n P := by
  intro B D cA p l e R s m args below meth c H locs ls' cells slots mc ms C hH hF hL h4 h5 h6 h7
  exact lv_pop C.1 C.2.1 hd ((ax_cat B v).trans hc) (kk B D cA p l e R s m args below meth c H locs ls' cells slots mc ms C hH hF hL h4 h5 h6 h7)
theorem x_dup {v : Value} (hd : decode M.2.1 pc = .ok (.dup, 1)) (hc : v.category = 1) (kk : Run M d q1 q2 (pc + 1) ls (v :: v :: st) w n P) : Run M d q1 q2 pc ls (v :: st) w n P := by
  intro B D cA p l e R s m args below meth c H locs ls' cells slots mc ms C hH hF hL h4 h5 h6 h7
  exact lv_dup C.1 C.2.1 hd ((ax_cat B v).trans hc) (kk B D cA p l e R s m args below meth c H locs ls' cells slots mc ms C hH hF hL h4 h5 h6 h7)
theorem x_dup2 {v u : Value} (hd : decode M.2.1 pc = .ok (.dup2, 1)) (hc : v.category = 1) (hc2 : u.category = 1) (kk : Run M d q1 q2 (pc + 1) ls (v :: u :: v :: u :: st) w n P) : Run M d q1 q2 pc ls (v :: u :: st) w n P := by
  intro B D cA p l e R s m args below meth c H locs ls' cells slots mc ms C hH hF hL h4 h5 h6 h7
  exact lv_dup2_11 C.1 C.2.1 hd ((ax_cat B v).trans hc) ((ax_cat B u).trans hc2) (kk B D cA p l e R s m args below meth c H locs ls' cells slots mc ms C hH hF hL h4 h5 h6 h7)
theorem x_dup_x1 {v u : Value} (hd : decode M.2.1 pc = .ok (.dup_x1, 1)) (hc : v.category = 1) (hc2 : u.category = 1) (kk : Run M d q1 q2 (pc + 1) ls (v :: u :: v :: st) w n P) : Run M d q1 q2 pc ls (v :: u :: st) w n P := by
  intro B D cA p l e R s m args below meth c H locs ls' cells slots mc ms C hH hF hL h4 h5 h6 h7
  exact lv_dup_x1 C.1 C.2.1 hd ((ax_cat B v).trans hc) ((ax_cat B u).trans hc2) (kk B D cA p l e R s m args below meth c H locs ls' cells slots mc ms C hH hF hL h4 h5 h6 h7)
theorem x_iload_n {k : Fin 4} {x : Int32} (hd : decode M.2.1 pc = .ok (.iload_n k, 1)) (hl : ls[(k : Nat)]? = some (some (.int x))) (kk : Run M d q1 q2 (pc + 1) ls (.int x :: st) w n P) : Run M d q1 q2 pc ls (st) w n P := by
  intro B D cA p l e R s m args below meth c H locs ls' cells slots mc ms C hH hF hL h4 h5 h6 h7
  exact lv_iload_n C.1 C.2.1 hd rfl (hL.2.2.2 _ _ hl) (kk B D cA p l e R s m args below meth c H locs ls' cells slots mc ms C hH hF hL h4 h5 h6 h7)
theorem x_iload {i : Nat} {x : Int32} (hd : decode M.2.1 pc = .ok (.iload i, 2)) (hl : ls[i]? = some (some (.int x))) (kk : Run M d q1 q2 (pc + 2) ls (.int x :: st) w n P) : Run M d q1 q2 pc ls (st) w n P := by
  intro B D cA p l e R s m args below meth c H locs ls' cells slots mc ms C hH hF hL h4 h5 h6 h7
  exact lv_iload C.1 C.2.1 hd (hL.2.2.2 _ _ hl) (kk B D cA p l e R s m args below meth c H locs ls' cells slots mc ms C hH hF hL h4 h5 h6 h7)
theorem x_lload_n {k : Fin 4} {x : Int64} (hd : decode M.2.1 pc = .ok (.lload_n k, 1)) (hl : ls[(k : Nat)]? = some (some (.long x))) (kk : Run M d q1 q2 (pc + 1) ls (.long x :: st) w n P) : Run M d q1 q2 pc ls (st) w n P := by
  intro B D cA p l e R s m args below meth c H locs ls' cells slots mc ms C hH hF hL h4 h5 h6 h7
  exact lv_lload_n C.1 C.2.1 hd rfl (hL.2.2.2 _ _ hl) (kk B D cA p l e R s m args below meth c H locs ls' cells slots mc ms C hH hF hL h4 h5 h6 h7)
theorem x_lload {i : Nat} {x : Int64} (hd : decode M.2.1 pc = .ok (.lload i, 2)) (hl : ls[i]? = some (some (.long x))) (kk : Run M d q1 q2 (pc + 2) ls (.long x :: st) w n P) : Run M d q1 q2 pc ls (st) w n P := by
  intro B D cA p l e R s m args below meth c H locs ls' cells slots mc ms C hH hF hL h4 h5 h6 h7
  exact lv_lload C.1 C.2.1 hd (hL.2.2.2 _ _ hl) (kk B D cA p l e R s m args below meth c H locs ls' cells slots mc ms C hH hF hL h4 h5 h6 h7)
theorem x_aload_n {k : Fin 4} {x : Nat} (hd : decode M.2.1 pc = .ok (.aload_n k, 1)) (hl : ls[(k : Nat)]? = some (some (.ref x))) (kk : Run M d q1 q2 (pc + 1) ls (.ref x :: st) w n P) : Run M d q1 q2 pc ls (st) w n P := by
  intro B D cA p l e R s m args below meth c H locs ls' cells slots mc ms C hH hF hL h4 h5 h6 h7
  exact lv_aload_n C.1 C.2.1 hd rfl (hL.2.2.2 _ _ hl) (kk B D cA p l e R s m args below meth c H locs ls' cells slots mc ms C hH hF hL h4 h5 h6 h7)
theorem x_aload {i : Nat} {x : Nat} (hd : decode M.2.1 pc = .ok (.aload i, 2)) (hl : ls[i]? = some (some (.ref x))) (kk : Run M d q1 q2 (pc + 2) ls (.ref x :: st) w n P) : Run M d q1 q2 pc ls (st) w n P := by
  intro B D cA p l e R s m args below meth c H locs ls' cells slots mc ms C hH hF hL h4 h5 h6 h7
  exact lv_aload C.1 C.2.1 hd (hL.2.2.2 _ _ hl) (kk B D cA p l e R s m args below meth c H locs ls' cells slots mc ms C hH hF hL h4 h5 h6 h7)
theorem x_aload_nS {k : Fin 4} {x : UInt32} (hd : decode M.2.1 pc = .ok (.aload_n k, 1)) (hl : ls[(k : Nat)]? = some (some (.float x))) (kk : Run M d q1 q2 (pc + 1) ls (.float x :: st) w n P) : Run M d q1 q2 pc ls (st) w n P := by
  intro B D cA p l e R s m args below meth c H locs ls' cells slots mc ms C hH hF hL h4 h5 h6 h7
  exact lv_aload_n C.1 C.2.1 hd rfl (hL.2.2.2 _ _ hl) (kk B D cA p l e R s m args below meth c H locs ls' cells slots mc ms C hH hF hL h4 h5 h6 h7)
theorem x_aload_nN {k : Fin 4} (hd : decode M.2.1 pc = .ok (.aload_n k, 1)) (hl : ls[(k : Nat)]? = some (some .null)) (kk : Run M d q1 q2 (pc + 1) ls (.null :: st) w n P) : Run M d q1 q2 pc ls (st) w n P := by
  intro B D cA p l e R s m args below meth c H locs ls' cells slots mc ms C hH hF hL h4 h5 h6 h7
  exact lv_aload_nN C.1 C.2.1 hd rfl (hL.2.2.2 _ _ hl) (kk B D cA p l e R s m args below meth c H locs ls' cells slots mc ms C hH hF hL h4 h5 h6 h7)
theorem x_istore_n {k : Fin 4} {x : Int32} (hd : decode M.2.1 pc = .ok (.istore_n k, 1)) (hi : Nat.blt ((k : Nat)) ls.length = true) (kk : Run M d q1 q2 (pc + 1) (l_set ls (k : Nat) (.int x)) st w n P) : Run M d q1 q2 pc ls ((.int x) :: st) w n P := by
  intro B D cA p l e R s m args below meth c H locs ls' cells slots mc ms C hH hF hL h4 h5 h6 h7
  obtain ⟨ls2, e', hL'⟩ := hL.store (v := .int x) (i := (k : Nat)) (by rw [← hL.2.2.1]; simpa using hi) rfl
  have e' : storeLocals ls' (k : Nat) (ax_v B (.int x)) = some ls2 := e'
  simp only [ax_v] at e'
  have hexec := C.1
  have hb := C.2.1
  intro T hT X
  obtain ⟨t, a, b⟩ := kk B D cA p l e R s m args below meth c H locs ls2 cells slots mc ms C hH hF hL' h4 h5 h6 h7 T hT X
  refine ⟨t, ?_, b⟩
  simp only [List.map_cons, ax_v]
  jvm_step X.here [X.here.top, ↓top_set X.here.top, hexec, hb, hd, e']
  exact a
theorem x_istore {i : Nat} {x : Int32} (hd : decode M.2.1 pc = .ok (.istore i, 2)) (hi : Nat.blt (i) ls.length = true) (kk : Run M d q1 q2 (pc + 2) (l_set ls i (.int x)) st w n P) : Run M d q1 q2 pc ls ((.int x) :: st) w n P := by
  intro B D cA p l e R s m args below meth c H locs ls' cells slots mc ms C hH hF hL h4 h5 h6 h7
  obtain ⟨ls2, e', hL'⟩ := hL.store (v := .int x) (i := i) (by rw [← hL.2.2.1]; simpa using hi) rfl
  have e' : storeLocals ls' i (ax_v B (.int x)) = some ls2 := e'
  simp only [ax_v] at e'
  have hexec := C.1
  have hb := C.2.1
  intro T hT X
  obtain ⟨t, a, b⟩ := kk B D cA p l e R s m args below meth c H locs ls2 cells slots mc ms C hH hF hL' h4 h5 h6 h7 T hT X
  refine ⟨t, ?_, b⟩
  simp only [List.map_cons, ax_v]
  jvm_step X.here [X.here.top, ↓top_set X.here.top, hexec, hb, hd, e']
  exact a
theorem x_lstore_n {k : Fin 4} {x : Int64} (hd : decode M.2.1 pc = .ok (.lstore_n k, 1)) (hi : Nat.blt ((k : Nat) + 1) ls.length = true) (kk : Run M d q1 q2 (pc + 1) (l_set2 ls (k : Nat) (.long x)) st w n P) : Run M d q1 q2 pc ls ((.long x) :: st) w n P := by
  intro B D cA p l e R s m args below meth c H locs ls' cells slots mc ms C hH hF hL h4 h5 h6 h7
  obtain ⟨ls2, e', hL'⟩ := hL.store2 (v := .long x) (i := (k : Nat)) (by rw [← hL.2.2.1]; simpa using hi) rfl
  have e' : storeLocals ls' (k : Nat) (ax_v B (.long x)) = some ls2 := e'
  simp only [ax_v] at e'
  have hexec := C.1
  have hb := C.2.1
  intro T hT X
  obtain ⟨t, a, b⟩ := kk B D cA p l e R s m args below meth c H locs ls2 cells slots mc ms C hH hF hL' h4 h5 h6 h7 T hT X
  refine ⟨t, ?_, b⟩
  simp only [List.map_cons, ax_v]
  jvm_step X.here [X.here.top, ↓top_set X.here.top, hexec, hb, hd, e']
  exact a
theorem x_lstore {i : Nat} {x : Int64} (hd : decode M.2.1 pc = .ok (.lstore i, 2)) (hi : Nat.blt (i + 1) ls.length = true) (kk : Run M d q1 q2 (pc + 2) (l_set2 ls i (.long x)) st w n P) : Run M d q1 q2 pc ls ((.long x) :: st) w n P := by
  intro B D cA p l e R s m args below meth c H locs ls' cells slots mc ms C hH hF hL h4 h5 h6 h7
  obtain ⟨ls2, e', hL'⟩ := hL.store2 (v := .long x) (i := i) (by rw [← hL.2.2.1]; simpa using hi) rfl
  have e' : storeLocals ls' i (ax_v B (.long x)) = some ls2 := e'
  simp only [ax_v] at e'
  have hexec := C.1
  have hb := C.2.1
  intro T hT X
  obtain ⟨t, a, b⟩ := kk B D cA p l e R s m args below meth c H locs ls2 cells slots mc ms C hH hF hL' h4 h5 h6 h7 T hT X
  refine ⟨t, ?_, b⟩
  simp only [List.map_cons, ax_v]
  jvm_step X.here [X.here.top, ↓top_set X.here.top, hexec, hb, hd, e']
  exact a
theorem x_astore_n {k : Fin 4} {x : Nat} (hd : decode M.2.1 pc = .ok (.astore_n k, 1)) (hi : Nat.blt ((k : Nat)) ls.length = true) (kk : Run M d q1 q2 (pc + 1) (l_set ls (k : Nat) (.ref x)) st w n P) : Run M d q1 q2 pc ls ((.ref x) :: st) w n P := by
  intro B D cA p l e R s m args below meth c H locs ls' cells slots mc ms C hH hF hL h4 h5 h6 h7
  obtain ⟨ls2, e', hL'⟩ := hL.store (v := .ref x) (i := (k : Nat)) (by rw [← hL.2.2.1]; simpa using hi) rfl
  have e' : storeLocals ls' (k : Nat) (ax_v B (.ref x)) = some ls2 := e'
  simp only [ax_v] at e'
  have hexec := C.1
  have hb := C.2.1
  intro T hT X
  obtain ⟨t, a, b⟩ := kk B D cA p l e R s m args below meth c H locs ls2 cells slots mc ms C hH hF hL' h4 h5 h6 h7 T hT X
  refine ⟨t, ?_, b⟩
  simp only [List.map_cons, ax_v]
  jvm_step X.here [X.here.top, ↓top_set X.here.top, hexec, hb, hd, e']
  exact ⟨rfl, a⟩
theorem x_astore {i : Nat} {x : Nat} (hd : decode M.2.1 pc = .ok (.astore i, 2)) (hi : Nat.blt (i) ls.length = true) (kk : Run M d q1 q2 (pc + 2) (l_set ls i (.ref x)) st w n P) : Run M d q1 q2 pc ls ((.ref x) :: st) w n P := by
  intro B D cA p l e R s m args below meth c H locs ls' cells slots mc ms C hH hF hL h4 h5 h6 h7
  obtain ⟨ls2, e', hL'⟩ := hL.store (v := .ref x) (i := i) (by rw [← hL.2.2.1]; simpa using hi) rfl
  have e' : storeLocals ls' i (ax_v B (.ref x)) = some ls2 := e'
  simp only [ax_v] at e'
  have hexec := C.1
  have hb := C.2.1
  intro T hT X
  obtain ⟨t, a, b⟩ := kk B D cA p l e R s m args below meth c H locs ls2 cells slots mc ms C hH hF hL' h4 h5 h6 h7 T hT X
  refine ⟨t, ?_, b⟩
  simp only [List.map_cons, ax_v]
  jvm_step X.here [X.here.top, ↓top_set X.here.top, hexec, hb, hd, e']
  exact ⟨rfl, a⟩
theorem x_iinc {i : Nat} {k : Int} {x : Int32} (hd : decode M.2.1 pc = .ok (.iinc i k, 3)) (hl : ls[i]? = some (some (.int x))) (hi : Nat.blt i ls.length = true) (kk : Run M d q1 q2 (pc + 3) (l_set ls i (.int (x + Int32.ofInt k))) st w n P) : Run M d q1 q2 pc ls st w n P := by
  intro B D cA p l e R s m args below meth c H locs ls' cells slots mc ms C hH hF hL h4 h5 h6 h7
  obtain ⟨ls2, e', hL'⟩ := hL.store (v := .int (x + Int32.ofInt k)) (i := i) (by rw [← hL.2.2.1]; simpa using hi) rfl
  simp only [ax_v] at e'
  have hg : ls'[i]? = some (.val (.int x)) := hL.2.2.2 _ _ hl
  have hexec := C.1
  have hb := C.2.1
  intro T hT X
  obtain ⟨t, a, b⟩ := kk B D cA p l e R s m args below meth c H locs ls2 cells slots mc ms C hH hF hL' h4 h5 h6 h7 T hT X
  refine ⟨t, ?_, b⟩
  jvm_step X.here [X.here.top, ↓top_set X.here.top, hexec, hb, hd, hg, e']
  exact a
theorem x_if_eq {x : Int32} {off : Int} {tgt : Nat} (hd : decode M.2.1 pc = .ok (.ifCond .eq off, 3)) (ht : (pc : Int) + off = (tgt : Int)) (kt : x = 0 → Run M d q1 q2 tgt ls (st) w n P) (kf : ¬ (x = 0) → Run M d q1 q2 (pc + 3) ls (st) w n P) : Run M d q1 q2 pc ls (.int x :: st) w n P := by
  intro B D cA p l e R s m args below meth c H locs ls' cells slots mc ms C hH hF hL h4 h5 h6 h7
  exact lv_if_eq C.1 C.2.1 hd ht (fun z => kt z B D cA p l e R s m args below meth c H locs ls' cells slots mc ms C hH hF hL h4 h5 h6 h7) (fun z => kf (by simpa using z) B D cA p l e R s m args below meth c H locs ls' cells slots mc ms C hH hF hL h4 h5 h6 h7)
theorem x_if_eq_t {x : Int32} {off : Int} {tgt : Nat} (hd : decode M.2.1 pc = .ok (.ifCond .eq off, 3)) (ht : (pc : Int) + off = (tgt : Int)) (h : x = 0) (kk : Run M d q1 q2 tgt ls (st) w n P) : Run M d q1 q2 pc ls (.int x :: st) w n P := x_if_eq hd ht (fun _ => kk) (fun z => absurd h z)
theorem x_if_eq_f {x : Int32} {off : Int} {tgt : Nat} (hd : decode M.2.1 pc = .ok (.ifCond .eq off, 3)) (ht : (pc : Int) + off = (tgt : Int)) (h : ¬ (x = 0)) (kk : Run M d q1 q2 (pc + 3) ls (st) w n P) : Run M d q1 q2 pc ls (.int x :: st) w n P := x_if_eq hd ht (fun z => absurd z h) (fun _ => kk)
theorem x_icmp_eq {x y : Int32} {off : Int} {tgt : Nat} (hd : decode M.2.1 pc = .ok (.if_icmp .eq off, 3)) (ht : (pc : Int) + off = (tgt : Int)) (kt : x = y → Run M d q1 q2 tgt ls (st) w n P) (kf : ¬ (x = y) → Run M d q1 q2 (pc + 3) ls (st) w n P) : Run M d q1 q2 pc ls (.int y :: .int x :: st) w n P := by
  intro B D cA p l e R s m args below meth c H locs ls' cells slots mc ms C hH hF hL h4 h5 h6 h7
  exact lv_icmp_eq C.1 C.2.1 hd ht (fun z => kt z B D cA p l e R s m args below meth c H locs ls' cells slots mc ms C hH hF hL h4 h5 h6 h7) (fun z => kf (by simpa using z) B D cA p l e R s m args below meth c H locs ls' cells slots mc ms C hH hF hL h4 h5 h6 h7)
theorem x_icmp_eq_t {x y : Int32} {off : Int} {tgt : Nat} (hd : decode M.2.1 pc = .ok (.if_icmp .eq off, 3)) (ht : (pc : Int) + off = (tgt : Int)) (h : x = y) (kk : Run M d q1 q2 tgt ls (st) w n P) : Run M d q1 q2 pc ls (.int y :: .int x :: st) w n P := x_icmp_eq hd ht (fun _ => kk) (fun z => absurd h z)
theorem x_icmp_eq_f {x y : Int32} {off : Int} {tgt : Nat} (hd : decode M.2.1 pc = .ok (.if_icmp .eq off, 3)) (ht : (pc : Int) + off = (tgt : Int)) (h : ¬ (x = y)) (kk : Run M d q1 q2 (pc + 3) ls (st) w n P) : Run M d q1 q2 pc ls (.int y :: .int x :: st) w n P := x_icmp_eq hd ht (fun z => absurd z h) (fun _ => kk)
theorem x_if_ne {x : Int32} {off : Int} {tgt : Nat} (hd : decode M.2.1 pc = .ok (.ifCond .ne off, 3)) (ht : (pc : Int) + off = (tgt : Int)) (kt : ¬ x = 0 → Run M d q1 q2 tgt ls (st) w n P) (kf : ¬ (¬ x = 0) → Run M d q1 q2 (pc + 3) ls (st) w n P) : Run M d q1 q2 pc ls (.int x :: st) w n P := by
  intro B D cA p l e R s m args below meth c H locs ls' cells slots mc ms C hH hF hL h4 h5 h6 h7
  exact lv_if_ne C.1 C.2.1 hd ht (fun z => kt z B D cA p l e R s m args below meth c H locs ls' cells slots mc ms C hH hF hL h4 h5 h6 h7) (fun z => kf (by simpa using z) B D cA p l e R s m args below meth c H locs ls' cells slots mc ms C hH hF hL h4 h5 h6 h7)
theorem x_if_ne_t {x : Int32} {off : Int} {tgt : Nat} (hd : decode M.2.1 pc = .ok (.ifCond .ne off, 3)) (ht : (pc : Int) + off = (tgt : Int)) (h : ¬ x = 0) (kk : Run M d q1 q2 tgt ls (st) w n P) : Run M d q1 q2 pc ls (.int x :: st) w n P := x_if_ne hd ht (fun _ => kk) (fun z => absurd h z)
theorem x_if_ne_f {x : Int32} {off : Int} {tgt : Nat} (hd : decode M.2.1 pc = .ok (.ifCond .ne off, 3)) (ht : (pc : Int) + off = (tgt : Int)) (h : ¬ (¬ x = 0)) (kk : Run M d q1 q2 (pc + 3) ls (st) w n P) : Run M d q1 q2 pc ls (.int x :: st) w n P := x_if_ne hd ht (fun z => absurd z h) (fun _ => kk)
theorem x_icmp_ne {x y : Int32} {off : Int} {tgt : Nat} (hd : decode M.2.1 pc = .ok (.if_icmp .ne off, 3)) (ht : (pc : Int) + off = (tgt : Int)) (kt : ¬ x = y → Run M d q1 q2 tgt ls (st) w n P) (kf : ¬ (¬ x = y) → Run M d q1 q2 (pc + 3) ls (st) w n P) : Run M d q1 q2 pc ls (.int y :: .int x :: st) w n P := by
  intro B D cA p l e R s m args below meth c H locs ls' cells slots mc ms C hH hF hL h4 h5 h6 h7
  exact lv_icmp_ne C.1 C.2.1 hd ht (fun z => kt z B D cA p l e R s m args below meth c H locs ls' cells slots mc ms C hH hF hL h4 h5 h6 h7) (fun z => kf (by simpa using z) B D cA p l e R s m args below meth c H locs ls' cells slots mc ms C hH hF hL h4 h5 h6 h7)
theorem x_icmp_ne_t {x y : Int32} {off : Int} {tgt : Nat} (hd : decode M.2.1 pc = .ok (.if_icmp .ne off, 3)) (ht : (pc : Int) + off = (tgt : Int)) (h : ¬ x = y) (kk : Run M d q1 q2 tgt ls (st) w n P) : Run M d q1 q2 pc ls (.int y :: .int x :: st) w n P := x_icmp_ne hd ht (fun _ => kk) (fun z => absurd h z)
theorem x_icmp_ne_f {x y : Int32} {off : Int} {tgt : Nat} (hd : decode M.2.1 pc = .ok (.if_icmp .ne off, 3)) (ht : (pc : Int) + off = (tgt : Int)) (h : ¬ (¬ x = y)) (kk : Run M d q1 q2 (pc + 3) ls (st) w n P) : Run M d q1 q2 pc ls (.int y :: .int x :: st) w n P := x_icmp_ne hd ht (fun z => absurd z h) (fun _ => kk)
theorem x_if_lt {x : Int32} {off : Int} {tgt : Nat} (hd : decode M.2.1 pc = .ok (.ifCond .lt off, 3)) (ht : (pc : Int) + off = (tgt : Int)) (kt : x < 0 → Run M d q1 q2 tgt ls (st) w n P) (kf : ¬ (x < 0) → Run M d q1 q2 (pc + 3) ls (st) w n P) : Run M d q1 q2 pc ls (.int x :: st) w n P := by
  intro B D cA p l e R s m args below meth c H locs ls' cells slots mc ms C hH hF hL h4 h5 h6 h7
  exact lv_if_lt C.1 C.2.1 hd ht (fun z => kt z B D cA p l e R s m args below meth c H locs ls' cells slots mc ms C hH hF hL h4 h5 h6 h7) (fun z => kf (by simpa using z) B D cA p l e R s m args below meth c H locs ls' cells slots mc ms C hH hF hL h4 h5 h6 h7)
theorem x_if_lt_t {x : Int32} {off : Int} {tgt : Nat} (hd : decode M.2.1 pc = .ok (.ifCond .lt off, 3)) (ht : (pc : Int) + off = (tgt : Int)) (h : x < 0) (kk : Run M d q1 q2 tgt ls (st) w n P) : Run M d q1 q2 pc ls (.int x :: st) w n P := x_if_lt hd ht (fun _ => kk) (fun z => absurd h z)
theorem x_if_lt_f {x : Int32} {off : Int} {tgt : Nat} (hd : decode M.2.1 pc = .ok (.ifCond .lt off, 3)) (ht : (pc : Int) + off = (tgt : Int)) (h : ¬ (x < 0)) (kk : Run M d q1 q2 (pc + 3) ls (st) w n P) : Run M d q1 q2 pc ls (.int x :: st) w n P := x_if_lt hd ht (fun z => absurd z h) (fun _ => kk)
theorem x_icmp_lt {x y : Int32} {off : Int} {tgt : Nat} (hd : decode M.2.1 pc = .ok (.if_icmp .lt off, 3)) (ht : (pc : Int) + off = (tgt : Int)) (kt : x < y → Run M d q1 q2 tgt ls (st) w n P) (kf : ¬ (x < y) → Run M d q1 q2 (pc + 3) ls (st) w n P) : Run M d q1 q2 pc ls (.int y :: .int x :: st) w n P := by
  intro B D cA p l e R s m args below meth c H locs ls' cells slots mc ms C hH hF hL h4 h5 h6 h7
  exact lv_icmp_lt C.1 C.2.1 hd ht (fun z => kt z B D cA p l e R s m args below meth c H locs ls' cells slots mc ms C hH hF hL h4 h5 h6 h7) (fun z => kf (by simpa using z) B D cA p l e R s m args below meth c H locs ls' cells slots mc ms C hH hF hL h4 h5 h6 h7)
theorem x_icmp_lt_t {x y : Int32} {off : Int} {tgt : Nat} (hd : decode M.2.1 pc = .ok (.if_icmp .lt off, 3)) (ht : (pc : Int) + off = (tgt : Int)) (h : x < y) (kk : Run M d q1 q2 tgt ls (st) w n P) : Run M d q1 q2 pc ls (.int y :: .int x :: st) w n P := x_icmp_lt hd ht (fun _ => kk) (fun z => absurd h z)
theorem x_icmp_lt_f {x y : Int32} {off : Int} {tgt : Nat} (hd : decode M.2.1 pc = .ok (.if_icmp .lt off, 3)) (ht : (pc : Int) + off = (tgt : Int)) (h : ¬ (x < y)) (kk : Run M d q1 q2 (pc + 3) ls (st) w n P) : Run M d q1 q2 pc ls (.int y :: .int x :: st) w n P := x_icmp_lt hd ht (fun z => absurd z h) (fun _ => kk)
theorem x_if_ge {x : Int32} {off : Int} {tgt : Nat} (hd : decode M.2.1 pc = .ok (.ifCond .ge off, 3)) (ht : (pc : Int) + off = (tgt : Int)) (kt : 0 ≤ x → Run M d q1 q2 tgt ls (st) w n P) (kf : ¬ (0 ≤ x) → Run M d q1 q2 (pc + 3) ls (st) w n P) : Run M d q1 q2 pc ls (.int x :: st) w n P := by
  intro B D cA p l e R s m args below meth c H locs ls' cells slots mc ms C hH hF hL h4 h5 h6 h7
  exact lv_if_ge C.1 C.2.1 hd ht (fun z => kt z B D cA p l e R s m args below meth c H locs ls' cells slots mc ms C hH hF hL h4 h5 h6 h7) (fun z => kf (by simpa using z) B D cA p l e R s m args below meth c H locs ls' cells slots mc ms C hH hF hL h4 h5 h6 h7)
theorem x_if_ge_t {x : Int32} {off : Int} {tgt : Nat} (hd : decode M.2.1 pc = .ok (.ifCond .ge off, 3)) (ht : (pc : Int) + off = (tgt : Int)) (h : 0 ≤ x) (kk : Run M d q1 q2 tgt ls (st) w n P) : Run M d q1 q2 pc ls (.int x :: st) w n P := x_if_ge hd ht (fun _ => kk) (fun z => absurd h z)
theorem x_if_ge_f {x : Int32} {off : Int} {tgt : Nat} (hd : decode M.2.1 pc = .ok (.ifCond .ge off, 3)) (ht : (pc : Int) + off = (tgt : Int)) (h : ¬ (0 ≤ x)) (kk : Run M d q1 q2 (pc + 3) ls (st) w n P) : Run M d q1 q2 pc ls (.int x :: st) w n P := x_if_ge hd ht (fun z => absurd z h) (fun _ => kk)
theorem x_icmp_ge {x y : Int32} {off : Int} {tgt : Nat} (hd : decode M.2.1 pc = .ok (.if_icmp .ge off, 3)) (ht : (pc : Int) + off = (tgt : Int)) (kt : y ≤ x → Run M d q1 q2 tgt ls (st) w n P) (kf : ¬ (y ≤ x) → Run M d q1 q2 (pc + 3) ls (st) w n P) : Run M d q1 q2 pc ls (.int y :: .int x :: st) w n P := by
  intro B D cA p l e R s m args below meth c H locs ls' cells slots mc ms C hH hF hL h4 h5 h6 h7
  exact lv_icmp_ge C.1 C.2.1 hd ht (fun z => kt z B D cA p l e R s m args below meth c H locs ls' cells slots mc ms C hH hF hL h4 h5 h6 h7) (fun z => kf (by simpa using z) B D cA p l e R s m args below meth c H locs ls' cells slots mc ms C hH hF hL h4 h5 h6 h7)
theorem x_icmp_ge_t {x y : Int32} {off : Int} {tgt : Nat} (hd : decode M.2.1 pc = .ok (.if_icmp .ge off, 3)) (ht : (pc : Int) + off = (tgt : Int)) (h : y ≤ x) (kk : Run M d q1 q2 tgt ls (st) w n P) : Run M d q1 q2 pc ls (.int y :: .int x :: st) w n P := x_icmp_ge hd ht (fun _ => kk) (fun z => absurd h z)
theorem x_icmp_ge_f {x y : Int32} {off : Int} {tgt : Nat} (hd : decode M.2.1 pc = .ok (.if_icmp .ge off, 3)) (ht : (pc : Int) + off = (tgt : Int)) (h : ¬ (y ≤ x)) (kk : Run M d q1 q2 (pc + 3) ls (st) w n P) : Run M d q1 q2 pc ls (.int y :: .int x :: st) w n P := x_icmp_ge hd ht (fun z => absurd z h) (fun _ => kk)
theorem x_if_gt {x : Int32} {off : Int} {tgt : Nat} (hd : decode M.2.1 pc = .ok (.ifCond .gt off, 3)) (ht : (pc : Int) + off = (tgt : Int)) (kt : 0 < x → Run M d q1 q2 tgt ls (st) w n P) (kf : ¬ (0 < x) → Run M d q1 q2 (pc + 3) ls (st) w n P) : Run M d q1 q2 pc ls (.int x :: st) w n P := by
  intro B D cA p l e R s m args below meth c H locs ls' cells slots mc ms C hH hF hL h4 h5 h6 h7
  exact lv_if_gt C.1 C.2.1 hd ht (fun z => kt z B D cA p l e R s m args below meth c H locs ls' cells slots mc ms C hH hF hL h4 h5 h6 h7) (fun z => kf (by simpa using z) B D cA p l e R s m args below meth c H locs ls' cells slots mc ms C hH hF hL h4 h5 h6 h7)
theorem x_if_gt_t {x : Int32} {off : Int} {tgt : Nat} (hd : decode M.2.1 pc = .ok (.ifCond .gt off, 3)) (ht : (pc : Int) + off = (tgt : Int)) (h : 0 < x) (kk : Run M d q1 q2 tgt ls (st) w n P) : Run M d q1 q2 pc ls (.int x :: st) w n P := x_if_gt hd ht (fun _ => kk) (fun z => absurd h z)
theorem x_if_gt_f {x : Int32} {off : Int} {tgt : Nat} (hd : decode M.2.1 pc = .ok (.ifCond .gt off, 3)) (ht : (pc : Int) + off = (tgt : Int)) (h : ¬ (0 < x)) (kk : Run M d q1 q2 (pc + 3) ls (st) w n P) : Run M d q1 q2 pc ls (.int x :: st) w n P := x_if_gt hd ht (fun z => absurd z h) (fun _ => kk)
theorem x_icmp_gt {x y : Int32} {off : Int} {tgt : Nat} (hd : decode M.2.1 pc = .ok (.if_icmp .gt off, 3)) (ht : (pc : Int) + off = (tgt : Int)) (kt : y < x → Run M d q1 q2 tgt ls (st) w n P) (kf : ¬ (y < x) → Run M d q1 q2 (pc + 3) ls (st) w n P) : Run M d q1 q2 pc ls (.int y :: .int x :: st) w n P := by
  intro B D cA p l e R s m args below meth c H locs ls' cells slots mc ms C hH hF hL h4 h5 h6 h7
  exact lv_icmp_gt C.1 C.2.1 hd ht (fun z => kt z B D cA p l e R s m args below meth c H locs ls' cells slots mc ms C hH hF hL h4 h5 h6 h7) (fun z => kf (by simpa using z) B D cA p l e R s m args below meth c H locs ls' cells slots mc ms C hH hF hL h4 h5 h6 h7)
theorem x_icmp_gt_t {x y : Int32} {off : Int} {tgt : Nat} (hd : decode M.2.1 pc = .ok (.if_icmp .gt off, 3)) (ht : (pc : Int) + off = (tgt : Int)) (h : y < x) (kk : Run M d q1 q2 tgt ls (st) w n P) : Run M d q1 q2 pc ls (.int y :: .int x :: st) w n P := x_icmp_gt hd ht (fun _ => kk) (fun z => absurd h z)
theorem x_icmp_gt_f {x y : Int32} {off : Int} {tgt : Nat} (hd : decode M.2.1 pc = .ok (.if_icmp .gt off, 3)) (ht : (pc : Int) + off = (tgt : Int)) (h : ¬ (y < x)) (kk : Run M d q1 q2 (pc + 3) ls (st) w n P) : Run M d q1 q2 pc ls (.int y :: .int x :: st) w n P := x_icmp_gt hd ht (fun z => absurd z h) (fun _ => kk)
theorem x_if_le {x : Int32} {off : Int} {tgt : Nat} (hd : decode M.2.1 pc = .ok (.ifCond .le off, 3)) (ht : (pc : Int) + off = (tgt : Int)) (kt : x ≤ 0 → Run M d q1 q2 tgt ls (st) w n P) (kf : ¬ (x ≤ 0) → Run M d q1 q2 (pc + 3) ls (st) w n P) : Run M d q1 q2 pc ls (.int x :: st) w n P := by
  intro B D cA p l e R s m args below meth c H locs ls' cells slots mc ms C hH hF hL h4 h5 h6 h7
  exact lv_if_le C.1 C.2.1 hd ht (fun z => kt z B D cA p l e R s m args below meth c H locs ls' cells slots mc ms C hH hF hL h4 h5 h6 h7) (fun z => kf (by simpa using z) B D cA p l e R s m args below meth c H locs ls' cells slots mc ms C hH hF hL h4 h5 h6 h7)
theorem x_if_le_t {x : Int32} {off : Int} {tgt : Nat} (hd : decode M.2.1 pc = .ok (.ifCond .le off, 3)) (ht : (pc : Int) + off = (tgt : Int)) (h : x ≤ 0) (kk : Run M d q1 q2 tgt ls (st) w n P) : Run M d q1 q2 pc ls (.int x :: st) w n P := x_if_le hd ht (fun _ => kk) (fun z => absurd h z)
theorem x_if_le_f {x : Int32} {off : Int} {tgt : Nat} (hd : decode M.2.1 pc = .ok (.ifCond .le off, 3)) (ht : (pc : Int) + off = (tgt : Int)) (h : ¬ (x ≤ 0)) (kk : Run M d q1 q2 (pc + 3) ls (st) w n P) : Run M d q1 q2 pc ls (.int x :: st) w n P := x_if_le hd ht (fun z => absurd z h) (fun _ => kk)
theorem x_icmp_le {x y : Int32} {off : Int} {tgt : Nat} (hd : decode M.2.1 pc = .ok (.if_icmp .le off, 3)) (ht : (pc : Int) + off = (tgt : Int)) (kt : x ≤ y → Run M d q1 q2 tgt ls (st) w n P) (kf : ¬ (x ≤ y) → Run M d q1 q2 (pc + 3) ls (st) w n P) : Run M d q1 q2 pc ls (.int y :: .int x :: st) w n P := by
  intro B D cA p l e R s m args below meth c H locs ls' cells slots mc ms C hH hF hL h4 h5 h6 h7
  exact lv_icmp_le C.1 C.2.1 hd ht (fun z => kt z B D cA p l e R s m args below meth c H locs ls' cells slots mc ms C hH hF hL h4 h5 h6 h7) (fun z => kf (by simpa using z) B D cA p l e R s m args below meth c H locs ls' cells slots mc ms C hH hF hL h4 h5 h6 h7)
theorem x_icmp_le_t {x y : Int32} {off : Int} {tgt : Nat} (hd : decode M.2.1 pc = .ok (.if_icmp .le off, 3)) (ht : (pc : Int) + off = (tgt : Int)) (h : x ≤ y) (kk : Run M d q1 q2 tgt ls (st) w n P) : Run M d q1 q2 pc ls (.int y :: .int x :: st) w n P := x_icmp_le hd ht (fun _ => kk) (fun z => absurd h z)
theorem x_icmp_le_f {x y : Int32} {off : Int} {tgt : Nat} (hd : decode M.2.1 pc = .ok (.if_icmp .le off, 3)) (ht : (pc : Int) + off = (tgt : Int)) (h : ¬ (x ≤ y)) (kk : Run M d q1 q2 (pc + 3) ls (st) w n P) : Run M d q1 q2 pc ls (.int y :: .int x :: st) w n P := x_icmp_le hd ht (fun z => absurd z h) (fun _ => kk)
theorem x_goto {off : Int} {tgt : Nat} (hd : decode M.2.1 pc = .ok (.goto off, 3)) (ht : (pc : Int) + off = (tgt : Int)) (kk : Run M d q1 q2 tgt ls (st) w n P) : Run M d q1 q2 pc ls (st) w n P := by
  intro B D cA p l e R s m args below meth c H locs ls' cells slots mc ms C hH hF hL h4 h5 h6 h7
  exact lv_goto C.1 C.2.1 hd ht (kk B D cA p l e R s m args below meth c H locs ls' cells slots mc ms C hH hF hL h4 h5 h6 h7)
theorem x_tableOut {dflt lo hi : Int} {offs : Array Int} {len : Nat} {x : Int32} {tgt : Nat} (hd : decode M.2.1 pc = .ok (.tableswitch dflt lo hi offs, len)) (h : x.toInt < lo ∨ hi < x.toInt) (ht : (pc : Int) + dflt = (tgt : Int)) (kk : Run M d q1 q2 tgt ls (st) w n P) : Run M d q1 q2 pc ls (.int x :: st) w n P := by
  intro B D cA p l e R s m args below meth c H locs ls' cells slots mc ms C hH hF hL h4 h5 h6 h7
  exact lv_tableOut C.1 C.2.1 hd h ht (kk B D cA p l e R s m args below meth c H locs ls' cells slots mc ms C hH hF hL h4 h5 h6 h7)
theorem x_tableIn {dflt lo hi : Int} {offs : Array Int} {len : Nat} {x : Int32} {off : Int} {tgt : Nat} (hd : decode M.2.1 pc = .ok (.tableswitch dflt lo hi offs, len)) (h1 : ¬ x.toInt < lo) (h2 : ¬ hi < x.toInt) (ho : offs[(x.toInt - lo).toNat]? = some off) (ht : (pc : Int) + off = (tgt : Int)) (kk : Run M d q1 q2 tgt ls (st) w n P) : Run M d q1 q2 pc ls (.int x :: st) w n P := by
  intro B D cA p l e R s m args below meth c H locs ls' cells slots mc ms C hH hF hL h4 h5 h6 h7
  exact lv_tableIn C.1 C.2.1 hd h1 h2 ho ht (kk B D cA p l e R s m args below meth c H locs ls' cells slots mc ms C hH hF hL h4 h5 h6 h7)
theorem x_ifnonnull {x : Nat} {off : Int} {tgt : Nat} (hd : decode M.2.1 pc = .ok (.ifnonnull off, 3)) (ht : (pc : Int) + off = (tgt : Int)) (kk : Run M d q1 q2 tgt ls (st) w n P) : Run M d q1 q2 pc ls (.ref x :: st) w n P := by
  intro B D cA p l e R s m args below meth c H locs ls' cells slots mc ms C hH hF hL h4 h5 h6 h7
  exact lv_ifnonnull C.1 C.2.1 hd ht (kk B D cA p l e R s m args below meth c H locs ls' cells slots mc ms C hH hF hL h4 h5 h6 h7)
theorem x_ifnonnullN {off : Int} (hd : decode M.2.1 pc = .ok (.ifnonnull off, 3)) (kk : Run M d q1 q2 (pc + 3) ls (st) w n P) : Run M d q1 q2 pc ls (.null :: st) w n P := by
  intro B D cA p l e R s m args below meth c H locs ls' cells slots mc ms C hH hF hL h4 h5 h6 h7
  exact lv_ifnonnullN C.1 C.2.1 hd (kk B D cA p l e R s m args below meth c H locs ls' cells slots mc ms C hH hF hL h4 h5 h6 h7)
/-- the ends -/
theorem x_iret {x : Int32} {ty : FieldType} (hd : decode M.2.1 pc = .ok (.ireturn, 1)) (hr : M.2.2.2 = some ty) (hn : narrow ty (.int x) = .int x) (hP : P (some (.int x)) w n) : Run M d q1 q2 pc ls [.int x] w n P := by
  intro B D cA p l e R s m args below meth c H locs ls' cells slots mc ms C hH hF hL h4 h5 h6 h7
  refine W.widen (k := mc) (n := ms) (by omega) (by omega) ?_
  exact W.zret C.1 C.2.1 (C.2.2.2.1.trans hr) hn (fun t ht _ => ⟨some (.int x), w, n, rfl, hP, by rw [ht]; exact hH, fun q hq => by rw [ht]; exact hF.1 q hq⟩) hF.2 hd C.2.2.2.2.1
theorem x_vret (hd : decode M.2.1 pc = .ok (.return_, 1)) (hr : M.2.2.2 = none) (hP : P none w n) : Run M d q1 q2 pc ls [] w n P := by
  intro B D cA p l e R s m args below meth c H locs ls' cells slots mc ms C hH hF hL h4 h5 h6 h7
  refine W.widen (k := mc) (n := ms) (by omega) (by omega) ?_
  exact W.vret C.1 C.2.1 (C.2.2.2.1.trans hr) (fun t ht _ => ⟨none, w, n, rfl, hP, by rw [ht]; exact hH, fun q hq => by rw [ht]; exact hF.1 q hq⟩) hF.2 hd C.2.2.2.2.1
theorem x_aret {k : Nat} {rt : FieldType} (hd : decode M.2.1 pc = .ok (.areturn, 1)) (hr : M.2.2.2 = some rt) (hrt : (∃ n, rt = .object n) ∨ ∃ t, rt = .array t) (hP : P (some (.ref k)) w n) : Run M d q1 q2 pc ls [.ref k] w n P := by
  intro B D cA p l e R s m args below meth c H locs ls' cells slots mc ms C hH hF hL h4 h5 h6 h7
  refine W.widen (k := mc) (n := ms) (by omega) (by omega) ?_
  exact W.aret C.1 C.2.1 (C.2.2.2.1.trans hr) hrt (Or.inr ⟨_, rfl⟩) (fun t ht _ => ⟨some (.ref k), w, n, rfl, hP, by rw [ht]; exact hH, fun q hq => by rw [ht]; exact hF.1 q hq⟩) hF.2 hd C.2.2.2.2.1
theorem x_aretN {rt : FieldType} (hd : decode M.2.1 pc = .ok (.areturn, 1)) (hr : M.2.2.2 = some rt) (hrt : (∃ n, rt = .object n) ∨ ∃ t, rt = .array t) (hP : P (some .null) w n) : Run M d q1 q2 pc ls [.null] w n P := by
  intro B D cA p l e R s m args below meth c H locs ls' cells slots mc ms C hH hF hL h4 h5 h6 h7
  refine W.widen (k := mc) (n := ms) (by omega) (by omega) ?_
  exact W.aret C.1 C.2.1 (C.2.2.2.1.trans hr) hrt (Or.inl rfl) (fun t ht _ => ⟨some .null, w, n, rfl, hP, by rw [ht]; exact hH, fun q hq => by rw [ht]; exact hF.1 q hq⟩) hF.2 hd C.2.2.2.2.1
end RULES
end
section
/-! the world's cells: fields, arrays -/
section HEAP
variable {M : ax_M} {d q1 q2 pc : Nat} {ls : List (Option Value)} {st : List Value} {w : ax_W} {n : Nat} {P : Option Value → ax_W → Nat → Prop}
theorem ax_vwCl {ci : Nat} {r : vw_C} (h : vwCl[ci]? = some r) : ci < 8 := (List.getElem?_eq_some_iff.mp h).1
/-- the cell at a number that is not dead -/
theorem ax_H.at {B : ax_B} {D : va_G} {cA : FieldType → ClassId} {H : Heap} {a : Nat} {x : ax_C} (h : ax_H B D cA w n H) (hw : w a = x) (hx : x ≠ ax_dead) : a < n ∧ va_at D vwCl (B.1 + a, ax_e B cA x) H := by
  have ha : a < n := by
    rcases Nat.lt_or_ge a n with q | q
    · exact q
    · exact absurd (hw.symm.trans (h.2.2 a q)) hx
  exact ⟨ha, by rw [← hw]; exact h.2.1 a ha⟩
theorem ax_live_i {k : Nat} {f : Nat → Int32} {ty : FieldType} : (Sum.inl (ty, k, f) : ax_C) ≠ ax_dead := fun h => by cases h
theorem ax_live_q {k : Nat} {f : Nat → Option Nat} : aq k f ≠ ax_dead := fun h => by cases h
theorem ax_live_o {ci : Nat} {fs : List Value} {r : vw_C} (h : vwCl[ci]? = some r) : ao ci fs ≠ ax_dead := fun e => by
  have := ax_vwCl h
  have e2 : ci = 99 := by
    have := Sum.inr.inj (Sum.inr.inj e)
    exact (Prod.mk.inj this).1
  omega
theorem va_P_one {D : va_G} {cl : List vw_C} {q : Nat × va_E} {H : Heap} (h : va_at D cl q H) : va_P D cl [q] H := by
  intro k x hx
  have hz : k < 1 := (List.getElem?_eq_some_iff.mp hx).1
  rw [show k = 0 by omega] at hx
  cases hx
  exact h
/-- one cell changed -/
theorem ax_H.put {B : ax_B} {D : va_G} {cA : FieldType → ClassId} {H H1 : Heap} {a : Nat} {x : ax_C} (h : ax_H B D cA w n H) (ha : a < n) (h1 : va_at D vwCl (B.1 + a, ax_e B cA x) H1) (hz : H1.size = H.size) (hq : ∀ q, q ≠ B.1 + a → H1[q]? = H[q]?) : ax_H B D cA (ax_up w a x) n H1 := by
  refine ⟨by rw [hz]; exact h.1, fun k hk => ?_, fun k hk => by rw [up_ne _ _ (by omega)]; exact h.2.2 k hk⟩
  by_cases hka : k = a
  · subst hka
    rw [up_same]
    exact h1
  · rw [up_ne _ _ hka]
    exact (h.2.1 k hk).kept (hq _ (by show B.1 + k ≠ B.1 + a; omega))
theorem ax_F.put {B : ax_B} {s : State} {H H1 : Heap} {locs : List Loc} {a k : Nat} (h : ax_F B s H locs) (hq : ∀ q, q ≠ B.1 + a → H1[q]? = H[q]?) : ax_F B s H1 (locs ++ [⟨B.1 + a, k⟩]) := by
  refine ⟨fun q h1 => by rw [hq q (by omega)]; exact h.1 q h1, fun l hl => ?_⟩
  rcases List.mem_append.mp hl with h1 | h1
  · exact h.2 l h1
  · rw [List.mem_singleton.mp h1]
    exact Nat.le_add_right _ _
/-- what a class's constant pool says of a field: its class and its place there -/
def LkF (own : String) (idx ci k : Nat) : Prop := ∃ (C : String) (T : u_T) (N : Nat), vwCl[ci]? = some (C, T, N) ∧ k < N ∧
  (Cond.fieldLink own idx (T k).1 (T k).2.1 (T k).2.2.1 ∈ TB ∨ ∃ host, Cond.fieldLinkNest own idx (T k).1 (T k).2.1 (T k).2.2.1 host ∈ NB)
/-- the classes' field tables -/
def ClOk (C : String) (T : u_T) (N : Nat) : Prop := (∀ x ∈ u_ws C T N, x ∈ TB) ∧ (∀ a, a < N → ∀ b, b < N → a ≠ b → (T a).2.1 ≠ (T b).2.1) ∧ ∃ ty : Nat → FieldType, ∀ k, k < N → parseFieldDescriptor (T k).2.2.1 = some (ty k)
theorem TB_of {ws : List Cond} (h : ∀ x ∈ ws, x ∈ lw_tbl) (hg : ws.all goodWord = true) : ∀ x ∈ ws, x ∈ TB := fun x hx => TB_in (h x hx) (List.all_eq_true.mp hg x hx)
theorem ClOk_all {ci : Nat} {C : String} {T : u_T} {N : Nat} (h : vwCl[ci]? = some (C, T, N)) : ClOk C T N := by
  have hc := ax_vwCl h
  match ci, hc with
  | 0, _ => cases h; exact ⟨TB_of inX_0 (by decide +kernel), nmX0, _, tyX0_ok⟩
  | 1, _ => cases h; exact ⟨TB_of inX_1 (by decide +kernel), nmX1, _, tyX1_ok⟩
  | 2, _ => cases h; exact ⟨TB_of inX_2 (by decide +kernel), nmX2, _, tyX2_ok⟩
  | 3, _ => cases h; exact ⟨TB_of inX_3 (by decide +kernel), nmX3, _, tyX3_ok⟩
  | 4, _ => cases h; exact ⟨TB_of inX_4 (by decide +kernel), nmX4, _, tyX4_ok⟩
  | 5, _ => cases h; exact ⟨TB_of inX_5 (by decide +kernel), nmX5, _, tyX5_ok⟩
  | 6, _ => cases h; exact ⟨TB_of inX_6 (by decide +kernel), nmX6, _, tyX6_ok⟩
  | 7, _ => cases h; exact ⟨TB_of inX_7 (by decide +kernel), nmX7, _, tyX7_ok⟩
theorem x_getf {idx ci k a : Nat} {fs : List Value} {v : Value} (hd : decode M.2.1 pc = .ok (.getfield idx, 3)) (hl : LkF M.1.cls idx ci k) (hw : w a = ao ci fs) (hv : fs[k]? = some v) (kk : Run M d q1 q2 (pc + 3) ls (v :: st) w n P) : Run M d q1 q2 pc ls (.ref a :: st) w n P := by
  intro B D cA p l e R s m args below meth c H locs ls' cells slots mc ms C hH hF hL h4 h5 h6 h7
  obtain ⟨Cn, T, N, g1, g2, g3⟩ := hl
  obtain ⟨c1, c2, c3⟩ := ClOk_all g1
  obtain ⟨ha, hat⟩ := hH.at hw (ax_live_o g1)
  have hts := C.2.2.2.2.2.2.2.1
  have hU := C.2.2.2.2.2.2.2.2.1
  have hv' : (fs.map (ax_v B))[k]? = some (ax_v B v) := by rw [List.getElem?_map, hv]; rfl
  rcases g3 with g3 | ⟨host, g3⟩
  · exact va_get C.1 C.2.1 hts c1 C.2.2.2.2.2.1 hU.1 (va_P_one hat) 0 rfl g1 k g2 (hts _ g3) (fun _ h => h) hv' hd (kk B D cA p l e R s m args below meth c H locs ls' cells slots mc ms C hH hF hL h4 h5 h6 h7)
  · exact va_getN C.1 C.2.1 hts c1 C.2.2.2.2.2.1 hU.1 (va_P_one hat) 0 rfl g1 k g2 (va_Nw.use (NB_on g3) (hU.2.1 _ g3)) (fun _ h => h) hv' hd (kk B D cA p l e R s m args below meth c H locs ls' cells slots mc ms C hH hF hL h4 h5 h6 h7)
/-- a field that isn't final, of type ty -/
theorem x_putf {idx ci k a : Nat} {fs : List Value} {v : Value} {C : String} {T : u_T} {N : Nat} {ty : FieldType} (hd : decode M.2.1 pc = .ok (.putfield idx, 3)) (hl : LkF M.1.cls idx ci k) (hw : w a = ao ci fs) (hk : Nat.blt k fs.length = true) (hcl : vwCl[ci]? = some (C, T, N)) (hfin : (T k).2.2.2 = false) (hty : parseFieldDescriptor (T k).2.2.1 = some ty) (hn : ∀ B, narrow ty (ax_v B v) = ax_v B v) (hfit : ∀ B, fits ty (ax_v B v) = true) (kk : Run M d q1 q2 (pc + 3) ls st (ax_up w a (ao ci (fs.set k v))) n P) : Run M d q1 q2 pc ls (v :: .ref a :: st) w n P := by
  intro B D cA p l e R s m args below meth c H locs ls' cells slots mc ms X hH hF hL h4 h5 h6 h7
  obtain ⟨Cn, T', N', g1, g2, g3⟩ := hl
  cases hcl.symm.trans g1
  obtain ⟨c1, c2, ty0, c3⟩ := ClOk_all g1
  obtain ⟨ha, hat⟩ := hH.at hw (ax_live_o g1)
  have hts := X.2.2.2.2.2.2.2.1
  have hU := X.2.2.2.2.2.2.2.2.1
  have hap := va_apart (own := M.1.cls) hts c1 ty0 c3 c2 hU.1 g1
  obtain ⟨r, f1, cell, e1, e2, e3, e4⟩ := hat
  have hr : r = (C, T, N) := Option.some.inj (f1.symm.trans g1)
  subst hr
  obtain ⟨hS, hfc, kC, hkC, hkind⟩ := hU.1.1 ci _ g1
  obtain ⟨cf, kf, fi, f, hi, hsl⟩ := hS k g2
  have hlay := hts _ (c1 _ (u_in_lay g2))
  unfold u_lay at hlay
  rw [if_neg (by rw [hfin]; decide)] at hlay
  have hst := (u_facts hfc hkC (u_lays hts c1 g2) hi).1
  have h8 := u_store (v := ax_v B v) hfc hkC hkind hlay hi hty (hn B) (hfit B)
  have hlen : k < (fs.map (ax_v B)).length := by rw [List.length_map]; simpa using hk
  have fin : ∀ H' : Heap, H'[B.1 + a]? = some (cell.setSlot f.slot (ax_v B v)) → H'.size = H.size → (∀ q, q ≠ B.1 + a → H'[q]? = H[q]?) → W p l e R s m args below meth c H' (locs ++ [⟨B.1 + a, f.slot⟩]) cells slots (MQ below (ax_Q B D cA P) args s mc ms (fun a => B.1 ≤ a)) (F0 m (pc + 3) ls' (st.map (ax_v B))) := by
    intro H' i1 i2 i3
    rw [hsl] at i1 ⊢
    have hat' : va_at D vwCl (B.1 + a, ax_e B cA (ao ci (fs.set k v))) H' := by
      refine ⟨_, g1, ?_⟩
      show t_OB _ _ _ _ _ (vp_V ((fs.set k v).map (ax_v B)))
      rw [List.map_set]
      exact t_OB.to (V := updV (vp_V (fs.map (ax_v B))) k (ax_v B v)) ⟨_, i1, e2, e3, t_set e4 hap g2 (ax_v B v)⟩ (fun j _ => vp_updV_set hlen _ j)
    exact kk B D cA p l e R s m args below meth c H' _ ls' cells slots mc ms X (hH.put ha hat' i2 i3) (hF.put i3) hL h4 h5 h6 h7
  rcases g3 with g3 | ⟨host, g3⟩
  · exact W.putK X.1 X.2.1 (f := f) ⟨X.2.2.2.2.2.1, hts _ g3, ⟨_, _, _, hi⟩, hst⟩ (by rw [e2]; exact h8) e1 e3 (by rw [hsl]; exact k2_hasslot (e4 k g2)) rfl rfl hd fin
  · exact va_WputK X.1 X.2.1 (f := f) X.2.2.2.2.2.1 (va_Nw.use (NB_on g3) (hU.2.1 _ g3)) hi hst (by rw [e2]; exact h8) e1 e3 (by rw [hsl]; exact k2_hasslot (e4 k g2)) rfl rfl hd fin
/-- a final field, in its own class's constructor -/
theorem x_putF {idx ci k a : Nat} {fs : List Value} {v : Value} {C : String} {T : u_T} {N : Nat} {ty : FieldType} (hd : decode M.2.1 pc = .ok (.putfield idx, 3)) (hl : Cond.fieldLink M.1.cls idx (T k).1 (T k).2.1 (T k).2.2.1 ∈ TB) (hkN : k < N) (hname : M.1.name = "<init>") (hdecl : (T k).1 = M.1.cls) (hw : w a = ao ci fs) (hk : Nat.blt k fs.length = true) (hcl : vwCl[ci]? = some (C, T, N)) (hfin : (T k).2.2.2 = true) (hty : parseFieldDescriptor (T k).2.2.1 = some ty) (hn : ∀ B, narrow ty (ax_v B v) = ax_v B v) (hfit : ∀ B, fits ty (ax_v B v) = true) (kk : Run M d q1 q2 (pc + 3) ls st (ax_up w a (ao ci (fs.set k v))) n P) : Run M d q1 q2 pc ls (v :: .ref a :: st) w n P := by
  intro B D cA p l e R s m args below meth c H locs ls' cells slots mc ms X hH hF hL h4 h5 h6 h7
  obtain ⟨c1, c2, ty0, c3⟩ := ClOk_all hcl
  obtain ⟨ha, hat⟩ := hH.at hw (ax_live_o hcl)
  have hts := X.2.2.2.2.2.2.2.1
  have hU := X.2.2.2.2.2.2.2.2.1
  have hap := va_apart (own := M.1.cls) hts c1 ty0 c3 c2 hU.1 hcl
  obtain ⟨r, f1, cell, e1, e2, e3, e4⟩ := hat
  have hr : r = (C, T, N) := Option.some.inj (f1.symm.trans hcl)
  subst hr
  obtain ⟨hS, hfc, kC, hkC, hkind⟩ := hU.1.1 ci _ hcl
  obtain ⟨cf, kf, fi, f, hi, hsl⟩ := hS k hkN
  have hlay := hts _ (c1 _ (u_in_lay hkN))
  unfold u_lay at hlay
  rw [if_pos hfin] at hlay
  have hst := (u_facts hfc hkC (u_lays hts c1 hkN) hi).1
  have hcf : m.cls = cf := by
    obtain ⟨_, _, c', _, _, _, -, -, hf', -, -, -, hown2, -⟩ := Cond.laysFinal_spec hlay
    have e1 : c' = cf := by have := hi.symm.trans hf'; simp at this; exact this.1.symm
    rw [hdecl] at hown2
    rw [← e1]; exact Option.some.inj (X.2.2.2.2.2.1.symm.trans hown2)
  have h8 := u_fits (v := ax_v B v) hfc hkC hkind (Or.inr hlay) hi hty (hn B) (hfit B)
  have hlen : k < (fs.map (ax_v B)).length := by rw [List.length_map]; simpa using hk
  refine W.putFinK X.1 X.2.1 X.2.2.2.2.2.1 (hts _ hl) hi hst hcf (X.2.2.2.2.2.2.1.trans hname) (by rw [e2]; exact h8) e1 e3 (by rw [hsl]; exact k2_hasslot (e4 k hkN)) rfl rfl hd fun H' i1 i2 i3 => ?_
  rw [hsl] at i1 ⊢
  have hat' : va_at D vwCl (B.1 + a, ax_e B cA (ao ci (fs.set k v))) H' := by
    refine ⟨_, hcl, ?_⟩
    show t_OB _ _ _ _ _ (vp_V ((fs.set k v).map (ax_v B)))
    rw [List.map_set]
    exact t_OB.to (V := updV (vp_V (fs.map (ax_v B))) k (ax_v B v)) ⟨_, i1, e2, e3, t_set e4 hap hkN (ax_v B v)⟩ (fun j _ => vp_updV_set hlen _ j)
  exact kk B D cA p l e R s m args below meth c H' _ ls' cells slots mc ms X (hH.put ha hat' i2 i3) (hF.put i3) hL h4 h5 h6 h7
theorem x_iald {a N : Nat} {f : Nat → Int32} {i : Int32} (hd : decode M.2.1 pc = .ok (.iaload, 1)) (hw : w a = ai N f) (hi : vp_in i N) (kk : Run M d q1 q2 (pc + 1) ls (.int (f i.toNatClampNeg) :: st) w n P) : Run M d q1 q2 pc ls (.int i :: .ref a :: st) w n P := by
  intro B D cA p l e R s m args below meth c H locs ls' cells slots mc ms C hH hF hL h4 h5 h6 h7
  obtain ⟨ha, hat⟩ := hH.at hw ax_live_i
  exact va_iald C.1 C.2.1 C.2.2.2.2.2.2.2.2.1.1 (va_P_one hat) 0 0 rfl rfl hi hd (kk B D cA p l e R s m args below meth c H locs ls' cells slots mc ms C hH hF hL h4 h5 h6 h7)
theorem x_bald {a N : Nat} {f : Nat → Int32} {i : Int32} (hd : decode M.2.1 pc = .ok (.baload, 1)) (hw : w a = ab N f) (hi : vp_in i N) (kk : Run M d q1 q2 (pc + 1) ls (.int (f i.toNatClampNeg) :: st) w n P) : Run M d q1 q2 pc ls (.int i :: .ref a :: st) w n P := by
  intro B D cA p l e R s m args below meth c H locs ls' cells slots mc ms C hH hF hL h4 h5 h6 h7
  obtain ⟨ha, hat⟩ := hH.at hw ax_live_i
  exact va_bald C.1 C.2.1 C.2.2.2.2.2.2.2.2.1.1 (va_P_one hat) 0 1 rfl rfl hi hd (kk B D cA p l e R s m args below meth c H locs ls' cells slots mc ms C hH hF hL h4 h5 h6 h7)
theorem x_aald {a N : Nat} {f : Nat → Option Nat} {i : Int32} {k : Nat} (hd : decode M.2.1 pc = .ok (.aaload, 1)) (hw : w a = aq N f) (hi : vp_in i N) (hk : f i.toNatClampNeg = some k) (kk : Run M d q1 q2 (pc + 1) ls (.ref k :: st) w n P) : Run M d q1 q2 pc ls (.int i :: .ref a :: st) w n P := by
  intro B D cA p l e R s m args below meth c H locs ls' cells slots mc ms C hH hF hL h4 h5 h6 h7
  obtain ⟨ha, hat⟩ := hH.at hw ax_live_q
  have h8 := kk B D cA p l e R s m args below meth c H locs ls' cells slots mc ms C hH hF hL h4 h5 h6 h7
  refine va_aldq C.1 C.2.1 C.2.2.2.2.2.2.2.2.1.1 (va_P_one hat) 0 2 rfl rfl hi hd ?_
  rw [show va_rf ((f i.toNatClampNeg).map (fun k => B.1 + k)) = .ref (B.1 + k) by rw [hk]; rfl]
  exact h8
theorem x_alenI {a N : Nat} {f : Nat → Int32} (hd : decode M.2.1 pc = .ok (.arraylength, 1)) (hw : w a = ai N f) (kk : Run M d q1 q2 (pc + 1) ls (.int (nI N) :: st) w n P) : Run M d q1 q2 pc ls (.ref a :: st) w n P := by
  intro B D cA p l e R s m args below meth c H locs ls' cells slots mc ms C hH hF hL h4 h5 h6 h7
  obtain ⟨ha, hat⟩ := hH.at hw ax_live_i
  exact va_alen C.1 C.2.1 C.2.2.2.2.2.2.2.2.1.1 (va_P_one hat) 0 0 rfl rfl rfl hd (kk B D cA p l e R s m args below meth c H locs ls' cells slots mc ms C hH hF hL h4 h5 h6 h7)
theorem x_alenQ {a N : Nat} {f : Nat → Option Nat} (hd : decode M.2.1 pc = .ok (.arraylength, 1)) (hw : w a = aq N f) (kk : Run M d q1 q2 (pc + 1) ls (.int (nI N) :: st) w n P) : Run M d q1 q2 pc ls (.ref a :: st) w n P := by
  intro B D cA p l e R s m args below meth c H locs ls' cells slots mc ms C hH hF hL h4 h5 h6 h7
  obtain ⟨ha, hat⟩ := hH.at hw ax_live_q
  exact va_alen C.1 C.2.1 C.2.2.2.2.2.2.2.2.1.1 (va_P_one hat) 0 2 rfl rfl rfl hd (kk B D cA p l e R s m args below meth c H locs ls' cells slots mc ms C hH hF hL h4 h5 h6 h7)
theorem x_iast {a N : Nat} {f : Nat → Int32} {i x : Int32} (hd : decode M.2.1 pc = .ok (.iastore, 1)) (hw : w a = ai N f) (hi : vp_in i N) (kk : Run M d q1 q2 (pc + 1) ls st (ax_up w a (ai N (upd f i.toNatClampNeg x))) n P) : Run M d q1 q2 pc ls (.int x :: .int i :: .ref a :: st) w n P := by
  intro B D cA p l e R s m args below meth c H locs ls' cells slots mc ms C hH hF hL h4 h5 h6 h7
  obtain ⟨ha, hat⟩ := hH.at hw ax_live_i
  refine W.iast C.1 C.2.1 hat ((C.2.2.2.2.2.2.2.2.1.1.2 0 _ rfl).1 N (fun j => .int (f j))) (fun q => by cases q) (by show ¬ (i < 0 ∨ (arrV _ _ _).slots.size ≤ _); rw [arrV_size]; exact hi) rfl rfl hd fun H1 e1 z oq => ?_
  refine kk B D cA p l e R s m args below meth c H1 _ ls' cells slots mc ms C (hH.put ha ?_ z oq) (hF.put oq) hL h4 h5 h6 h7
  show H1[B.1 + a]? = some (vp_cell _ _)
  rw [e1]
  show some ((vp_cell (cA .int) (N, .inl f)).setSlot _ _) = some (vp_cell (cA .int) (N, .inl (upd f i.toNatClampNeg x)))
  rw [vp_cell_i, vp_cell_i, arrV_store]
  congr 2
  funext q
  by_cases hq : q = i.toNatClampNeg
  · subst hq
    simp [updV, upd]
  · simp [updV, upd, hq]
theorem x_bast {a N : Nat} {f : Nat → Int32} {i x : Int32} (hd : decode M.2.1 pc = .ok (.bastore, 1)) (hw : w a = ab N f) (hi : vp_in i N) (kk : Run M d q1 q2 (pc + 1) ls st (ax_up w a (ab N (upd f i.toNatClampNeg (vp_nar .byte x)))) n P) : Run M d q1 q2 pc ls (.int x :: .int i :: .ref a :: st) w n P := by
  intro B D cA p l e R s m args below meth c H locs ls' cells slots mc ms C hH hF hL h4 h5 h6 h7
  obtain ⟨ha, hat⟩ := hH.at hw ax_live_i
  refine W.bast C.1 C.2.1 hat ((C.2.2.2.2.2.2.2.2.1.1.2 1 _ rfl).1 N (fun j => .int (f j))) (fun q => by cases q) (by show ¬ (i < 0 ∨ (arrV _ _ _).slots.size ≤ _); rw [arrV_size]; exact hi) rfl rfl hd fun H1 e1 z oq => ?_
  refine kk B D cA p l e R s m args below meth c H1 _ ls' cells slots mc ms C (hH.put ha ?_ z oq) (hF.put oq) hL h4 h5 h6 h7
  show H1[B.1 + a]? = some (vp_cell _ _)
  rw [e1]
  show some ((vp_cell (cA .byte) (N, .inl f)).setSlot _ _) = some (vp_cell (cA .byte) (N, .inl (upd f i.toNatClampNeg (vp_nar .byte x))))
  rw [vp_cell_i, vp_cell_i, arrV_store]
  congr 2
  funext q
  by_cases hq : q = i.toNatClampNeg
  · subst hq
    simp [updV, upd, vp_nar]
    try rfl
  · simp [updV, upd, hq]
theorem x_aast {a N ci v : Nat} {vs : List Value} {f : Nat → Option Nat} {i : Int32} (hd : decode M.2.1 pc = .ok (.aastore, 1)) (hw : w a = aq N f) (hv : w v = ao 1 vs) (hi : vp_in i N) (kk : Run M d q1 q2 (pc + 1) ls st (ax_up w a (aq N (va_up f i.toNatClampNeg (some v)))) n P) : Run M d q1 q2 pc ls (.ref v :: .int i :: .ref a :: st) w n P := by
  intro B D cA p l e R s m args below meth c H locs ls' cells slots mc ms C hH hF hL h4 h5 h6 h7
  obtain ⟨ha, hat⟩ := hH.at hw ax_live_q
  have hcl : vwCl[1]? = some (RX1, TX1, 3) := rfl
  obtain ⟨hva, hvat⟩ := hH.at hv (ax_live_o hcl)
  have hlt : i.toNatClampNeg < N := Nat.not_le.mp fun q => hi (Or.inr q)
  have h0 : ¬ i < 0 := fun q => hi (Or.inl q)
  obtain ⟨r', hr', cellV, g1, g2, g3, -⟩ := hvat
  have hU := C.2.2.2.2.2.2.2.2.1.1
  have hcls := (hU.1 1 _ hcl).2
  obtain ⟨kA, comp, k1, k2, k3, -⟩ := (hU.2 2 _ rfl).2
  have hcomp : comp = D.1 1 := Option.some.inj (k3.symm.trans hcls.1)
  subst hcomp
  obtain ⟨kC, hkC, -⟩ := hcls.2
  refine W.aast C.1 C.2.1 hat (fun q h => by cases h) (fun h => by cases h) k1 k2 rfl hkC ⟨h0, by show _ < (arrV _ _ _).slots.size; rw [arrV_size]; exact hlt⟩ g1 (fun q h => by rw [g3] at h; cases h) (by rw [g2]; exact hkC) (by rw [g2]; exact va_assign hcls) rfl rfl hd fun H1 e1 z oq => ?_
  refine kk B D cA p l e R s m args below meth c H1 _ ls' cells slots mc ms C (hH.put ha ?_ z oq) (hF.put oq) hL h4 h5 h6 h7
  show H1[B.1 + a]? = some (vp_cell _ _)
  rw [e1]
  show some ((vp_cell (cA ty_H) (N, .inr (.inr (.inr (.inr (fun j => (f j).map (fun k => B.1 + k))))))).setSlot _ _) = some (vp_cell (cA ty_H) (N, .inr (.inr (.inr (.inr (fun j => (va_up f i.toNatClampNeg (some v) j).map (fun k => B.1 + k)))))))
  rw [vp_cell_q, vp_cell_q, arrV_store]
  congr 2
  funext q
  by_cases hq : q = i.toNatClampNeg
  · subst hq
    simp [updV, va_up, va_rf]
  · simp [updV, va_up, hq]
end HEAP
end
section
/-! calls, new cells, arraycopy -/
def wsOf (M : ax_M) : List Cond := .code M.1 M.2.1 M.2.2.1 M.2.2.2 :: TB
def rmOf (d a1 a2 : Nat) : Room := { frames := d, cells := a1, slots := a2, locals := 40 * d }
def l_ent (M : ax_M) (As : List Value) : List (Option Value) := As.map some ++ List.replicate (M.2.2.1 - As.length) none
theorem lv_args_at : ∀ (vs : List Value) (k i : Nat) (v : Value), (∀ x ∈ vs, x.category = 1) → vs[i]? = some v → (k + i, v) ∈ lv_args k vs
  | [], _, _, _, _, h => by simp at h
  | x :: xs, k, 0, v, hc, h => by
    simp at h
    subst h
    simp [lv_args]
  | x :: xs, k, i + 1, v, hc, h => by
    have hx : ¬ x.category = 2 := by rw [hc x List.mem_cons_self]; decide
    simp only [lv_args, if_neg hx]
    refine List.mem_cons_of_mem _ ?_
    have := lv_args_at xs (k + 1) i v (fun y hy => hc y (List.mem_cons_of_mem _ hy)) (by simpa using h)
    rw [show k + (i + 1) = k + 1 + i by omega]
    exact this
theorem lg_sl_len : ∀ (vs : List Value), (∀ x ∈ vs, x.category = 1) → (lg_sl vs).length = vs.length
  | [], _ => rfl
  | x :: xs, hc => by
    have hx : ¬ x.category = 2 := by rw [hc x List.mem_cons_self]; decide
    have := lg_sl_len xs (fun y hy => hc y (List.mem_cons_of_mem _ hy))
    simp only [lg_sl, List.flatMap_cons, if_neg hx, List.length_append, List.length_cons] at this ⊢
    simp at this ⊢
    omega
def cat1 (As : List Value) : Bool := As.all fun v => v.category == 1
theorem met_of {M : ax_M} {d a1 a2 : Nat} {As : List Value} {w : ax_W} {n : Nat} {P : Option Value → ax_W → Nat → Prop} (hpl : plainName M.1.cls = true) (hcat : cat1 As = true) (hlen : As.length ≤ M.2.2.1) (h : Run M d a1 a2 0 (l_ent M As) [] w n P) (l : Launch) (B : ax_B) (D : va_G) (cA : FieldType → ClassId) :
    Met l M.1 (wsOf M) (rmOf d a1 a2) (va_Pc (As.map (ax_v B)) (fun U => ax_H B D cA w n U.heap ∧ ax_U B D cA U)) (ax_Q B D cA P) a1 a2 (fun a => B.1 ≤ a) := by
  refine Met.ofW (cc := M.2.1) (maxL := M.2.2.1) (ret := M.2.2.2) hpl rfl ?_
  intro p e s m args below meth c s₁ Bd hml hv
  obtain ⟨rfl, hH, hU⟩ := hv
  have hts := atoms_spec (ws := wsOf M) Bd.pre
  have hcat' : ∀ x ∈ As.map (ax_v B), x.category = 1 := by
    intro x hx
    obtain ⟨y, hy, rfl⟩ := List.mem_map.mp hx
    rw [ax_cat]
    simpa using List.all_eq_true.mp hcat y hy
  have hl := lv_entry (As.map (ax_v B)) (n := M.2.2.1) (by rw [lg_sl_len _ hcat', List.length_map]; exact hlen)
  rw [lg_entry_eq]
  generalize (lg_sl (As.map (ax_v B)) ++ List.replicate (M.2.2.1 - (lg_sl (As.map (ax_v B))).length) Slot.unset).toArray = ls' at hl ⊢
  refine h B D cA p l e _ s m _ below meth c s.heap [] ls' 0 0 a1 a2 ⟨Bd.exec, Bd.bytes, hml, Bd.returns, Bd.notSynchronized, findClass_of_methodNamed Bd.named, (name_of_methodNamed Bd.named Bd.method).1, fun w hw => hts w (List.mem_cons_of_mem _ hw), hU, Nat.le_refl _, Nat.le_refl _⟩ hH ⟨fun _ _ => rfl, fun _ h => by cases h⟩ ?_ (by omega) (by omega) (Nat.le_refl _) (Nat.le_refl _)
  refine ⟨hl.1, hl.2.1, by simp [l_ent]; omega, fun i v hv => ?_⟩
  have hi : As[i]? = some v := by
    unfold l_ent at hv
    rcases Nat.lt_or_ge i As.length with q | q
    · rw [List.getElem?_append_left (by simpa using q), List.getElem?_map] at hv
      cases hx : As[i]? with
      | none => rw [hx] at hv; simp at hv
      | some y => rw [hx] at hv; simpa using hv
    · rw [List.getElem?_append_right (by simpa using q), List.getElem?_replicate] at hv
      split at hv <;> simp at hv
  have h2 := lv_args_at (As.map (ax_v B)) 0 i (ax_v B v) hcat' (by rw [List.getElem?_map, hi]; rfl)
  rw [Nat.zero_add] at h2
  exact hl.2.2 _ h2
def Lk0 (M' : ax_M) (k : Nat) : Prop := Cond.code M'.1 M'.2.1 M'.2.2.1 M'.2.2.2 ∈ TB ∧ Cond.initialized M'.1.cls ∈ TB ∧ (M'.1.cls ≠ "java/lang/invoke/MethodHandle" ∧ M'.1.cls ≠ "java/lang/invoke/VarHandle" ∧ (parseMethodDescriptor M'.1.desc).map (fun d => d.parameters.length) = some k) ∧ plainName M'.1.cls = true ∧ M'.2.2.1 ≤ 21
def LkI (own : String) (idx : Nat) (M' : ax_M) : Prop := Cond.methodLink own idx M'.1 ∈ TB ∨ ∃ host, Cond.methodLinkNest own idx M'.1 host ∈ NB
def LkS (own : String) (idx : Nat) (M' : ax_M) (k : Nat) : Prop := Lk0 M' k ∧ LkI own idx M' ∧ Cond.static M'.1 ∈ TB
def LkV (own : String) (idx : Nat) (M' : ax_M) (k : Nat) : Prop := Lk0 M' k ∧ LkI own idx M' ∧ Cond.instanceMethod M'.1 ∈ TB ∧ Cond.selects M'.1.cls M'.1 M'.1 ∈ TB
def LkN (own : String) (idx : Nat) (M' : ax_M) (k : Nat) : Prop := Lk0 M' k ∧ LkI own idx M' ∧ M'.1.name = "<init>" ∧ M'.2.2.2 = none ∧ Cond.instanceMethod M'.1 ∈ TB
section CALLS
variable {M : ax_M} {d q1 q2 pc : Nat} {ls : List (Option Value)} {st : List Value} {w : ax_W} {n : Nat} {P : Option Value → ax_W → Nat → Prop}
theorem ws_pay {M' : ax_M} {s : State} {args : Array Value} (hts : ∀ w ∈ TB, w.before args s = true) (hc : Cond.code M'.1 M'.2.1 M'.2.2.1 M'.2.2.2 ∈ TB) : ∀ w ∈ wsOf M', ∀ (a' : Array Value) (U : State), s.WarmedH U.vm → w.before a' U = true := by
  intro w hw a' U hW
  have h1 : w ∈ TB := by
    rcases List.mem_cons.mp hw with h | h
    · rw [h]; exact hc
    · exact h
  exact word_at hW (good_of_word (TB_good w h1)) (hts w h1)
/-- behind a call -/
theorem ax_go {B : ax_B} {D : va_G} {cA : FieldType → ClassId} {p : Program} {l : Launch} {e : Env} {R : Room} {s : State} {m : MethodId} {args : Array Value} {below : List Frame} {meth : Method} {c : Code} {H : Heap} {locs : List Loc} {ls' : Array Slot} {cells slots a1 a2 : Nat} {st0 : List Value} {aa : Array Value} {Q : State → Prop} {P' : Option Value → ax_W → Nat → Prop}
    (hr : va_Run p l e R s m args below meth c H locs cells slots a1 a2 (F0 m pc ls' st0) (st.map (ax_v B)) (ax_Q B D cA P' aa) (fun a => B.1 ≤ a)) (hF : ax_F B s H locs)
    (kk : ∀ (r : Option Value) (w' : ax_W) (n' : Nat) (H' : Heap) (locs' : List Loc), P' r w' n' → ax_H B D cA w' n' H' → ax_F B s H' locs' → W p l e R s m args below meth c H' locs' (cells + a1) (slots + a2) Q (F0 m (pc + 3) ls' ((r.toList ++ st).map (ax_v B)))) : W p l e R s m args below meth c H locs cells slots Q (F0 m pc ls' st0) := by
  intro T hT X
  obtain ⟨v, st₀, t, T', L, h0, X', hL, e1, e2, ⟨r, w', n', hv, hp, hH, hq⟩, stp⟩ := hr T hT X
  have hv' : v = r.map (ax_v B) := by injection hv
  subst hv'
  obtain ⟨t2, b1, b2⟩ := kk r w' n' T'.heap (locs ++ L) hp (by rw [e1]; exact hH) ⟨fun q hq1 => by rw [e1, hq q hq1, h0]; exact hF.1 q hq1, fun q hq1 => by
    rcases List.mem_append.mp hq1 with h | h
    · exact hF.2 q h
    · exact hL q h⟩ T' rfl X'
  refine ⟨t2, stp t2 ?_, b2⟩
  have e3 : ((r.map (ax_v B)).toList ++ st.map (ax_v B)) = (r.toList ++ st).map (ax_v B) := by cases r <;> simp
  rw [e3]
  exact b1
theorem ax_pre {B : ax_B} {D : va_G} {cA : FieldType → ClassId} {s : State} {H : Heap} {locs : List Loc} {As : List Value} (hH : ax_H B D cA w n H) (hF : ax_F B s H locs) (hU0 : ax_U B D cA s) : FrameBlind (va_Pc (As.map (ax_v B)) (fun U => ax_H B D cA w n U.heap ∧ ax_U B D cA U)) ∧ ∀ U : State, U.heap = H → s.WarmedH U.vm → va_Pc (As.map (ax_v B)) (fun U => ax_H B D cA w n U.heap ∧ ax_U B D cA U) (As.map (ax_v B)).toArray U :=
  ⟨fun a U g mk q => ⟨q.1, q.2.1, ax_U_go (s := U) (U := U.calling g mk a) (State.WarmedH.refl U) q.2.2.2.2.1 (fun _ _ => rfl) q.2.2⟩,
    fun U hU hW => ⟨rfl, by rw [hU]; exact hH, ax_U_go hW (by rw [hU, hH.1]; omega) (fun q hq => by rw [hU]; exact hF.1 q hq) hU0⟩⟩
theorem ax_room {M' : ax_M} {d' a1 a2 k : Nat} {R : Room} (h0 : Lk0 M' k) (hdd : d' < d) (h1 : d ≤ R.frames) (h2 : 40 * d ≤ R.locals) : (rmOf d' a1 a2).frames + 1 ≤ R.frames ∧ 8 + (M'.2.2.1 + 11) + (rmOf d' a1 a2).locals ≤ R.locals := by
  have h3 := h0.2.2.2.2
  show d' + 1 ≤ R.frames ∧ 8 + (M'.2.2.1 + 11) + 40 * d' ≤ R.locals
  omega
theorem ax_hW {B : ax_B} {m : MethodId} {ls' : Array Slot} {st0 : List Value} (hst : Nat.ble (st.map fun v => v.category).sum 8 = true) : 2 * (F0 m pc ls' st0).monitorRoom + ((st.map (ax_v B)).map fun v => v.category).sum ≤ 8 := by
  rw [ax_cats]
  have := Nat.le_of_ble_eq_true hst
  show 2 * 0 + _ ≤ 8
  omega
/-- a static method of ours -/
theorem x_cs {M' : ax_M} {d' a1 a2 idx : Nat} {As : List Value} {P' : Option Value → ax_W → Nat → Prop} (hd : decode M.2.1 pc = .ok (.invokestatic idx, 3)) (hl : LkS M.1.cls idx M' As.length) (hdd : d' < d) (hcat : cat1 As = true) (hlen : Nat.ble As.length M'.2.2.1 = true) (hst : Nat.ble (st.map fun v => v.category).sum 8 = true) (hc : Run M' d' a1 a2 0 (l_ent M' As) [] w n P') (kk : ∀ r w' n', P' r w' n' → Run M d q1 q2 (pc + 3) ls (r.toList ++ st) w' n' P) : Run M d (a1 + q1) (a2 + q2) pc ls (As.reverse ++ st) w n P := by
  intro B D cA p l e R s m args below meth c H locs ls' cells slots mc ms C hH hF hL h4 h5 h6 h7
  obtain ⟨h0, hi, hs⟩ := hl
  have hts := C.2.2.2.2.2.2.2.1
  have hU := C.2.2.2.2.2.2.2.2.1
  have hM := met_of h0.2.2.2.1 hcat (Nat.le_of_ble_eq_true hlen) hc l B D cA
  have hpre := ax_pre (As := As) hH hF hU
  obtain ⟨hR1, hR2⟩ := ax_room (a1 := a1) (a2 := a2) h0 hdd C.2.2.2.2.2.2.2.2.2.1 C.2.2.2.2.2.2.2.2.2.2
  have hsz : ls'.size = M.2.2.1 := hL.1
  have hdesc : ∀ sig, parseMethodDescriptor M'.1.desc = some sig → As.length = sig.parameters.length := fun sig h => by
    have h2 := h0.2.2.1.2.2
    rw [h] at h2
    exact (Option.some.inj h2).symm
  have hr : va_Run p l e R s m args below meth c H locs cells slots a1 a2 (F0 m pc ls' ((As.reverse ++ st).map (ax_v B))) (st.map (ax_v B)) (ax_Q B D cA P' (As.map (ax_v B)).toArray) (fun a => B.1 ≤ a) := by
    have hstack : (F0 m pc ls' ((As.reverse ++ st).map (ax_v B))).stack = (As.map (ax_v B)).reverse ++ st.map (ax_v B) := by simp [List.map_append, List.map_reverse]
    rcases hi with hi | ⟨host, hi⟩
    · exact va_runS (As := As.map (ax_v B)) ⟨C.1, C.2.1, C.2.2.1, C.2.2.2.2.2.1, hts⟩ hM ⟨⟨rfl, rfl, hR1, hR2, ws_pay hts h0.1, List.mem_cons_self, hts _ h0.1, hts _ h0.2.1, ⟨h0.2.2.1.1, h0.2.2.1.2.1⟩, hdesc, hts _ hi⟩, hts _ hs⟩ hpre rfl (by simp) hsz hstack (ax_hW hst) hd ⟨by omega, by omega⟩
    · exact va_runSN (As := As.map (ax_v B)) ⟨C.1, C.2.1, C.2.2.1, C.2.2.2.2.2.1, hts⟩ hM ⟨⟨⟨rfl, rfl, hR1, hR2, ws_pay hts h0.1, List.mem_cons_self⟩, hts _ h0.1, hts _ h0.2.1, ⟨h0.2.2.1.1, h0.2.2.1.2.1⟩, hdesc, va_Nw.use (NB_on hi) (hU.2.1 _ hi)⟩, hts _ hs, trivial⟩ hpre rfl (by simp) hsz hstack (ax_hW hst) hd ⟨by omega, by omega⟩
  exact ax_go hr hF fun r w' n' H' locs' hp hH' hF' => kk r w' n' hp B D cA p l e R s m args below meth c H' locs' ls' (cells + a1) (slots + a2) mc ms C hH' hF' hL (by omega) (by omega) h6 h7
/-- a method of an object of ours -/
theorem x_cv {M' : ax_M} {d' a1 a2 idx b ci N : Nat} {T : u_T} {fs As : List Value} {P' : Option Value → ax_W → Nat → Prop} (hd : decode M.2.1 pc = .ok (.invokevirtual idx, 3)) (hl : LkV M.1.cls idx M' As.length) (hw : w b = ao ci fs) (hcl : vwCl[ci]? = some (M'.1.cls, T, N)) (hdd : d' < d) (hcat : cat1 As = true) (hlen : Nat.blt As.length M'.2.2.1 = true) (hst : Nat.ble (st.map fun v => v.category).sum 8 = true) (hc : Run M' d' a1 a2 0 (l_ent M' (.ref b :: As)) [] w n P') (kk : ∀ r w' n', P' r w' n' → Run M d q1 q2 (pc + 3) ls (r.toList ++ st) w' n' P) : Run M d (a1 + q1) (a2 + q2) pc ls (As.reverse ++ .ref b :: st) w n P := by
  intro B D cA p l e R s m args below meth c H locs ls' cells slots mc ms C hH hF hL h4 h5 h6 h7
  obtain ⟨h0, hi, hin, hse⟩ := hl
  have hts := C.2.2.2.2.2.2.2.1
  have hU := C.2.2.2.2.2.2.2.2.1
  have hlen' : As.length < M'.2.2.1 := by simpa using hlen
  have hM := met_of h0.2.2.2.1 (As := .ref b :: As) (by simpa [cat1, Value.category] using hcat) (by simp; omega) hc l B D cA
  have hpre := ax_pre (As := .ref b :: As) hH hF hU
  obtain ⟨ha, hat⟩ := hH.at hw (ax_live_o hcl)
  have hrecv := va_recv hU.1 (va_P_one hat) hcl (q0 := 0) rfl
  obtain ⟨hR1, hR2⟩ := ax_room (a1 := a1) (a2 := a2) h0 hdd C.2.2.2.2.2.2.2.2.2.1 C.2.2.2.2.2.2.2.2.2.2
  have hsz : ls'.size = M.2.2.1 := hL.1
  have hdesc : ∀ sig, parseMethodDescriptor M'.1.desc = some sig → As.length = sig.parameters.length := fun sig h => by
    have h2 := h0.2.2.1.2.2
    rw [h] at h2
    exact (Option.some.inj h2).symm
  have hr : va_Run p l e R s m args below meth c H locs cells slots a1 a2 (F0 m pc ls' ((As.reverse ++ .ref b :: st).map (ax_v B))) (st.map (ax_v B)) (ax_Q B D cA P' ((Value.ref b :: As).map (ax_v B)).toArray) (fun a => B.1 ≤ a) := by
    have hstack : (F0 m pc ls' ((As.reverse ++ .ref b :: st).map (ax_v B))).stack = (As.map (ax_v B)).reverse ++ .ref (B.1 + b) :: st.map (ax_v B) := by simp [List.map_append, List.map_reverse, ax_v]
    rcases hi with hi | ⟨host, hi⟩
    · exact va_runV (As := As.map (ax_v B)) ⟨C.1, C.2.1, C.2.2.1, C.2.2.2.2.2.1, hts⟩ hM ⟨⟨rfl, rfl, hR1, hR2, ws_pay hts h0.1, List.mem_cons_self, hts _ h0.1, hts _ h0.2.1, ⟨h0.2.2.1.1, h0.2.2.1.2.1⟩, hdesc, hts _ hi⟩, hts _ hin, hts _ hse⟩ ⟨hpre.1, hrecv, hpre.2⟩ rfl (by simp) hsz hstack (ax_hW hst) hd ⟨by omega, by omega⟩
    · exact va_runVN (As := As.map (ax_v B)) ⟨C.1, C.2.1, C.2.2.1, C.2.2.2.2.2.1, hts⟩ hM ⟨⟨⟨rfl, rfl, hR1, hR2, ws_pay hts h0.1, List.mem_cons_self⟩, hts _ h0.1, hts _ h0.2.1, ⟨h0.2.2.1.1, h0.2.2.1.2.1⟩, hdesc, va_Nw.use (NB_on hi) (hU.2.1 _ hi)⟩, hts _ hin, hts _ hse⟩ ⟨hpre.1, hrecv, hpre.2⟩ rfl (by simp) hsz hstack (ax_hW hst) hd ⟨by omega, by omega⟩
  exact ax_go hr hF fun r w' n' H' locs' hp hH' hF' => kk r w' n' hp B D cA p l e R s m args below meth c H' locs' ls' (cells + a1) (slots + a2) mc ms C hH' hF' hL (by omega) (by omega) h6 h7
/-- a constructor of ours -/
theorem x_ci {M' : ax_M} {d' a1 a2 idx b : Nat} {As : List Value} {P' : Option Value → ax_W → Nat → Prop} (hd : decode M.2.1 pc = .ok (.invokespecial idx, 3)) (hl : LkN M.1.cls idx M' As.length) (hdd : d' < d) (hcat : cat1 As = true) (hlen : Nat.blt As.length M'.2.2.1 = true) (hst : Nat.ble (st.map fun v => v.category).sum 8 = true) (hc : Run M' d' a1 a2 0 (l_ent M' (.ref b :: As)) [] w n P') (kk : ∀ r w' n', P' r w' n' → Run M d q1 q2 (pc + 3) ls (r.toList ++ st) w' n' P) : Run M d (a1 + q1) (a2 + q2) pc ls (As.reverse ++ .ref b :: st) w n P := by
  intro B D cA p l e R s m args below meth c H locs ls' cells slots mc ms C hH hF hL h4 h5 h6 h7
  obtain ⟨h0, hi, hnm, hret, hin⟩ := hl
  obtain ⟨y, bytes, maxL, ret⟩ := M'
  have hret' : ret = none := hret
  subst hret'
  have hts := C.2.2.2.2.2.2.2.1
  have hU := C.2.2.2.2.2.2.2.2.1
  have hlen' : As.length < maxL := by simpa using hlen
  have hM := met_of h0.2.2.2.1 (As := .ref b :: As) (by simpa [cat1, Value.category] using hcat) (by show As.length + 1 ≤ maxL; omega) hc l B D cA
  have hpre := ax_pre (As := .ref b :: As) hH hF hU
  obtain ⟨hR1, hR2⟩ := ax_room (a1 := a1) (a2 := a2) h0 hdd C.2.2.2.2.2.2.2.2.2.1 C.2.2.2.2.2.2.2.2.2.2
  have hsz : ls'.size = M.2.2.1 := hL.1
  have hdesc : ∀ sig, parseMethodDescriptor y.desc = some sig → As.length = sig.parameters.length := fun sig h => by
    have h2 := h0.2.2.1.2.2
    rw [h] at h2
    exact (Option.some.inj h2).symm
  have hr : va_Run p l e R s m args below meth c H locs cells slots a1 a2 (F0 m pc ls' ((As.reverse ++ .ref b :: st).map (ax_v B))) (st.map (ax_v B)) (ax_Q B D cA P' ((Value.ref b :: As).map (ax_v B)).toArray) (fun a => B.1 ≤ a) := by
    have hstack : (F0 m pc ls' ((As.reverse ++ .ref b :: st).map (ax_v B))).stack = (As.map (ax_v B)).reverse ++ .ref (B.1 + b) :: st.map (ax_v B) := by simp [List.map_append, List.map_reverse, ax_v]
    rcases hi with hi | ⟨host, hi⟩
    · exact va_runI (As := As.map (ax_v B)) ⟨C.1, C.2.1, C.2.2.1, C.2.2.2.2.2.1, hts⟩ hM ⟨⟨rfl, rfl, hR1, hR2, ws_pay hts h0.1, List.mem_cons_self, hts _ h0.1, hts _ h0.2.1, ⟨h0.2.2.1.1, h0.2.2.1.2.1⟩, hdesc, hts _ hi⟩, hnm, hts _ hin⟩ hpre rfl (by simp) hsz hstack (ax_hW hst) hd ⟨by omega, by omega⟩
    · exact va_runIN (As := As.map (ax_v B)) ⟨C.1, C.2.1, C.2.2.1, C.2.2.2.2.2.1, hts⟩ hM ⟨⟨⟨rfl, rfl, hR1, hR2, ws_pay hts h0.1, List.mem_cons_self⟩, hts _ h0.1, hts _ h0.2.1, ⟨h0.2.2.1.1, h0.2.2.1.2.1⟩, hdesc, va_Nw.use (NB_on hi) (hU.2.1 _ hi)⟩, hnm, hts _ hin⟩ hpre rfl (by simp) hsz hstack (ax_hW hst) hd ⟨by omega, by omega⟩
  exact ax_go hr hF fun r w' n' H' locs' hp hH' hF' => kk r w' n' hp B D cA p l e R s m args below meth c H' locs' ls' (cells + a1) (slots + a2) mc ms C hH' hF' hL (by omega) (by omega) h6 h7
theorem x_objInit {idx a : Nat} (hd : decode M.2.1 pc = .ok (.invokespecial idx, 3)) (h1 : Cond.methodLink M.1.cls idx objectInit ∈ TB) (h2 : Cond.instanceMethod objectInit ∈ TB) (h3 : Cond.code objectInit ⟨#[0xb1]⟩ 1 none ∈ TB) (hdd : 0 < d) (hst : Nat.ble (st.map fun v => v.category).sum 8 = true) (kk : Run M d q1 q2 (pc + 3) ls st w n P) : Run M d q1 q2 pc ls (.ref a :: st) w n P := by
  intro B D cA p l e R s m args below meth c H locs ls' cells slots mc ms C hH hF hL h4 h5 h6 h7
  have hts := C.2.2.2.2.2.2.2.1
  have hsz : ls'.size = M.2.2.1 := hL.1
  have hfr := C.2.2.2.2.2.2.2.2.2.1
  have hlo := C.2.2.2.2.2.2.2.2.2.2
  refine W.objInit (a := B.1 + a) (rest := st.map (ax_v B)) C.1 C.2.1 C.2.2.2.2.2.1 (hts _ h1) (hts _ h2) (hts _ h3) rfl (hsz.trans C.2.2.1.symm) rfl hd (by omega) ?_ ?_
  · have := ax_hW (B := B) (m := m) (pc := pc) (ls' := ls') (st0 := []) hst
    change 2 * 0 + _ ≤ _ at this
    show 2 * 0 + _ + 12 ≤ _
    omega
  · exact kk B D cA p l e R s m args below meth c H locs ls' cells slots mc ms C hH hF hL h4 h5 h6 h7
/-! new cells -/
theorem ax_H.push {B : ax_B} {D : va_G} {cA : FieldType → ClassId} {H H1 : Heap} {x : ax_C} (h : ax_H B D cA w n H) (h1 : va_at D vwCl (B.1 + n, ax_e B cA x) H1) (hz : H1.size = H.size + 1) (hq : ∀ q, q < H.size → H1[q]? = H[q]?) : ax_H B D cA (ax_up w n x) (n + 1) H1 := by
  have h0 := h.1
  refine ⟨by rw [hz, h0]; omega, fun k hk => ?_, fun k hk => by rw [up_ne _ _ (by omega)]; exact h.2.2 k (by omega)⟩
  by_cases hka : k = n
  · subst hka
    rw [up_same]
    exact h1
  · rw [up_ne _ _ hka]
    exact (h.2.1 k (by omega)).kept (hq _ (by show B.1 + k < H.size; omega))
theorem ax_F.push {B : ax_B} {D : va_G} {cA : FieldType → ClassId} {s : State} {H H1 : Heap} {locs : List Loc} (h : ax_F B s H locs) (hH : ax_H B D cA w n H) (hq : ∀ q, q < H.size → H1[q]? = H[q]?) : ax_F B s H1 locs := by
  have h0 := hH.1
  exact ⟨fun q h1 => by rw [hq q (by omega)]; exact h.1 q h1, h.2⟩
theorem x_new {idx ci N : Nat} {C : String} {T : u_T} {fs : List Value} (hd : decode M.2.1 pc = .ok (.new idx, 3)) (hcl : vwCl[ci]? = some (C, T, N)) (h1 : Cond.classLink M.1.cls idx C ∈ TB) (h2 : Cond.instantiable C N ∈ TB) (h3 : Cond.initialized C ∈ TB) (hfs : ∀ ty : Nat → FieldType, (∀ k, k < N → parseFieldDescriptor (T k).2.2.1 = some (ty k)) → ∀ j, j < N → defaultValue (ty j) = vp_V fs j) (hfs0 : ∀ B, fs.map (ax_v B) = fs) (kk : Run M d q1 q2 (pc + 3) ls (.ref n :: st) (ax_up w n (ao ci fs)) (n + 1) P) : Run M d (1 + q1) (N + q2) pc ls st w n P := by
  intro B D cA p l e R s m args below meth c H locs ls' cells slots mc ms X hH hF hL h4 h5 h6 h7
  have hts := X.2.2.2.2.2.2.2.1
  have hU := X.2.2.2.2.2.2.2.2.1
  obtain ⟨c1, c2, ty0, c3⟩ := ClOk_all hcl
  have hKn := hU.1.1 ci _ hcl
  have e5 : (Value.ref n :: st).map (ax_v B) = .ref (B.1 + n) :: st.map (ax_v B) := rfl
  refine W.newcK X.1 X.2.1 X.2.2.2.2.2.1 (hts _ h1) (hts _ h2) (hts _ h3) rfl hd (by omega) (by omega) hKn.2.1 hH.1 fun H1 kC hkC e1 z1 o1 => ?_
  have o1' : ∀ q, q < H.size → H1[q]? = H[q]? := fun q hq => o1 q (by rw [hH.1] at hq; exact hq)
  have hat : va_at D vwCl (B.1 + n, ax_e B cA (ao ci fs)) H1 := by
    refine ⟨_, hcl, ?_⟩
    show t_OB _ _ _ _ _ (vp_V (fs.map (ax_v B)))
    rw [hfs0]
    exact (u_born ty0 hts c1 hKn hkC e1 c3).to (hfs ty0 c3)
  exact kk B D cA p l e R s m args below meth c H1 locs ls' (cells + 1) (slots + N) mc ms X (hH.push hat (by rw [z1, hH.1]) o1') (hF.push hH o1') hL (by omega) (by omega) h6 h7
theorem ni_pos {N : Nat} (hN : N < 2147483648) : ¬ nI N < 0 := by
  intro h
  have := Int32.lt_iff_toInt_lt.mp h
  rw [show (nI N).toInt = (N : Int) from Int32.toInt_ofNat_of_lt (by omega)] at this
  simp at this
  omega
theorem ni_cl {N : Nat} (hN : N < 2147483648) : (nI N).toNatClampNeg = N := by
  show ((nI N).toInt).toNat = N
  rw [show (nI N).toInt = (N : Int) from Int32.toInt_ofNat_of_lt (by omega)]
  rfl
theorem x_newa {at_ : ArrayType} {ty : FieldType} {N : Nat} (hty : (at_ = .int ∧ ty = .int) ∨ (at_ = .byte ∧ ty = .byte)) (hd : decode M.2.1 pc = .ok (.newarray at_, 2)) (h1 : Cond.arrayClass ty ∈ TB) (hN : N < 100000) (kk : Run M d q1 q2 (pc + 2) ls (.ref n :: st) (ax_up w n (.inl (ty, N, fun _ => 0))) (n + 1) P) : Run M d (1 + q1) (N + q2) pc ls (.int (nI N) :: st) w n P := by
  intro B D cA p l e R s m args below meth c H locs ls' cells slots mc ms X hH hF hL h4 h5 h6 h7
  have hts := X.2.2.2.2.2.2.2.1
  have hU := X.2.2.2.2.2.2.2.2.1
  have hn : ¬ nI N < 0 := ni_pos (by omega)
  have hNN : (nI N).toNatClampNeg = N := ni_cl (by omega)
  rcases hty with ⟨rfl, rfl⟩ | ⟨rfl, rfl⟩
  · refine va_newaK (atype := .int) X.1 X.2.1 (hts _ h1) rfl hd rfl hn hNN (by show N * 4 ≤ _; omega) (by omega) (by omega) hH.1 fun H1 c0 e1 z1 o1 hAr hNm => ?_
    have hcA : c0 = cA .int := Option.some.inj (hNm.symm.trans (hU.1.2 0 _ rfl).2)
    subst hcA
    have o1' : ∀ q, q < H.size → H1[q]? = H[q]? := fun q hq => o1 q (by rw [hH.1] at hq; exact hq)
    exact kk B D cA p l e R s m args below meth c H1 locs ls' (cells + 1) (slots + N) mc ms X (hH.push e1 (by rw [z1, hH.1]) o1') (hF.push hH o1') hL (by omega) (by omega) h6 h7
  · refine va_newaK (atype := .byte) X.1 X.2.1 (hts _ h1) rfl hd rfl hn hNN (by show N * 1 ≤ _; omega) (by omega) (by omega) hH.1 fun H1 c0 e1 z1 o1 hAr hNm => ?_
    have hcA : c0 = cA .byte := Option.some.inj (hNm.symm.trans (hU.1.2 1 _ rfl).2)
    subst hcA
    have o1' : ∀ q, q < H.size → H1[q]? = H[q]? := fun q hq => o1 q (by rw [hH.1] at hq; exact hq)
    exact kk B D cA p l e R s m args below meth c H1 locs ls' (cells + 1) (slots + N) mc ms X (hH.push e1 (by rw [z1, hH.1]) o1') (hF.push hH o1') hL (by omega) (by omega) h6 h7
theorem x_newq {idx N : Nat} (hd : decode M.2.1 pc = .ok (.anewarray idx, 3)) (h1 : Cond.classLink M.1.cls idx RX1 ∈ TB) (hN : N < 100000) (kk : Run M d q1 q2 (pc + 3) ls (.ref n :: st) (ax_up w n (aq N (fun _ => none))) (n + 1) P) : Run M d (1 + q1) (N + q2) pc ls (.int (nI N) :: st) w n P := by
  intro B D cA p l e R s m args below meth c H locs ls' cells slots mc ms X hH hF hL h4 h5 h6 h7
  have hts := X.2.2.2.2.2.2.2.1
  have hU := X.2.2.2.2.2.2.2.2.1
  have hn : ¬ nI N < 0 := ni_pos (by omega)
  have hNN : (nI N).toNatClampNeg = N := ni_cl (by omega)
  refine W.anew X.1 X.2.1 X.2.2.2.2.2.1 (hts _ h1) (va_AO.use hU.2.2.2.2) rfl hd rfl hn (by rw [hNN]; omega) (by omega) (by rw [hNN]; omega) fun c0 kA comp f1 f2 f3 f4 => ?_
  generalize hH1 : H.push ({ cls := c0, slots := Array.replicate (nI N).toNatClampNeg .null, vm := .none } : Cell) = H1
  have z1 : H1.size = H.size + 1 := by rw [← hH1, Array.size_push]
  have e1 : H1[H.size]? = some (arrV c0 N (fun _ => .null)) := by rw [← hH1, Array.getElem?_push_size, hNN, ← arrV_new]
  have o1 : ∀ q : Nat, q < H.size → H1[q]? = H[q]? := fun q hq => by rw [← hH1, Array.getElem?_push, if_neg (Nat.ne_of_lt hq)]
  obtain ⟨kA', comp', g1, g2, g3, g4⟩ := (hU.1.2 2 _ rfl).2
  have hcA : c0 = cA ty_H := by first | exact Option.some.inj (f1.symm.trans g4) | exact Option.some.inj (f4.symm.trans g4)
  subst hcA
  have h8 := kk B D cA p l e R s m args below meth c H1 locs ls' (cells + 1) (slots + N) mc ms X (hH.push (x := aq N (fun _ => none)) (by
    show H1[B.1 + n]? = _
    rw [← hH.1]
    exact e1) z1 o1) (hF.push hH o1) hL (by omega) (by omega) h6 h7
  rw [hNN]
  have e5 : (Value.ref n :: st).map (ax_v B) = .ref H.size :: st.map (ax_v B) := by rw [hH.1]; rfl
  rw [e5] at h8
  exact h8
/-- System.arraycopy between int arrays -/
theorem x_copy {idx a0 a1 n0 n1 : Nat} {f g : Nat → Int32} {sp dp k : Int32} (hd : decode M.2.1 pc = .ok (.invokestatic idx, 3)) (h1 : Cond.methodLink M.1.cls idx arraycopyName ∈ TB) (h2 : Cond.native arraycopyName ∈ TB) (h3 : Cond.static arraycopyName ∈ TB) (hi : Cond.initialized "java/lang/System" ∈ TB) (hw0 : w a0 = ai n0 f) (hw1 : w a1 = ai n1 g)
    (g1 : ¬ sp < 0) (g2 : ¬ dp < 0) (g3 : ¬ k < 0) (g4 : sp.toNatClampNeg + k.toNatClampNeg ≤ n0) (g5 : dp.toNatClampNeg + k.toNatClampNeg ≤ n1) (hdd : 2 ≤ d) (hst : Nat.ble (st.map fun v => v.category).sum 8 = true)
    (kk : Run M d q1 q2 (pc + 3) ls st (ax_up w a1 (ai n1 (va_cpy f g sp.toNatClampNeg dp.toNatClampNeg k.toNatClampNeg))) n P) : Run M d q1 q2 pc ls (.int k :: .int dp :: .ref a1 :: .int sp :: .ref a0 :: st) w n P := by
  intro B D cA p l e R s m args below meth c H locs ls' cells slots mc ms C hH hF hL h4 h5 h6 h7
  have hts := C.2.2.2.2.2.2.2.1
  have hK := C.2.2.2.2.2.2.2.2.1.1
  have hfr := C.2.2.2.2.2.2.2.2.2.1
  have hlo := C.2.2.2.2.2.2.2.2.2.2
  obtain ⟨ha0, hat0⟩ := hH.at hw0 ax_live_i
  obtain ⟨ha1, hat1⟩ := hH.at hw1 ax_live_i
  have nn : ∀ z : Int32, ¬ z < 0 → z.toInt = (z.toNatClampNeg : Int) := by
    intro z hz
    have hz0 : (0 : Int) ≤ z.toInt := by
      have := Int32.not_lt.mp hz
      simpa using Int32.le_iff_toInt_le.mp this
    show z.toInt = ((z.toInt.toNat : Nat) : Int)
    omega
  intro T hT X
  have hc0 : H[B.1 + a0]? = some (vp_cell (cA .int) (n0, .inl f)) := hat0
  have hc1 : H[B.1 + a1]? = some (vp_cell (cA .int) (n1, .inl g)) := hat1
  obtain ⟨-, k0, hk0, cm0, hkk0⟩ := (hK.2 0 _ rfl).1 n0 (fun j => .int (f j))
  have hsum := ax_hW (B := B) (m := m) (pc := pc) (ls' := ls') (st0 := []) hst
  obtain ⟨vm', X', step⟩ := X.arraycopy C.1 C.2.2.2.2.2.1 (hts _ h1) (hts _ h2) (hts _ h3) (hts _ hi) (src := B.1 + a0) (dst := B.1 + a1) (cs := vp_cell (cA .int) (n0, .inl f)) (cd := vp_cell (cA .int) (n1, .inl g)) (srcPos := sp) (destPos := dp) (n := k) (by rw [hT]; exact hc0) (by rw [hT]; exact hc1)
    (fun _ h => by cases h) (fun _ h => by cases h) (fun h => by cases h) (fun h => by cases h) hk0 hk0 hkk0 hkk0 (by simp [refKind]) g1 g2 g3
    (by rw [nn sp g1, nn k g3]; show ¬ _ > ((arrV (cA .int) n0 (fun j => .int (f j))).slots.size : Int); rw [arrV_size]; omega)
    (by rw [nn dp g2, nn k g3]; show ¬ _ > ((arrV (cA .int) n1 (fun j => .int (g j))).slots.size : Int); rw [arrV_size]; omega)
    (fun vm₁ _ i hi => by
      have e : (vp_cell (cA .int) (n0, .inl f)).slots.getD (sp.toNatClampNeg + i) .null = .int (f (sp.toNatClampNeg + i)) := by
        show (arrV (cA .int) n0 (fun j => .int (f j))).slots.getD _ _ = _
        rw [Array.getD_eq_getD_getElem?, arrV_read _ _ (by omega)]
        rfl
      refine ⟨?_, ?_⟩
      · rw [e]
        rfl
      · rw [e]
        exact trivial)
    (g := F0 m pc ls' (.int k :: .int dp :: .ref (B.1 + a1) :: .int sp :: .ref (B.1 + a0) :: st.map (ax_v B))) rfl (by rw [C.2.2.1]; exact hL.1) (rest := st.map (ax_v B)) rfl (by rw [C.2.1]; exact hd) (by omega) (by
      change 2 * 0 + _ ≤ _ at hsum
      show 2 * 0 + _ + (nativeFrameWords "java/lang/System" "arraycopy" 5 + 11) ≤ _
      have hnf : nativeFrameWords "java/lang/System" "arraycopy" 5 ≤ 60 := by decide +kernel
      omega)
  have e1 : copied (vp_cell (cA .int) (n0, .inl f)) (vp_cell (cA .int) (n1, .inl g)) sp dp k = vp_cell (cA .int) (n1, .inl (va_cpy f g sp.toNatClampNeg dp.toNatClampNeg k.toNatClampNeg)) := va_copied (fun z => .int z) (cA .int) (cA .int) f g g4
  rw [e1] at X' step
  have hl : B.1 + a1 < H.size := (Array.getElem?_eq_some_iff.mp hc1).1
  have hheap : ((T.setVm vm').setCell (B.1 + a1) (vp_cell (cA .int) (n1, .inl (va_cpy f g sp.toNatClampNeg dp.toNatClampNeg k.toNatClampNeg)))).heap = H.setIfInBounds (B.1 + a1) (vp_cell (cA .int) (n1, .inl (va_cpy f g sp.toNatClampNeg dp.toNatClampNeg k.toNatClampNeg))) := by rw [← hT]; rfl
  have oq : ∀ q : Nat, q ≠ B.1 + a1 → (H.setIfInBounds (B.1 + a1) (vp_cell (cA .int) (n1, .inl (va_cpy f g sp.toNatClampNeg dp.toNatClampNeg k.toNatClampNeg))))[q]? = H[q]? := fun q hq => by simp [Array.getElem?_setIfInBounds, Ne.symm hq]
  obtain ⟨t, a1', b1⟩ := kk B D cA p l e R s m args below meth c _ _ ls' cells slots mc ms C (hH.put ha1 (show (H.setIfInBounds (B.1 + a1) _)[B.1 + a1]? = some _ by simp [Array.getElem?_setIfInBounds, hl]) (by simp) oq) (by
    refine ⟨fun q h => by rw [oq q (by omega)]; exact hF.1 q h, fun q hq => ?_⟩
    rcases List.mem_append.mp hq with h | h
    · exact hF.2 q h
    · obtain ⟨z, -, hz⟩ := List.mem_map.mp h
      rw [← hz]
      exact Nat.le_add_right _ _) hL h4 h5 h6 h7 _ hheap X'
  exact ⟨t, step t a1', b1⟩
theorem x_ldc {idx : Nat} {v : Int32} (hd : decode M.2.1 pc = .ok (.ldc idx, 2)) (h : Cond.constant M.1.cls idx v ∈ TB) (kk : Run M d q1 q2 (pc + 2) ls (.int v :: st) w n P) : Run M d q1 q2 pc ls st w n P := by
  intro B D cA p l e R s m args below meth c H locs ls' cells slots mc ms C hH hF hL h4 h5 h6 h7
  exact lv_ldc C.1 C.2.1 C.2.2.2.2.2.1 (C.2.2.2.2.2.2.2.1 _ h) hd (kk B D cA p l e R s m args below meth c H locs ls' cells slots mc ms C hH hF hL h4 h5 h6 h7)
theorem x_ldc2 {idx : Nat} {v : Int64} (hd : decode M.2.1 pc = .ok (.ldc2_w idx, 3)) (h : Cond.constantLong M.1.cls idx v ∈ TB) (kk : Run M d q1 q2 (pc + 3) ls (.long v :: st) w n P) : Run M d q1 q2 pc ls st w n P := by
  intro B D cA p l e R s m args below meth c H locs ls' cells slots mc ms C hH hF hL h4 h5 h6 h7
  exact lv_ldc2 C.1 C.2.1 C.2.2.2.2.2.1 (C.2.2.2.2.2.2.2.1 _ h) hd (kk B D cA p l e R s m args below meth c H locs ls' cells slots mc ms C hH hF hL h4 h5 h6 h7)
theorem x_ldcS (hd : decode M.2.1 pc = .ok (.ldc 62, 2)) (ho : M.1.cls = RX6) (kk : Run M d q1 q2 (pc + 2) ls (.float 0 :: st) w n P) : Run M d q1 q2 pc ls st w n P := by
  intro B D cA p l e R s m args below meth c H locs ls' cells slots mc ms C hH hF hL h4 h5 h6 h7
  exact va_ldcS C.1 C.2.1 C.2.2.2.2.2.1 (by rw [ho]; exact C.2.2.2.2.2.2.2.2.1.2.2.2.1.2.1) hd (kk B D cA p l e R s m args below meth c H locs ls' cells slots mc ms C hH hF hL h4 h5 h6 h7)
/-- an answer v that leaves the world as it is -/
abbrev Pu (v : Value) (w : ax_W) (n : Nat) : Option Value → ax_W → Nat → Prop := fun r w' n' => r = some v ∧ w' = w ∧ n' = n
theorem pu_kk {P' : Option Value → ax_W → Nat → Prop} {v : Value} (kk : Run M d q1 q2 pc ls (v :: st) w n P) : ∀ r w' n', Pu v w n r w' n' → Run M d q1 q2 pc ls (r.toList ++ st) w' n' P := by
  intro r w' n' hp
  obtain ⟨h1, h2, h3⟩ := hp
  subst h1 h2 h3
  exact kk
theorem zz_room {a : Nat} : 0 + a = a := Nat.zero_add a
theorem x_mmax {idx : Nat} {x y : Int32} (hd : decode M.2.1 pc = .ok (.invokestatic idx, 3)) (h1 : Cond.methodLink M.1.cls idx Lib.Math.max.name ∈ TB) (h2 : Cond.static Lib.Math.max.name ∈ TB) (h3 : Cond.initialized "java/lang/Math" ∈ TB) (h4 : Cond.code Lib.Math.max.name Lib.Math.max.code 2 (some .int) ∈ TB) (hdd : 0 < d) (hst : Nat.ble (st.map fun v => v.category).sum 8 = true) (kk : Run M d q1 q2 (pc + 3) ls (.int (if x < y then y else x) :: st) w n P) : Run M d q1 q2 pc ls (.int y :: .int x :: st) w n P := by
  intro B D cA p l e R s m args below meth c H locs ls' cells slots mc ms C hH hF hL g4 g5 g6 g7
  have hts := C.2.2.2.2.2.2.2.1
  have hfr := C.2.2.2.2.2.2.2.2.2.1
  have hlo := C.2.2.2.2.2.2.2.2.2.2
  have hsum := ax_hW (B := B) (m := m) (pc := pc) (ls' := ls') (st0 := []) hst
  change 2 * 0 + _ ≤ _ at hsum
  exact va_mmax C.1 C.2.1 (C.2.2.1.trans hL.1.symm) C.2.2.2.2.2.1 (hts _ h1) (hts _ h2) (hts _ h3) (hts _ h4) (by omega) (by omega) (by omega) (by omega) hd (kk B D cA p l e R s m args below meth c H locs ls' cells slots mc ms C hH hF hL g4 g5 g6 g7)
theorem x_mmin {idx : Nat} {x y : Int32} (hd : decode M.2.1 pc = .ok (.invokestatic idx, 3)) (h1 : Cond.methodLink M.1.cls idx Lib.Math.min.name ∈ TB) (h2 : Cond.static Lib.Math.min.name ∈ TB) (h3 : Cond.initialized "java/lang/Math" ∈ TB) (h4 : Cond.code Lib.Math.min.name Lib.Math.min.code 2 (some .int) ∈ TB) (hdd : 0 < d) (hst : Nat.ble (st.map fun v => v.category).sum 8 = true) (kk : Run M d q1 q2 (pc + 3) ls (.int (if y < x then y else x) :: st) w n P) : Run M d q1 q2 pc ls (.int y :: .int x :: st) w n P := by
  intro B D cA p l e R s m args below meth c H locs ls' cells slots mc ms C hH hF hL g4 g5 g6 g7
  have hts := C.2.2.2.2.2.2.2.1
  have hfr := C.2.2.2.2.2.2.2.2.2.1
  have hlo := C.2.2.2.2.2.2.2.2.2.2
  have hsum := ax_hW (B := B) (m := m) (pc := pc) (ls' := ls') (st0 := []) hst
  change 2 * 0 + _ ≤ _ at hsum
  exact va_mmin C.1 C.2.1 (C.2.2.1.trans hL.1.symm) C.2.2.2.2.2.1 (hts _ h1) (hts _ h2) (hts _ h3) (hts _ h4) (by omega) (by omega) (by omega) (by omega) hd (kk B D cA p l e R s m args below meth c H locs ls' cells slots mc ms C hH hF hL g4 g5 g6 g7)
theorem x_cs0 {M' : ax_M} {d' a1 a2 idx : Nat} {P' : Option Value → ax_W → Nat → Prop} (hd : decode M.2.1 pc = .ok (.invokestatic idx, 3)) (hl : LkS M.1.cls idx M' 0) (hdd : d' < d) (hcat : cat1 [] = true) (hlen : Nat.ble 0 M'.2.2.1 = true) (hst : Nat.ble (st.map fun v => v.category).sum 8 = true) (hc : Run M' d' a1 a2 0 (l_ent M' []) [] w n P') (kk : ∀ r w' n', P' r w' n' → Run M d q1 q2 (pc + 3) ls (r.toList ++ st) w' n' P) : Run M d (a1 + q1) (a2 + q2) pc ls (st) w n P := x_cs (As := []) hd hl hdd hcat hlen hst hc kk
theorem x_cs0p {M' : ax_M} {d' idx : Nat} {v : Value} (hd : decode M.2.1 pc = .ok (.invokestatic idx, 3)) (hl : LkS M.1.cls idx M' 0) (hdd : d' < d) (hcat : cat1 [] = true) (hlen : Nat.ble 0 M'.2.2.1 = true) (hst : Nat.ble (st.map fun v => v.category).sum 8 = true) (hc : Run M' d' 0 0 0 (l_ent M' []) [] w n (Pu v w n)) (kk : Run M d q1 q2 (pc + 3) ls (v :: st) w n P) : Run M d q1 q2 pc ls (st) w n P := by
  have h := x_cs0 (q1 := q1) (q2 := q2) hd hl hdd hcat hlen hst hc (pu_kk (P' := P) kk)
  rwa [Nat.zero_add, Nat.zero_add] at h
theorem x_cs1 {M' : ax_M} {d' a1 a2 idx : Nat} {y0 : Value} {P' : Option Value → ax_W → Nat → Prop} (hd : decode M.2.1 pc = .ok (.invokestatic idx, 3)) (hl : LkS M.1.cls idx M' 1) (hdd : d' < d) (hcat : cat1 [y0] = true) (hlen : Nat.ble 1 M'.2.2.1 = true) (hst : Nat.ble (st.map fun v => v.category).sum 8 = true) (hc : Run M' d' a1 a2 0 (l_ent M' [y0]) [] w n P') (kk : ∀ r w' n', P' r w' n' → Run M d q1 q2 (pc + 3) ls (r.toList ++ st) w' n' P) : Run M d (a1 + q1) (a2 + q2) pc ls (y0 :: st) w n P := x_cs (As := [y0]) hd hl hdd hcat hlen hst hc kk
theorem x_cs1p {M' : ax_M} {d' idx : Nat} {y0 : Value} {v : Value} (hd : decode M.2.1 pc = .ok (.invokestatic idx, 3)) (hl : LkS M.1.cls idx M' 1) (hdd : d' < d) (hcat : cat1 [y0] = true) (hlen : Nat.ble 1 M'.2.2.1 = true) (hst : Nat.ble (st.map fun v => v.category).sum 8 = true) (hc : Run M' d' 0 0 0 (l_ent M' [y0]) [] w n (Pu v w n)) (kk : Run M d q1 q2 (pc + 3) ls (v :: st) w n P) : Run M d q1 q2 pc ls (y0 :: st) w n P := by
  have h := x_cs1 (q1 := q1) (q2 := q2) hd hl hdd hcat hlen hst hc (pu_kk (P' := P) kk)
  rwa [Nat.zero_add, Nat.zero_add] at h
theorem x_cs2 {M' : ax_M} {d' a1 a2 idx : Nat} {y0 y1 : Value} {P' : Option Value → ax_W → Nat → Prop} (hd : decode M.2.1 pc = .ok (.invokestatic idx, 3)) (hl : LkS M.1.cls idx M' 2) (hdd : d' < d) (hcat : cat1 [y0, y1] = true) (hlen : Nat.ble 2 M'.2.2.1 = true) (hst : Nat.ble (st.map fun v => v.category).sum 8 = true) (hc : Run M' d' a1 a2 0 (l_ent M' [y0, y1]) [] w n P') (kk : ∀ r w' n', P' r w' n' → Run M d q1 q2 (pc + 3) ls (r.toList ++ st) w' n' P) : Run M d (a1 + q1) (a2 + q2) pc ls (y1 :: y0 :: st) w n P := x_cs (As := [y0, y1]) hd hl hdd hcat hlen hst hc kk
theorem x_cs2p {M' : ax_M} {d' idx : Nat} {y0 y1 : Value} {v : Value} (hd : decode M.2.1 pc = .ok (.invokestatic idx, 3)) (hl : LkS M.1.cls idx M' 2) (hdd : d' < d) (hcat : cat1 [y0, y1] = true) (hlen : Nat.ble 2 M'.2.2.1 = true) (hst : Nat.ble (st.map fun v => v.category).sum 8 = true) (hc : Run M' d' 0 0 0 (l_ent M' [y0, y1]) [] w n (Pu v w n)) (kk : Run M d q1 q2 (pc + 3) ls (v :: st) w n P) : Run M d q1 q2 pc ls (y1 :: y0 :: st) w n P := by
  have h := x_cs2 (q1 := q1) (q2 := q2) hd hl hdd hcat hlen hst hc (pu_kk (P' := P) kk)
  rwa [Nat.zero_add, Nat.zero_add] at h
theorem x_cs3 {M' : ax_M} {d' a1 a2 idx : Nat} {y0 y1 y2 : Value} {P' : Option Value → ax_W → Nat → Prop} (hd : decode M.2.1 pc = .ok (.invokestatic idx, 3)) (hl : LkS M.1.cls idx M' 3) (hdd : d' < d) (hcat : cat1 [y0, y1, y2] = true) (hlen : Nat.ble 3 M'.2.2.1 = true) (hst : Nat.ble (st.map fun v => v.category).sum 8 = true) (hc : Run M' d' a1 a2 0 (l_ent M' [y0, y1, y2]) [] w n P') (kk : ∀ r w' n', P' r w' n' → Run M d q1 q2 (pc + 3) ls (r.toList ++ st) w' n' P) : Run M d (a1 + q1) (a2 + q2) pc ls (y2 :: y1 :: y0 :: st) w n P := x_cs (As := [y0, y1, y2]) hd hl hdd hcat hlen hst hc kk
theorem x_cs3p {M' : ax_M} {d' idx : Nat} {y0 y1 y2 : Value} {v : Value} (hd : decode M.2.1 pc = .ok (.invokestatic idx, 3)) (hl : LkS M.1.cls idx M' 3) (hdd : d' < d) (hcat : cat1 [y0, y1, y2] = true) (hlen : Nat.ble 3 M'.2.2.1 = true) (hst : Nat.ble (st.map fun v => v.category).sum 8 = true) (hc : Run M' d' 0 0 0 (l_ent M' [y0, y1, y2]) [] w n (Pu v w n)) (kk : Run M d q1 q2 (pc + 3) ls (v :: st) w n P) : Run M d q1 q2 pc ls (y2 :: y1 :: y0 :: st) w n P := by
  have h := x_cs3 (q1 := q1) (q2 := q2) hd hl hdd hcat hlen hst hc (pu_kk (P' := P) kk)
  rwa [Nat.zero_add, Nat.zero_add] at h
theorem x_cs4 {M' : ax_M} {d' a1 a2 idx : Nat} {y0 y1 y2 y3 : Value} {P' : Option Value → ax_W → Nat → Prop} (hd : decode M.2.1 pc = .ok (.invokestatic idx, 3)) (hl : LkS M.1.cls idx M' 4) (hdd : d' < d) (hcat : cat1 [y0, y1, y2, y3] = true) (hlen : Nat.ble 4 M'.2.2.1 = true) (hst : Nat.ble (st.map fun v => v.category).sum 8 = true) (hc : Run M' d' a1 a2 0 (l_ent M' [y0, y1, y2, y3]) [] w n P') (kk : ∀ r w' n', P' r w' n' → Run M d q1 q2 (pc + 3) ls (r.toList ++ st) w' n' P) : Run M d (a1 + q1) (a2 + q2) pc ls (y3 :: y2 :: y1 :: y0 :: st) w n P := x_cs (As := [y0, y1, y2, y3]) hd hl hdd hcat hlen hst hc kk
theorem x_cs4p {M' : ax_M} {d' idx : Nat} {y0 y1 y2 y3 : Value} {v : Value} (hd : decode M.2.1 pc = .ok (.invokestatic idx, 3)) (hl : LkS M.1.cls idx M' 4) (hdd : d' < d) (hcat : cat1 [y0, y1, y2, y3] = true) (hlen : Nat.ble 4 M'.2.2.1 = true) (hst : Nat.ble (st.map fun v => v.category).sum 8 = true) (hc : Run M' d' 0 0 0 (l_ent M' [y0, y1, y2, y3]) [] w n (Pu v w n)) (kk : Run M d q1 q2 (pc + 3) ls (v :: st) w n P) : Run M d q1 q2 pc ls (y3 :: y2 :: y1 :: y0 :: st) w n P := by
  have h := x_cs4 (q1 := q1) (q2 := q2) hd hl hdd hcat hlen hst hc (pu_kk (P' := P) kk)
  rwa [Nat.zero_add, Nat.zero_add] at h
theorem x_cs5 {M' : ax_M} {d' a1 a2 idx : Nat} {y0 y1 y2 y3 y4 : Value} {P' : Option Value → ax_W → Nat → Prop} (hd : decode M.2.1 pc = .ok (.invokestatic idx, 3)) (hl : LkS M.1.cls idx M' 5) (hdd : d' < d) (hcat : cat1 [y0, y1, y2, y3, y4] = true) (hlen : Nat.ble 5 M'.2.2.1 = true) (hst : Nat.ble (st.map fun v => v.category).sum 8 = true) (hc : Run M' d' a1 a2 0 (l_ent M' [y0, y1, y2, y3, y4]) [] w n P') (kk : ∀ r w' n', P' r w' n' → Run M d q1 q2 (pc + 3) ls (r.toList ++ st) w' n' P) : Run M d (a1 + q1) (a2 + q2) pc ls (y4 :: y3 :: y2 :: y1 :: y0 :: st) w n P := x_cs (As := [y0, y1, y2, y3, y4]) hd hl hdd hcat hlen hst hc kk
theorem x_cs5p {M' : ax_M} {d' idx : Nat} {y0 y1 y2 y3 y4 : Value} {v : Value} (hd : decode M.2.1 pc = .ok (.invokestatic idx, 3)) (hl : LkS M.1.cls idx M' 5) (hdd : d' < d) (hcat : cat1 [y0, y1, y2, y3, y4] = true) (hlen : Nat.ble 5 M'.2.2.1 = true) (hst : Nat.ble (st.map fun v => v.category).sum 8 = true) (hc : Run M' d' 0 0 0 (l_ent M' [y0, y1, y2, y3, y4]) [] w n (Pu v w n)) (kk : Run M d q1 q2 (pc + 3) ls (v :: st) w n P) : Run M d q1 q2 pc ls (y4 :: y3 :: y2 :: y1 :: y0 :: st) w n P := by
  have h := x_cs5 (q1 := q1) (q2 := q2) hd hl hdd hcat hlen hst hc (pu_kk (P' := P) kk)
  rwa [Nat.zero_add, Nat.zero_add] at h
theorem x_cv0 {M' : ax_M} {d' a1 a2 idx b : Nat} {ci N : Nat} {T : u_T} {fs : List Value} {P' : Option Value → ax_W → Nat → Prop} (hd : decode M.2.1 pc = .ok (.invokevirtual idx, 3)) (hl : LkV M.1.cls idx M' 0) (hw : w b = ao ci fs) (hcl : vwCl[ci]? = some (M'.1.cls, T, N)) (hdd : d' < d) (hcat : cat1 [] = true) (hlen : Nat.blt 0 M'.2.2.1 = true) (hst : Nat.ble (st.map fun v => v.category).sum 8 = true) (hc : Run M' d' a1 a2 0 (l_ent M' [.ref b]) [] w n P') (kk : ∀ r w' n', P' r w' n' → Run M d q1 q2 (pc + 3) ls (r.toList ++ st) w' n' P) : Run M d (a1 + q1) (a2 + q2) pc ls (.ref b :: st) w n P := x_cv (As := []) hd hl hw hcl hdd hcat hlen hst hc kk
theorem x_cv0p {M' : ax_M} {d' idx b : Nat} {ci N : Nat} {T : u_T} {fs : List Value} {v : Value} (hd : decode M.2.1 pc = .ok (.invokevirtual idx, 3)) (hl : LkV M.1.cls idx M' 0) (hw : w b = ao ci fs) (hcl : vwCl[ci]? = some (M'.1.cls, T, N)) (hdd : d' < d) (hcat : cat1 [] = true) (hlen : Nat.blt 0 M'.2.2.1 = true) (hst : Nat.ble (st.map fun v => v.category).sum 8 = true) (hc : Run M' d' 0 0 0 (l_ent M' [.ref b]) [] w n (Pu v w n)) (kk : Run M d q1 q2 (pc + 3) ls (v :: st) w n P) : Run M d q1 q2 pc ls (.ref b :: st) w n P := by
  have h := x_cv0 (q1 := q1) (q2 := q2) hd hl hw hcl hdd hcat hlen hst hc (pu_kk (P' := P) kk)
  rwa [Nat.zero_add, Nat.zero_add] at h
theorem x_cv1 {M' : ax_M} {d' a1 a2 idx b : Nat} {ci N : Nat} {T : u_T} {fs : List Value} {y0 : Value} {P' : Option Value → ax_W → Nat → Prop} (hd : decode M.2.1 pc = .ok (.invokevirtual idx, 3)) (hl : LkV M.1.cls idx M' 1) (hw : w b = ao ci fs) (hcl : vwCl[ci]? = some (M'.1.cls, T, N)) (hdd : d' < d) (hcat : cat1 [y0] = true) (hlen : Nat.blt 1 M'.2.2.1 = true) (hst : Nat.ble (st.map fun v => v.category).sum 8 = true) (hc : Run M' d' a1 a2 0 (l_ent M' [.ref b, y0]) [] w n P') (kk : ∀ r w' n', P' r w' n' → Run M d q1 q2 (pc + 3) ls (r.toList ++ st) w' n' P) : Run M d (a1 + q1) (a2 + q2) pc ls (y0 :: .ref b :: st) w n P := x_cv (As := [y0]) hd hl hw hcl hdd hcat hlen hst hc kk
theorem x_cv1p {M' : ax_M} {d' idx b : Nat} {ci N : Nat} {T : u_T} {fs : List Value} {y0 : Value} {v : Value} (hd : decode M.2.1 pc = .ok (.invokevirtual idx, 3)) (hl : LkV M.1.cls idx M' 1) (hw : w b = ao ci fs) (hcl : vwCl[ci]? = some (M'.1.cls, T, N)) (hdd : d' < d) (hcat : cat1 [y0] = true) (hlen : Nat.blt 1 M'.2.2.1 = true) (hst : Nat.ble (st.map fun v => v.category).sum 8 = true) (hc : Run M' d' 0 0 0 (l_ent M' [.ref b, y0]) [] w n (Pu v w n)) (kk : Run M d q1 q2 (pc + 3) ls (v :: st) w n P) : Run M d q1 q2 pc ls (y0 :: .ref b :: st) w n P := by
  have h := x_cv1 (q1 := q1) (q2 := q2) hd hl hw hcl hdd hcat hlen hst hc (pu_kk (P' := P) kk)
  rwa [Nat.zero_add, Nat.zero_add] at h
theorem x_cv2 {M' : ax_M} {d' a1 a2 idx b : Nat} {ci N : Nat} {T : u_T} {fs : List Value} {y0 y1 : Value} {P' : Option Value → ax_W → Nat → Prop} (hd : decode M.2.1 pc = .ok (.invokevirtual idx, 3)) (hl : LkV M.1.cls idx M' 2) (hw : w b = ao ci fs) (hcl : vwCl[ci]? = some (M'.1.cls, T, N)) (hdd : d' < d) (hcat : cat1 [y0, y1] = true) (hlen : Nat.blt 2 M'.2.2.1 = true) (hst : Nat.ble (st.map fun v => v.category).sum 8 = true) (hc : Run M' d' a1 a2 0 (l_ent M' [.ref b, y0, y1]) [] w n P') (kk : ∀ r w' n', P' r w' n' → Run M d q1 q2 (pc + 3) ls (r.toList ++ st) w' n' P) : Run M d (a1 + q1) (a2 + q2) pc ls (y1 :: y0 :: .ref b :: st) w n P := x_cv (As := [y0, y1]) hd hl hw hcl hdd hcat hlen hst hc kk
theorem x_cv2p {M' : ax_M} {d' idx b : Nat} {ci N : Nat} {T : u_T} {fs : List Value} {y0 y1 : Value} {v : Value} (hd : decode M.2.1 pc = .ok (.invokevirtual idx, 3)) (hl : LkV M.1.cls idx M' 2) (hw : w b = ao ci fs) (hcl : vwCl[ci]? = some (M'.1.cls, T, N)) (hdd : d' < d) (hcat : cat1 [y0, y1] = true) (hlen : Nat.blt 2 M'.2.2.1 = true) (hst : Nat.ble (st.map fun v => v.category).sum 8 = true) (hc : Run M' d' 0 0 0 (l_ent M' [.ref b, y0, y1]) [] w n (Pu v w n)) (kk : Run M d q1 q2 (pc + 3) ls (v :: st) w n P) : Run M d q1 q2 pc ls (y1 :: y0 :: .ref b :: st) w n P := by
  have h := x_cv2 (q1 := q1) (q2 := q2) hd hl hw hcl hdd hcat hlen hst hc (pu_kk (P' := P) kk)
  rwa [Nat.zero_add, Nat.zero_add] at h
theorem x_cv3 {M' : ax_M} {d' a1 a2 idx b : Nat} {ci N : Nat} {T : u_T} {fs : List Value} {y0 y1 y2 : Value} {P' : Option Value → ax_W → Nat → Prop} (hd : decode M.2.1 pc = .ok (.invokevirtual idx, 3)) (hl : LkV M.1.cls idx M' 3) (hw : w b = ao ci fs) (hcl : vwCl[ci]? = some (M'.1.cls, T, N)) (hdd : d' < d) (hcat : cat1 [y0, y1, y2] = true) (hlen : Nat.blt 3 M'.2.2.1 = true) (hst : Nat.ble (st.map fun v => v.category).sum 8 = true) (hc : Run M' d' a1 a2 0 (l_ent M' [.ref b, y0, y1, y2]) [] w n P') (kk : ∀ r w' n', P' r w' n' → Run M d q1 q2 (pc + 3) ls (r.toList ++ st) w' n' P) : Run M d (a1 + q1) (a2 + q2) pc ls (y2 :: y1 :: y0 :: .ref b :: st) w n P := x_cv (As := [y0, y1, y2]) hd hl hw hcl hdd hcat hlen hst hc kk
theorem x_cv3p {M' : ax_M} {d' idx b : Nat} {ci N : Nat} {T : u_T} {fs : List Value} {y0 y1 y2 : Value} {v : Value} (hd : decode M.2.1 pc = .ok (.invokevirtual idx, 3)) (hl : LkV M.1.cls idx M' 3) (hw : w b = ao ci fs) (hcl : vwCl[ci]? = some (M'.1.cls, T, N)) (hdd : d' < d) (hcat : cat1 [y0, y1, y2] = true) (hlen : Nat.blt 3 M'.2.2.1 = true) (hst : Nat.ble (st.map fun v => v.category).sum 8 = true) (hc : Run M' d' 0 0 0 (l_ent M' [.ref b, y0, y1, y2]) [] w n (Pu v w n)) (kk : Run M d q1 q2 (pc + 3) ls (v :: st) w n P) : Run M d q1 q2 pc ls (y2 :: y1 :: y0 :: .ref b :: st) w n P := by
  have h := x_cv3 (q1 := q1) (q2 := q2) hd hl hw hcl hdd hcat hlen hst hc (pu_kk (P' := P) kk)
  rwa [Nat.zero_add, Nat.zero_add] at h
theorem x_ci0 {M' : ax_M} {d' a1 a2 idx b : Nat} {P' : Option Value → ax_W → Nat → Prop} (hd : decode M.2.1 pc = .ok (.invokespecial idx, 3)) (hl : LkN M.1.cls idx M' 0) (hdd : d' < d) (hcat : cat1 [] = true) (hlen : Nat.blt 0 M'.2.2.1 = true) (hst : Nat.ble (st.map fun v => v.category).sum 8 = true) (hc : Run M' d' a1 a2 0 (l_ent M' [.ref b]) [] w n P') (kk : ∀ r w' n', P' r w' n' → Run M d q1 q2 (pc + 3) ls (r.toList ++ st) w' n' P) : Run M d (a1 + q1) (a2 + q2) pc ls (.ref b :: st) w n P := x_ci (As := []) hd hl hdd hcat hlen hst hc kk
theorem x_ci1 {M' : ax_M} {d' a1 a2 idx b : Nat} {y0 : Value} {P' : Option Value → ax_W → Nat → Prop} (hd : decode M.2.1 pc = .ok (.invokespecial idx, 3)) (hl : LkN M.1.cls idx M' 1) (hdd : d' < d) (hcat : cat1 [y0] = true) (hlen : Nat.blt 1 M'.2.2.1 = true) (hst : Nat.ble (st.map fun v => v.category).sum 8 = true) (hc : Run M' d' a1 a2 0 (l_ent M' [.ref b, y0]) [] w n P') (kk : ∀ r w' n', P' r w' n' → Run M d q1 q2 (pc + 3) ls (r.toList ++ st) w' n' P) : Run M d (a1 + q1) (a2 + q2) pc ls (y0 :: .ref b :: st) w n P := x_ci (As := [y0]) hd hl hdd hcat hlen hst hc kk
theorem x_ci2 {M' : ax_M} {d' a1 a2 idx b : Nat} {y0 y1 : Value} {P' : Option Value → ax_W → Nat → Prop} (hd : decode M.2.1 pc = .ok (.invokespecial idx, 3)) (hl : LkN M.1.cls idx M' 2) (hdd : d' < d) (hcat : cat1 [y0, y1] = true) (hlen : Nat.blt 2 M'.2.2.1 = true) (hst : Nat.ble (st.map fun v => v.category).sum 8 = true) (hc : Run M' d' a1 a2 0 (l_ent M' [.ref b, y0, y1]) [] w n P') (kk : ∀ r w' n', P' r w' n' → Run M d q1 q2 (pc + 3) ls (r.toList ++ st) w' n' P) : Run M d (a1 + q1) (a2 + q2) pc ls (y1 :: y0 :: .ref b :: st) w n P := x_ci (As := [y0, y1]) hd hl hdd hcat hlen hst hc kk
theorem x_ci3 {M' : ax_M} {d' a1 a2 idx b : Nat} {y0 y1 y2 : Value} {P' : Option Value → ax_W → Nat → Prop} (hd : decode M.2.1 pc = .ok (.invokespecial idx, 3)) (hl : LkN M.1.cls idx M' 3) (hdd : d' < d) (hcat : cat1 [y0, y1, y2] = true) (hlen : Nat.blt 3 M'.2.2.1 = true) (hst : Nat.ble (st.map fun v => v.category).sum 8 = true) (hc : Run M' d' a1 a2 0 (l_ent M' [.ref b, y0, y1, y2]) [] w n P') (kk : ∀ r w' n', P' r w' n' → Run M d q1 q2 (pc + 3) ls (r.toList ++ st) w' n' P) : Run M d (a1 + q1) (a2 + q2) pc ls (y2 :: y1 :: y0 :: .ref b :: st) w n P := x_ci (As := [y0, y1, y2]) hd hl hdd hcat hlen hst hc kk
end CALLS
end
section
/-! the methods as data; what each place of a constant pool names, by the tables -/
abbrev m_X0_init : ax_M := (yX0_init, cX0_init, 1, (Option.none : Option FieldType))
abbrev m_X0_clear : ax_M := (yX0_clear, cX0_clear, 1, (Option.none : Option FieldType))
abbrev m_X0_copyFrom : ax_M := (yX0_copyFrom, cX0_copyFrom, 2, (Option.none : Option FieldType))
abbrev m_X0_addStatement : ax_M := (yX0_addStatement, cX0_addStatement, 4, (Option.some FieldType.boolean))
abbrev m_X0_addVerdict : ax_M := (yX0_addVerdict, cX0_addVerdict, 2, (Option.some FieldType.boolean))
abbrev m_X0_addHang : ax_M := (yX0_addHang, cX0_addHang, 3, (Option.some FieldType.boolean))
abbrev m_X0_addPerson : ax_M := (yX0_addPerson, cX0_addPerson, 3, (Option.some FieldType.boolean))
abbrev m_X0_isStatement : ax_M := (yX0_isStatement, cX0_isStatement, 2, (Option.some FieldType.boolean))
abbrev m_X0_isNight : ax_M := (yX0_isNight, cX0_isNight, 2, (Option.some FieldType.boolean))
abbrev m_X0_isVerdict : ax_M := (yX0_isVerdict, cX0_isVerdict, 2, (Option.some FieldType.boolean))
abbrev m_X0_all : ax_M := (yX0_all, cX0_all, 1, (Option.some FieldType.int))
abbrev m_X0_doers : ax_M := (yX0_doers, cX0_doers, 4, (Option.some FieldType.int))
abbrev m_X0_costOf : ax_M := (yX0_costOf, cX0_costOf, 8, (Option.some FieldType.int))
abbrev m_X0_daysOf : ax_M := (yX0_daysOf, cX0_daysOf, 5, (Option.some FieldType.int))
abbrev m_X1_init : ax_M := (yX1_init, cX1_init, 1, (Option.none : Option FieldType))
abbrev m_X1_clear : ax_M := (yX1_clear, cX1_clear, 1, (Option.none : Option FieldType))
abbrev m_X1_copyFrom : ax_M := (yX1_copyFrom, cX1_copyFrom, 2, (Option.none : Option FieldType))
abbrev m_X1_add : ax_M := (yX1_add, cX1_add, 2, (Option.none : Option FieldType))
abbrev m_X1_members : ax_M := (yX1_members, cX1_members, 3, (Option.some FieldType.int))
abbrev m_X1_open : ax_M := (yX1_open, cX1_open, 2, (Option.some FieldType.int))
abbrev m_X1_isEnded : ax_M := (yX1_isEnded, cX1_isEnded, 2, (Option.some FieldType.boolean))
abbrev m_X1_isStuck : ax_M := (yX1_isStuck, cX1_isStuck, 2, (Option.some FieldType.boolean))
abbrev m_X2_init : ax_M := (yX2_init, cX2_init, 1, (Option.none : Option FieldType))
abbrev m_X2_readAll : ax_M := (yX2_readAll, cX2_readAll, 6, (Option.some FieldType.int))
abbrev m_X2_readNumbers : ax_M := (yX2_readNumbers, cX2_readNumbers, 7, (Option.some FieldType.int))
abbrev m_X2_figuresFrom : ax_M := (yX2_figuresFrom, cX2_figuresFrom, 2, (Option.some FieldType.int))
abbrev m_X2_numberFrom : ax_M := (yX2_numberFrom, cX2_numberFrom, 5, (Option.some FieldType.int))
abbrev m_X2_isFigure : ax_M := (yX2_isFigure, cX2_isFigure, 1, (Option.some FieldType.boolean))
abbrev m_X2_tell : ax_M := (yX2_tell, cX2_tell, 6, (Option.some FieldType.boolean))
abbrev m_X3_init : ax_M := (yX3_init, cX3_init, 1, (Option.none : Option FieldType))
abbrev m_X3_add : ax_M := (yX3_add, cX3_add, 2, (Option.some FieldType.boolean))
abbrev m_X3_addAll : ax_M := (yX3_addAll, cX3_addAll, 3, (Option.none : Option FieldType))
abbrev m_X3_clear : ax_M := (yX3_clear, cX3_clear, 1, (Option.none : Option FieldType))
abbrev m_X3_letterAt : ax_M := (yX3_letterAt, cX3_letterAt, 2, (Option.some FieldType.int))
abbrev m_X4_init : ax_M := (yX4_init, cX4_init, 3, (Option.none : Option FieldType))
abbrev m_X4_clear : ax_M := (yX4_clear, cX4_clear, 1, (Option.none : Option FieldType))
abbrev m_X4_add : ax_M := (yX4_add, cX4_add, 3, (Option.none : Option FieldType))
abbrev m_X4_takeLatest : ax_M := (yX4_takeLatest, cX4_takeLatest, 4, (Option.some FieldType.boolean))
abbrev m_X4_placeAt : ax_M := (yX4_placeAt, cX4_placeAt, 2, (Option.some (FieldType.object "HeardBackward$Hearing")))
abbrev m_X5_init : ax_M := (yX5_init, cX5_init, 1, (Option.none : Option FieldType))
abbrev m_X5_walkAll : ax_M := (yX5_walkAll, cX5_walkAll, 4, (Option.none : Option FieldType))
abbrev m_X5_walk : ax_M := (yX5_walk, cX5_walk, 8, (Option.none : Option FieldType))
abbrev m_X5_note : ax_M := (yX5_note, cX5_note, 8, (Option.none : Option FieldType))
abbrev m_X6_init : ax_M := (yX6_init, cX6_init, 1, (Option.none : Option FieldType))
abbrev m_X6_write : ax_M := (yX6_write, cX6_write, 2, (Option.some FieldType.int))
abbrev m_X6_wipe : ax_M := (yX6_wipe, cX6_wipe, 2, (Option.some FieldType.int))
abbrev m_X6_fault : ax_M := (yX6_fault, cX6_fault, 1, (Option.some FieldType.int))
abbrev m_X6_lay : ax_M := (yX6_lay, cX6_lay, 1, (Option.some FieldType.int))
abbrev m_X6_statement : ax_M := (yX6_statement, cX6_statement, 3, (Option.some FieldType.int))
abbrev m_X6_argue : ax_M := (yX6_argue, cX6_argue, 2, (Option.some FieldType.int))
abbrev m_X6_drop : ax_M := (yX6_drop, cX6_drop, 2, (Option.some FieldType.int))
abbrev m_X6_strike : ax_M := (yX6_strike, cX6_strike, 2, (Option.some FieldType.int))
abbrev m_X6_undo : ax_M := (yX6_undo, cX6_undo, 1, (Option.some FieldType.int))
abbrev m_X6_argued : ax_M := (yX6_argued, cX6_argued, 2, (Option.some FieldType.int))
abbrev m_X6_next : ax_M := (yX6_next, cX6_next, 1, (Option.some FieldType.int))
abbrev m_X6_trial : ax_M := (yX6_trial, cX6_trial, 2, (Option.some FieldType.int))
abbrev m_X6_chains : ax_M := (yX6_chains, cX6_chains, 2, (Option.some FieldType.int))
abbrev m_X6_shortest : ax_M := (yX6_shortest, cX6_shortest, 3, (Option.some FieldType.int))
abbrev m_X6_nights : ax_M := (yX6_nights, cX6_nights, 2, (Option.some FieldType.int))
abbrev m_X6_needed : ax_M := (yX6_needed, cX6_needed, 2, (Option.some FieldType.int))
abbrev m_X6_forgotten : ax_M := (yX6_forgotten, cX6_forgotten, 3, (Option.some FieldType.int))
abbrev m_X6_both : ax_M := (yX6_both, cX6_both, 8, (Option.some FieldType.int))
abbrev m_X6_byTurns : ax_M := (yX6_byTurns, cX6_byTurns, 4, (Option.some FieldType.int))
abbrev m_X6_days : ax_M := (yX6_days, cX6_days, 2, (Option.some FieldType.int))
abbrev m_X6_who : ax_M := (yX6_who, cX6_who, 2, (Option.some FieldType.int))
abbrev m_X6_fits : ax_M := (yX6_fits, cX6_fits, 2, (Option.some FieldType.int))
abbrev m_X6_look : ax_M := (yX6_look, cX6_look, 7, (Option.some FieldType.int))
abbrev m_X6_laid : ax_M := (yX6_laid, cX6_laid, 3, (Option.some FieldType.int))
abbrev m_X6_odds : ax_M := (yX6_odds, cX6_odds, 9, (Option.some FieldType.int))
abbrev m_X6_trialBy : ax_M := (yX6_trialBy, cX6_trialBy, 10, (Option.some FieldType.int))
abbrev m_X6_keep : ax_M := (yX6_keep, cX6_keep, 1, (Option.some FieldType.int))
abbrev m_X6_back : ax_M := (yX6_back, cX6_back, 1, (Option.some FieldType.int))
abbrev m_X6_count : ax_M := (yX6_count, cX6_count, 2, (Option.some FieldType.int))
abbrev m_X6_fittingPeople : ax_M := (yX6_fittingPeople, cX6_fittingPeople, 4, (Option.some FieldType.int))
abbrev m_X6_winningOpening : ax_M := (yX6_winningOpening, cX6_winningOpening, 4, (Option.some FieldType.int))
abbrev m_X6_isWon : ax_M := (yX6_isWon, cX6_isWon, 8, (Option.some FieldType.boolean))
abbrev m_X6_openBehind : ax_M := (yX6_openBehind, cX6_openBehind, 4, (Option.some FieldType.int))
abbrev m_X6_draw : ax_M := (yX6_draw, cX6_draw, 4, (Option.some FieldType.int))
abbrev m_X6_bitByRank : ax_M := (yX6_bitByRank, cX6_bitByRank, 4, (Option.some FieldType.int))
abbrev m_X6_commonDivisor : ax_M := (yX6_commonDivisor, cX6_commonDivisor, 6, (Option.some FieldType.int))
abbrev m_X6_outside : ax_M := (yX6_outside, cX6_outside, 3, (Option.some FieldType.boolean))
abbrev m_X6_asNumber : ax_M := (yX6_asNumber, cX6_asNumber, 1, (Option.some FieldType.int))
abbrev m_X6_bit : ax_M := (yX6_bit, cX6_bit, 1, (Option.some FieldType.int))
abbrev m_X6_has : ax_M := (yX6_has, cX6_has, 2, (Option.some FieldType.boolean))
abbrev m_X6_at : ax_M := (yX6_at, cX6_at, 2, (Option.some FieldType.int))
abbrev m_X6_put : ax_M := (yX6_put, cX6_put, 3, (Option.none : Option FieldType))
abbrev m_X7_init : ax_M := (yX7_init, cX7_init, 1, (Option.none : Option FieldType))
abbrev m_X7_firstOf : ax_M := (yX7_firstOf, cX7_firstOf, 5, (Option.none : Option FieldType))
abbrev m_X7_firstPerson : ax_M := (yX7_firstPerson, cX7_firstPerson, 3, (Option.none : Option FieldType))
abbrev m_X7_in : ax_M := (yX7_in, cX7_in, 3, (Option.some FieldType.boolean))
abbrev m_X7_write : ax_M := (yX7_write, cX7_write, 2, (Option.some FieldType.int))
abbrev m_X7_wipe : ax_M := (yX7_wipe, cX7_wipe, 2, (Option.some FieldType.int))
abbrev m_X7_here : ax_M := (yX7_here, cX7_here, 1, (Option.some FieldType.int))
abbrev m_X7_number : ax_M := (yX7_number, cX7_number, 6, (Option.some FieldType.int))
abbrev m_X7_statementAt : ax_M := (yX7_statementAt, cX7_statementAt, 2, (Option.some FieldType.int))
abbrev m_X7_readItem : ax_M := (yX7_readItem, cX7_readItem, 5, (Option.none : Option FieldType))
abbrev m_X7_fault : ax_M := (yX7_fault, cX7_fault, 2, (Option.some FieldType.int))
abbrev m_X7_takeDraft : ax_M := (yX7_takeDraft, cX7_takeDraft, 2, (Option.none : Option FieldType))
abbrev m_X7_lay : ax_M := (yX7_lay, cX7_lay, 1, (Option.some FieldType.int))
abbrev m_X7_copy : ax_M := (yX7_copy, cX7_copy, 4, (Option.none : Option FieldType))
abbrev m_X7_know : ax_M := (yX7_know, cX7_know, 2, (Option.none : Option FieldType))
abbrev m_X7_isStatement : ax_M := (yX7_isStatement, cX7_isStatement, 2, (Option.some FieldType.boolean))
abbrev m_X7_isVerdict : ax_M := (yX7_isVerdict, cX7_isVerdict, 2, (Option.some FieldType.boolean))
abbrev m_X7_isStruck : ax_M := (yX7_isStruck, cX7_isStruck, 2, (Option.some FieldType.boolean))
abbrev m_X7_statement : ax_M := (yX7_statement, cX7_statement, 3, (Option.some FieldType.int))
abbrev m_X7_behind : ax_M := (yX7_behind, cX7_behind, 3, (Option.some FieldType.int))
abbrev m_X7_said : ax_M := (yX7_said, cX7_said, 3, (Option.some FieldType.int))
abbrev m_X7_next : ax_M := (yX7_next, cX7_next, 1, (Option.some FieldType.int))
abbrev m_X7_argue : ax_M := (yX7_argue, cX7_argue, 2, (Option.some FieldType.int))
abbrev m_X7_drop : ax_M := (yX7_drop, cX7_drop, 2, (Option.some FieldType.int))
abbrev m_X7_strike : ax_M := (yX7_strike, cX7_strike, 2, (Option.some FieldType.int))
abbrev m_X7_undo : ax_M := (yX7_undo, cX7_undo, 1, (Option.some FieldType.int))
abbrev m_X7_argued : ax_M := (yX7_argued, cX7_argued, 2, (Option.some FieldType.int))
abbrev m_X7_cost : ax_M := (yX7_cost, cX7_cost, 5, (Option.some FieldType.int))
abbrev m_X7_trial : ax_M := (yX7_trial, cX7_trial, 5, (Option.some FieldType.int))
abbrev m_X7_manyOf : ax_M := (yX7_manyOf, cX7_manyOf, 3, (Option.some FieldType.int))
abbrev m_X7_couldHave : ax_M := (yX7_couldHave, cX7_couldHave, 4, (Option.some FieldType.int))
abbrev m_X7_endAt : ax_M := (yX7_endAt, cX7_endAt, 5, (Option.none : Option FieldType))
abbrev m_X7_goOn : ax_M := (yX7_goOn, cX7_goOn, 11, (Option.none : Option FieldType))
abbrev m_X7_solve : ax_M := (yX7_solve, cX7_solve, 4, (Option.none : Option FieldType))
abbrev m_X7_rowOf : ax_M := (yX7_rowOf, cX7_rowOf, 1, (Option.some FieldType.int))
abbrev m_X7_hasWhole : ax_M := (yX7_hasWhole, cX7_hasWhole, 2, (Option.some FieldType.boolean))
abbrev m_X7_chains : ax_M := (yX7_chains, cX7_chains, 2, (Option.some FieldType.int))
abbrev m_X7_followFrom : ax_M := (yX7_followFrom, cX7_followFrom, 4, (Option.none : Option FieldType))
abbrev m_X7_shortest : ax_M := (yX7_shortest, cX7_shortest, 3, (Option.some FieldType.int))
abbrev m_X7_nights : ax_M := (yX7_nights, cX7_nights, 2, (Option.some FieldType.int))
abbrev m_X7_needed : ax_M := (yX7_needed, cX7_needed, 2, (Option.some FieldType.int))
abbrev m_X7_forgotten : ax_M := (yX7_forgotten, cX7_forgotten, 4, (Option.some FieldType.int))
abbrev m_X7_costTo : ax_M := (yX7_costTo, cX7_costTo, 2, (Option.some FieldType.int))
abbrev m_X7_both : ax_M := (yX7_both, cX7_both, 8, (Option.some FieldType.int))
abbrev m_X7_byTurns : ax_M := (yX7_byTurns, cX7_byTurns, 8, (Option.some FieldType.int))
abbrev m_X7_days : ax_M := (yX7_days, cX7_days, 2, (Option.some FieldType.int))
abbrev m_X7_who : ax_M := (yX7_who, cX7_who, 2, (Option.some FieldType.int))
abbrev m_X7_fitting : ax_M := (yX7_fitting, cX7_fitting, 5, (Option.some FieldType.int))
abbrev m_X7_fits : ax_M := (yX7_fits, cX7_fits, 2, (Option.some FieldType.int))
abbrev m_X7_look : ax_M := (yX7_look, cX7_look, 8, (Option.some FieldType.int))
abbrev m_X7_laid : ax_M := (yX7_laid, cX7_laid, 5, (Option.some FieldType.int))
abbrev m_X7_odds : ax_M := (yX7_odds, cX7_odds, 10, (Option.some FieldType.int))
abbrev m_X7_trialBy : ax_M := (yX7_trialBy, cX7_trialBy, 12, (Option.some FieldType.int))
abbrev m_X7_keep : ax_M := (yX7_keep, cX7_keep, 1, (Option.some FieldType.int))
abbrev m_X7_back : ax_M := (yX7_back, cX7_back, 1, (Option.some FieldType.int))
abbrev m_X7_count : ax_M := (yX7_count, cX7_count, 2, (Option.some FieldType.int))
abbrev m_J6_bitCount_0f7a4 : ax_M := (yJ6_bitCount_0f7a4, cJ6_bitCount_0f7a4, 1, (Option.some FieldType.int))
abbrev m_J9_max_7cf53 : ax_M := (yJ9_max_7cf53, cJ9_max_7cf53, 2, (Option.some FieldType.int))
abbrev m_J9_min_7cf53 : ax_M := (yJ9_min_7cf53, cJ9_min_7cf53, 2, (Option.some FieldType.int))
abbrev m_J0_length_8abf5 : ax_M := (yJ0_length_8abf5, cJ0_length_8abf5, 1, (Option.some FieldType.int))
abbrev m_J0_charAt_5068e : ax_M := (yJ0_charAt_5068e, cJ0_charAt_5068e, 2, (Option.some FieldType.char))
abbrev m_J0_coder_7d493 : ax_M := (yJ0_coder_7d493, cJ0_coder_7d493, 1, (Option.some FieldType.byte))
abbrev m_J0_isLatin1_aae02 : ax_M := (yJ0_isLatin1_aae02, cJ0_isLatin1_aae02, 1, (Option.some FieldType.boolean))
abbrev m_J0_checkIndex_df160 : ax_M := (yJ0_checkIndex_df160, cJ0_checkIndex_df160, 2, (Option.none : Option FieldType))
abbrev m_J1_charAt_3b067 : ax_M := (yJ1_charAt_3b067, cJ1_charAt_3b067, 2, (Option.some FieldType.char))
abbrev m_J2_getChar_3b067 : ax_M := (yJ2_getChar_3b067, cJ2_getChar_3b067, 2, (Option.some FieldType.char))
abbrev m_J2_length_9d52b : ax_M := (yJ2_length_9d52b, cJ2_length_9d52b, 1, (Option.some FieldType.int))
abbrev m_J2_charAt_3b067 : ax_M := (yJ2_charAt_3b067, cJ2_charAt_3b067, 2, (Option.some FieldType.char))
abbrev m_J2_checkIndex_2214a : ax_M := (yJ2_checkIndex_2214a, cJ2_checkIndex_2214a, 2, (Option.none : Option FieldType))
abbrev m_J3_checkIndex_8e157 : ax_M := (yJ3_checkIndex_8e157, cJ3_checkIndex_8e157, 3, (Option.some FieldType.int))
theorem kI_L : Cond.initialized RL ∈ TB := TB_in (List.mem_of_getElem? (i := 58) (by decide +kernel)) rfl
theorem kI_X6 : Cond.initialized RX6 ∈ TB := TB_in (List.mem_of_getElem? (i := 59) (by decide +kernel)) rfl
theorem kI_X3 : Cond.initialized RX3 ∈ TB := TB_in (List.mem_of_getElem? (i := 60) (by decide +kernel)) rfl
theorem kI_X2 : Cond.initialized RX2 ∈ TB := TB_in (List.mem_of_getElem? (i := 61) (by decide +kernel)) rfl
theorem kI_X0 : Cond.initialized RX0 ∈ TB := TB_in (List.mem_of_getElem? (i := 62) (by decide +kernel)) rfl
theorem kI_X1 : Cond.initialized RX1 ∈ TB := TB_in (List.mem_of_getElem? (i := 63) (by decide +kernel)) rfl
theorem kI_X4 : Cond.initialized RX4 ∈ TB := TB_in (List.mem_of_getElem? (i := 64) (by decide +kernel)) rfl
theorem kI_J9 : Cond.initialized RJ9 ∈ TB := TB_in (List.mem_of_getElem? (i := 65) (by decide +kernel)) rfl
theorem kI_X5 : Cond.initialized RX5 ∈ TB := TB_in (List.mem_of_getElem? (i := 66) (by decide +kernel)) rfl
theorem kI_J0 : Cond.initialized RJ0 ∈ TB := TB_in (List.mem_of_getElem? (i := 67) (by decide +kernel)) rfl
theorem kI_J1 : Cond.initialized RJ1 ∈ TB := TB_in (List.mem_of_getElem? (i := 68) (by decide +kernel)) rfl
theorem kI_J3 : Cond.initialized RJ3 ∈ TB := TB_in (List.mem_of_getElem? (i := 69) (by decide +kernel)) rfl
theorem kI_J2 : Cond.initialized RJ2 ∈ TB := TB_in (List.mem_of_getElem? (i := 70) (by decide +kernel)) rfl
theorem kI_X7 : Cond.initialized RX7 ∈ TB := TB_in (List.mem_of_getElem? (i := 71) (by decide +kernel)) rfl
theorem kI_J10 : Cond.initialized RJ10 ∈ TB := TB_in (List.mem_of_getElem? (i := 72) (by decide +kernel)) rfl
theorem kI_J6 : Cond.initialized RJ6 ∈ TB := TB_in (List.mem_of_getElem? (i := 73) (by decide +kernel)) rfl
theorem k0_X0_init : Lk0 m_X0_init 0 := ⟨TB_in (List.mem_of_getElem? (i := 115) (by decide +kernel)) rfl, kI_X0, ⟨by decide +kernel, by decide +kernel, by decide +kernel⟩, by decide +kernel, by decide +kernel⟩
theorem kM_X0_init : Cond.instanceMethod yX0_init ∈ TB := TB_in (List.mem_of_getElem? (i := 114) (by decide +kernel)) rfl
theorem k0_X0_clear : Lk0 m_X0_clear 0 := ⟨TB_in (List.mem_of_getElem? (i := 305) (by decide +kernel)) rfl, kI_X0, ⟨by decide +kernel, by decide +kernel, by decide +kernel⟩, by decide +kernel, by decide +kernel⟩
theorem kM_X0_clear : Cond.instanceMethod yX0_clear ∈ TB := TB_in (List.mem_of_getElem? (i := 304) (by decide +kernel)) rfl
theorem kE_X0_clear : Cond.selects yX0_clear.cls yX0_clear yX0_clear ∈ TB := TB_in (List.mem_of_getElem? (i := 3) (by decide +kernel)) rfl
theorem k0_X0_copyFrom : Lk0 m_X0_copyFrom 1 := ⟨TB_in (List.mem_of_getElem? (i := 418) (by decide +kernel)) rfl, kI_X0, ⟨by decide +kernel, by decide +kernel, by decide +kernel⟩, by decide +kernel, by decide +kernel⟩
theorem kM_X0_copyFrom : Cond.instanceMethod yX0_copyFrom ∈ TB := TB_in (List.mem_of_getElem? (i := 417) (by decide +kernel)) rfl
theorem kE_X0_copyFrom : Cond.selects yX0_copyFrom.cls yX0_copyFrom yX0_copyFrom ∈ TB := TB_in (List.mem_of_getElem? (i := 14) (by decide +kernel)) rfl
theorem k0_X0_addStatement : Lk0 m_X0_addStatement 3 := ⟨TB_in (List.mem_of_getElem? (i := 335) (by decide +kernel)) rfl, kI_X0, ⟨by decide +kernel, by decide +kernel, by decide +kernel⟩, by decide +kernel, by decide +kernel⟩
theorem kM_X0_addStatement : Cond.instanceMethod yX0_addStatement ∈ TB := TB_in (List.mem_of_getElem? (i := 334) (by decide +kernel)) rfl
theorem kE_X0_addStatement : Cond.selects yX0_addStatement.cls yX0_addStatement yX0_addStatement ∈ TB := TB_in (List.mem_of_getElem? (i := 7) (by decide +kernel)) rfl
theorem k0_X0_addVerdict : Lk0 m_X0_addVerdict 1 := ⟨TB_in (List.mem_of_getElem? (i := 343) (by decide +kernel)) rfl, kI_X0, ⟨by decide +kernel, by decide +kernel, by decide +kernel⟩, by decide +kernel, by decide +kernel⟩
theorem kM_X0_addVerdict : Cond.instanceMethod yX0_addVerdict ∈ TB := TB_in (List.mem_of_getElem? (i := 342) (by decide +kernel)) rfl
theorem kE_X0_addVerdict : Cond.selects yX0_addVerdict.cls yX0_addVerdict yX0_addVerdict ∈ TB := TB_in (List.mem_of_getElem? (i := 8) (by decide +kernel)) rfl
theorem k0_X0_addHang : Lk0 m_X0_addHang 2 := ⟨TB_in (List.mem_of_getElem? (i := 359) (by decide +kernel)) rfl, kI_X0, ⟨by decide +kernel, by decide +kernel, by decide +kernel⟩, by decide +kernel, by decide +kernel⟩
theorem kM_X0_addHang : Cond.instanceMethod yX0_addHang ∈ TB := TB_in (List.mem_of_getElem? (i := 358) (by decide +kernel)) rfl
theorem kE_X0_addHang : Cond.selects yX0_addHang.cls yX0_addHang yX0_addHang ∈ TB := TB_in (List.mem_of_getElem? (i := 11) (by decide +kernel)) rfl
theorem k0_X0_addPerson : Lk0 m_X0_addPerson 2 := ⟨TB_in (List.mem_of_getElem? (i := 363) (by decide +kernel)) rfl, kI_X0, ⟨by decide +kernel, by decide +kernel, by decide +kernel⟩, by decide +kernel, by decide +kernel⟩
theorem kM_X0_addPerson : Cond.instanceMethod yX0_addPerson ∈ TB := TB_in (List.mem_of_getElem? (i := 362) (by decide +kernel)) rfl
theorem kE_X0_addPerson : Cond.selects yX0_addPerson.cls yX0_addPerson yX0_addPerson ∈ TB := TB_in (List.mem_of_getElem? (i := 12) (by decide +kernel)) rfl
theorem k0_X0_isStatement : Lk0 m_X0_isStatement 1 := ⟨TB_in (List.mem_of_getElem? (i := 347) (by decide +kernel)) rfl, kI_X0, ⟨by decide +kernel, by decide +kernel, by decide +kernel⟩, by decide +kernel, by decide +kernel⟩
theorem kM_X0_isStatement : Cond.instanceMethod yX0_isStatement ∈ TB := TB_in (List.mem_of_getElem? (i := 346) (by decide +kernel)) rfl
theorem kE_X0_isStatement : Cond.selects yX0_isStatement.cls yX0_isStatement yX0_isStatement ∈ TB := TB_in (List.mem_of_getElem? (i := 9) (by decide +kernel)) rfl
theorem k0_X0_isNight : Lk0 m_X0_isNight 1 := ⟨TB_in (List.mem_of_getElem? (i := 351) (by decide +kernel)) rfl, kI_X0, ⟨by decide +kernel, by decide +kernel, by decide +kernel⟩, by decide +kernel, by decide +kernel⟩
theorem kM_X0_isNight : Cond.instanceMethod yX0_isNight ∈ TB := TB_in (List.mem_of_getElem? (i := 350) (by decide +kernel)) rfl
theorem kE_X0_isNight : Cond.selects yX0_isNight.cls yX0_isNight yX0_isNight ∈ TB := TB_in (List.mem_of_getElem? (i := 10) (by decide +kernel)) rfl
theorem k0_X0_isVerdict : Lk0 m_X0_isVerdict 1 := ⟨TB_in (List.mem_of_getElem? (i := 439) (by decide +kernel)) rfl, kI_X0, ⟨by decide +kernel, by decide +kernel, by decide +kernel⟩, by decide +kernel, by decide +kernel⟩
theorem kM_X0_isVerdict : Cond.instanceMethod yX0_isVerdict ∈ TB := TB_in (List.mem_of_getElem? (i := 438) (by decide +kernel)) rfl
theorem kE_X0_isVerdict : Cond.selects yX0_isVerdict.cls yX0_isVerdict yX0_isVerdict ∈ TB := TB_in (List.mem_of_getElem? (i := 17) (by decide +kernel)) rfl
theorem k0_X0_all : Lk0 m_X0_all 0 := ⟨TB_in (List.mem_of_getElem? (i := 577) (by decide +kernel)) rfl, kI_X0, ⟨by decide +kernel, by decide +kernel, by decide +kernel⟩, by decide +kernel, by decide +kernel⟩
theorem kM_X0_all : Cond.instanceMethod yX0_all ∈ TB := TB_in (List.mem_of_getElem? (i := 576) (by decide +kernel)) rfl
theorem kE_X0_all : Cond.selects yX0_all.cls yX0_all yX0_all ∈ TB := TB_in (List.mem_of_getElem? (i := 31) (by decide +kernel)) rfl
theorem k0_X0_doers : Lk0 m_X0_doers 1 := ⟨TB_in (List.mem_of_getElem? (i := 598) (by decide +kernel)) rfl, kI_X0, ⟨by decide +kernel, by decide +kernel, by decide +kernel⟩, by decide +kernel, by decide +kernel⟩
theorem kM_X0_doers : Cond.instanceMethod yX0_doers ∈ TB := TB_in (List.mem_of_getElem? (i := 597) (by decide +kernel)) rfl
theorem kE_X0_doers : Cond.selects yX0_doers.cls yX0_doers yX0_doers ∈ TB := TB_in (List.mem_of_getElem? (i := 33) (by decide +kernel)) rfl
theorem k0_X0_costOf : Lk0 m_X0_costOf 2 := ⟨TB_in (List.mem_of_getElem? (i := 518) (by decide +kernel)) rfl, kI_X0, ⟨by decide +kernel, by decide +kernel, by decide +kernel⟩, by decide +kernel, by decide +kernel⟩
theorem kM_X0_costOf : Cond.instanceMethod yX0_costOf ∈ TB := TB_in (List.mem_of_getElem? (i := 517) (by decide +kernel)) rfl
theorem kE_X0_costOf : Cond.selects yX0_costOf.cls yX0_costOf yX0_costOf ∈ TB := TB_in (List.mem_of_getElem? (i := 25) (by decide +kernel)) rfl
theorem k0_X0_daysOf : Lk0 m_X0_daysOf 2 := ⟨TB_in (List.mem_of_getElem? (i := 554) (by decide +kernel)) rfl, kI_X0, ⟨by decide +kernel, by decide +kernel, by decide +kernel⟩, by decide +kernel, by decide +kernel⟩
theorem kM_X0_daysOf : Cond.instanceMethod yX0_daysOf ∈ TB := TB_in (List.mem_of_getElem? (i := 553) (by decide +kernel)) rfl
theorem kE_X0_daysOf : Cond.selects yX0_daysOf.cls yX0_daysOf yX0_daysOf ∈ TB := TB_in (List.mem_of_getElem? (i := 30) (by decide +kernel)) rfl
theorem k0_X1_init : Lk0 m_X1_init 0 := ⟨TB_in (List.mem_of_getElem? (i := 154) (by decide +kernel)) rfl, kI_X1, ⟨by decide +kernel, by decide +kernel, by decide +kernel⟩, by decide +kernel, by decide +kernel⟩
theorem kM_X1_init : Cond.instanceMethod yX1_init ∈ TB := TB_in (List.mem_of_getElem? (i := 153) (by decide +kernel)) rfl
theorem k0_X1_clear : Lk0 m_X1_clear 0 := ⟨TB_in (List.mem_of_getElem? (i := 425) (by decide +kernel)) rfl, kI_X1, ⟨by decide +kernel, by decide +kernel, by decide +kernel⟩, by decide +kernel, by decide +kernel⟩
theorem kM_X1_clear : Cond.instanceMethod yX1_clear ∈ TB := TB_in (List.mem_of_getElem? (i := 424) (by decide +kernel)) rfl
theorem kE_X1_clear : Cond.selects yX1_clear.cls yX1_clear yX1_clear ∈ TB := TB_in (List.mem_of_getElem? (i := 15) (by decide +kernel)) rfl
theorem k0_X1_copyFrom : Lk0 m_X1_copyFrom 1 := ⟨TB_in (List.mem_of_getElem? (i := 475) (by decide +kernel)) rfl, kI_X1, ⟨by decide +kernel, by decide +kernel, by decide +kernel⟩, by decide +kernel, by decide +kernel⟩
theorem kM_X1_copyFrom : Cond.instanceMethod yX1_copyFrom ∈ TB := TB_in (List.mem_of_getElem? (i := 474) (by decide +kernel)) rfl
theorem kE_X1_copyFrom : Cond.selects yX1_copyFrom.cls yX1_copyFrom yX1_copyFrom ∈ TB := TB_in (List.mem_of_getElem? (i := 22) (by decide +kernel)) rfl
theorem k0_X1_add : Lk0 m_X1_add 1 := ⟨TB_in (List.mem_of_getElem? (i := 483) (by decide +kernel)) rfl, kI_X1, ⟨by decide +kernel, by decide +kernel, by decide +kernel⟩, by decide +kernel, by decide +kernel⟩
theorem kM_X1_add : Cond.instanceMethod yX1_add ∈ TB := TB_in (List.mem_of_getElem? (i := 482) (by decide +kernel)) rfl
theorem kE_X1_add : Cond.selects yX1_add.cls yX1_add yX1_add ∈ TB := TB_in (List.mem_of_getElem? (i := 23) (by decide +kernel)) rfl
theorem k0_X1_members : Lk0 m_X1_members 0 := ⟨TB_in (List.mem_of_getElem? (i := 459) (by decide +kernel)) rfl, kI_X1, ⟨by decide +kernel, by decide +kernel, by decide +kernel⟩, by decide +kernel, by decide +kernel⟩
theorem kM_X1_members : Cond.instanceMethod yX1_members ∈ TB := TB_in (List.mem_of_getElem? (i := 458) (by decide +kernel)) rfl
theorem kE_X1_members : Cond.selects yX1_members.cls yX1_members yX1_members ∈ TB := TB_in (List.mem_of_getElem? (i := 19) (by decide +kernel)) rfl
theorem k0_X1_open : Lk0 m_X1_open 1 := ⟨TB_in (List.mem_of_getElem? (i := 454) (by decide +kernel)) rfl, kI_X1, ⟨by decide +kernel, by decide +kernel, by decide +kernel⟩, by decide +kernel, by decide +kernel⟩
theorem kM_X1_open : Cond.instanceMethod yX1_open ∈ TB := TB_in (List.mem_of_getElem? (i := 453) (by decide +kernel)) rfl
theorem kE_X1_open : Cond.selects yX1_open.cls yX1_open yX1_open ∈ TB := TB_in (List.mem_of_getElem? (i := 18) (by decide +kernel)) rfl
theorem k0_X1_isEnded : Lk0 m_X1_isEnded 1 := ⟨TB_in (List.mem_of_getElem? (i := 522) (by decide +kernel)) rfl, kI_X1, ⟨by decide +kernel, by decide +kernel, by decide +kernel⟩, by decide +kernel, by decide +kernel⟩
theorem kM_X1_isEnded : Cond.instanceMethod yX1_isEnded ∈ TB := TB_in (List.mem_of_getElem? (i := 521) (by decide +kernel)) rfl
theorem kE_X1_isEnded : Cond.selects yX1_isEnded.cls yX1_isEnded yX1_isEnded ∈ TB := TB_in (List.mem_of_getElem? (i := 26) (by decide +kernel)) rfl
theorem k0_X1_isStuck : Lk0 m_X1_isStuck 1 := ⟨TB_in (List.mem_of_getElem? (i := 527) (by decide +kernel)) rfl, kI_X1, ⟨by decide +kernel, by decide +kernel, by decide +kernel⟩, by decide +kernel, by decide +kernel⟩
theorem kM_X1_isStuck : Cond.instanceMethod yX1_isStuck ∈ TB := TB_in (List.mem_of_getElem? (i := 526) (by decide +kernel)) rfl
theorem kE_X1_isStuck : Cond.selects yX1_isStuck.cls yX1_isStuck yX1_isStuck ∈ TB := TB_in (List.mem_of_getElem? (i := 27) (by decide +kernel)) rfl
theorem k0_X2_init : Lk0 m_X2_init 0 := ⟨TB_in (List.mem_of_getElem? (i := 102) (by decide +kernel)) rfl, kI_X2, ⟨by decide +kernel, by decide +kernel, by decide +kernel⟩, by decide +kernel, by decide +kernel⟩
theorem kM_X2_init : Cond.instanceMethod yX2_init ∈ TB := TB_in (List.mem_of_getElem? (i := 101) (by decide +kernel)) rfl
theorem k0_X2_readAll : Lk0 m_X2_readAll 2 := ⟨TB_in (List.mem_of_getElem? (i := 301) (by decide +kernel)) rfl, kI_X2, ⟨by decide +kernel, by decide +kernel, by decide +kernel⟩, by decide +kernel, by decide +kernel⟩
theorem kM_X2_readAll : Cond.instanceMethod yX2_readAll ∈ TB := TB_in (List.mem_of_getElem? (i := 300) (by decide +kernel)) rfl
theorem kE_X2_readAll : Cond.selects yX2_readAll.cls yX2_readAll yX2_readAll ∈ TB := TB_in (List.mem_of_getElem? (i := 2) (by decide +kernel)) rfl
theorem k0_X2_readNumbers : Lk0 m_X2_readNumbers 2 := ⟨TB_in (List.mem_of_getElem? (i := 309) (by decide +kernel)) rfl, kI_X2, ⟨by decide +kernel, by decide +kernel, by decide +kernel⟩, by decide +kernel, by decide +kernel⟩
theorem kM_X2_readNumbers : Cond.instanceMethod yX2_readNumbers ∈ TB := TB_in (List.mem_of_getElem? (i := 308) (by decide +kernel)) rfl
theorem kE_X2_readNumbers : Cond.selects yX2_readNumbers.cls yX2_readNumbers yX2_readNumbers ∈ TB := TB_in (List.mem_of_getElem? (i := 4) (by decide +kernel)) rfl
theorem k0_X2_figuresFrom : Lk0 m_X2_figuresFrom 2 := ⟨TB_in (List.mem_of_getElem? (i := 312) (by decide +kernel)) rfl, kI_X2, ⟨by decide +kernel, by decide +kernel, by decide +kernel⟩, by decide +kernel, by decide +kernel⟩
theorem kS_X2_figuresFrom : Cond.static yX2_figuresFrom ∈ TB := TB_in (List.mem_of_getElem? (i := 311) (by decide +kernel)) rfl
theorem k0_X2_numberFrom : Lk0 m_X2_numberFrom 3 := ⟨TB_in (List.mem_of_getElem? (i := 325) (by decide +kernel)) rfl, kI_X2, ⟨by decide +kernel, by decide +kernel, by decide +kernel⟩, by decide +kernel, by decide +kernel⟩
theorem kS_X2_numberFrom : Cond.static yX2_numberFrom ∈ TB := TB_in (List.mem_of_getElem? (i := 324) (by decide +kernel)) rfl
theorem k0_X2_isFigure : Lk0 m_X2_isFigure 1 := ⟨TB_in (List.mem_of_getElem? (i := 322) (by decide +kernel)) rfl, kI_X2, ⟨by decide +kernel, by decide +kernel, by decide +kernel⟩, by decide +kernel, by decide +kernel⟩
theorem kS_X2_isFigure : Cond.static yX2_isFigure ∈ TB := TB_in (List.mem_of_getElem? (i := 321) (by decide +kernel)) rfl
theorem k0_X2_tell : Lk0 m_X2_tell 2 := ⟨TB_in (List.mem_of_getElem? (i := 330) (by decide +kernel)) rfl, kI_X2, ⟨by decide +kernel, by decide +kernel, by decide +kernel⟩, by decide +kernel, by decide +kernel⟩
theorem kM_X2_tell : Cond.instanceMethod yX2_tell ∈ TB := TB_in (List.mem_of_getElem? (i := 329) (by decide +kernel)) rfl
theorem kE_X2_tell : Cond.selects yX2_tell.cls yX2_tell yX2_tell ∈ TB := TB_in (List.mem_of_getElem? (i := 6) (by decide +kernel)) rfl
theorem k0_X3_init : Lk0 m_X3_init 0 := ⟨TB_in (List.mem_of_getElem? (i := 86) (by decide +kernel)) rfl, kI_X3, ⟨by decide +kernel, by decide +kernel, by decide +kernel⟩, by decide +kernel, by decide +kernel⟩
theorem kM_X3_init : Cond.instanceMethod yX3_init ∈ TB := TB_in (List.mem_of_getElem? (i := 85) (by decide +kernel)) rfl
theorem k0_X3_add : Lk0 m_X3_add 1 := ⟨TB_in (List.mem_of_getElem? (i := 294) (by decide +kernel)) rfl, kI_X3, ⟨by decide +kernel, by decide +kernel, by decide +kernel⟩, by decide +kernel, by decide +kernel⟩
theorem kM_X3_add : Cond.instanceMethod yX3_add ∈ TB := TB_in (List.mem_of_getElem? (i := 293) (by decide +kernel)) rfl
theorem kE_X3_add : Cond.selects yX3_add.cls yX3_add yX3_add ∈ TB := TB_in (List.mem_of_getElem? (i := 1) (by decide +kernel)) rfl
theorem k0_X3_addAll : Lk0 m_X3_addAll 1 := ⟨TB_in (List.mem_of_getElem? (i := 242) (by decide +kernel)) rfl, kI_X3, ⟨by decide +kernel, by decide +kernel, by decide +kernel⟩, by decide +kernel, by decide +kernel⟩
theorem kM_X3_addAll : Cond.instanceMethod yX3_addAll ∈ TB := TB_in (List.mem_of_getElem? (i := 241) (by decide +kernel)) rfl
theorem kE_X3_addAll : Cond.selects yX3_addAll.cls yX3_addAll yX3_addAll ∈ TB := TB_in (List.mem_of_getElem? (i := 0) (by decide +kernel)) rfl
theorem k0_X3_clear : Lk0 m_X3_clear 0 := ⟨TB_in (List.mem_of_getElem? (i := 367) (by decide +kernel)) rfl, kI_X3, ⟨by decide +kernel, by decide +kernel, by decide +kernel⟩, by decide +kernel, by decide +kernel⟩
theorem kM_X3_clear : Cond.instanceMethod yX3_clear ∈ TB := TB_in (List.mem_of_getElem? (i := 366) (by decide +kernel)) rfl
theorem kE_X3_clear : Cond.selects yX3_clear.cls yX3_clear yX3_clear ∈ TB := TB_in (List.mem_of_getElem? (i := 13) (by decide +kernel)) rfl
theorem k0_X3_letterAt : Lk0 m_X3_letterAt 1 := ⟨TB_in (List.mem_of_getElem? (i := 316) (by decide +kernel)) rfl, kI_X3, ⟨by decide +kernel, by decide +kernel, by decide +kernel⟩, by decide +kernel, by decide +kernel⟩
theorem kM_X3_letterAt : Cond.instanceMethod yX3_letterAt ∈ TB := TB_in (List.mem_of_getElem? (i := 315) (by decide +kernel)) rfl
theorem kE_X3_letterAt : Cond.selects yX3_letterAt.cls yX3_letterAt yX3_letterAt ∈ TB := TB_in (List.mem_of_getElem? (i := 5) (by decide +kernel)) rfl
theorem k0_X4_init : Lk0 m_X4_init 1 := ⟨TB_in (List.mem_of_getElem? (i := 173) (by decide +kernel)) rfl, kI_X4, ⟨by decide +kernel, by decide +kernel, by decide +kernel⟩, by decide +kernel, by decide +kernel⟩
theorem kM_X4_init : Cond.instanceMethod yX4_init ∈ TB := TB_in (List.mem_of_getElem? (i := 172) (by decide +kernel)) rfl
theorem k0_X4_clear : Lk0 m_X4_clear 0 := ⟨TB_in (List.mem_of_getElem? (i := 429) (by decide +kernel)) rfl, kI_X4, ⟨by decide +kernel, by decide +kernel, by decide +kernel⟩, by decide +kernel, by decide +kernel⟩
theorem kM_X4_clear : Cond.instanceMethod yX4_clear ∈ TB := TB_in (List.mem_of_getElem? (i := 428) (by decide +kernel)) rfl
theorem kE_X4_clear : Cond.selects yX4_clear.cls yX4_clear yX4_clear ∈ TB := TB_in (List.mem_of_getElem? (i := 16) (by decide +kernel)) rfl
theorem k0_X4_add : Lk0 m_X4_add 1 := ⟨TB_in (List.mem_of_getElem? (i := 467) (by decide +kernel)) rfl, kI_X4, ⟨by decide +kernel, by decide +kernel, by decide +kernel⟩, by decide +kernel, by decide +kernel⟩
theorem kM_X4_add : Cond.instanceMethod yX4_add ∈ TB := TB_in (List.mem_of_getElem? (i := 466) (by decide +kernel)) rfl
theorem kE_X4_add : Cond.selects yX4_add.cls yX4_add yX4_add ∈ TB := TB_in (List.mem_of_getElem? (i := 20) (by decide +kernel)) rfl
theorem k0_X4_takeLatest : Lk0 m_X4_takeLatest 1 := ⟨TB_in (List.mem_of_getElem? (i := 502) (by decide +kernel)) rfl, kI_X4, ⟨by decide +kernel, by decide +kernel, by decide +kernel⟩, by decide +kernel, by decide +kernel⟩
theorem kM_X4_takeLatest : Cond.instanceMethod yX4_takeLatest ∈ TB := TB_in (List.mem_of_getElem? (i := 501) (by decide +kernel)) rfl
theorem kE_X4_takeLatest : Cond.selects yX4_takeLatest.cls yX4_takeLatest yX4_takeLatest ∈ TB := TB_in (List.mem_of_getElem? (i := 24) (by decide +kernel)) rfl
theorem k0_X4_placeAt : Lk0 m_X4_placeAt 1 := ⟨TB_in (List.mem_of_getElem? (i := 471) (by decide +kernel)) rfl, kI_X4, ⟨by decide +kernel, by decide +kernel, by decide +kernel⟩, by decide +kernel, by decide +kernel⟩
theorem kM_X4_placeAt : Cond.instanceMethod yX4_placeAt ∈ TB := TB_in (List.mem_of_getElem? (i := 470) (by decide +kernel)) rfl
theorem kE_X4_placeAt : Cond.selects yX4_placeAt.cls yX4_placeAt yX4_placeAt ∈ TB := TB_in (List.mem_of_getElem? (i := 21) (by decide +kernel)) rfl
theorem k0_X5_init : Lk0 m_X5_init 0 := ⟨TB_in (List.mem_of_getElem? (i := 196) (by decide +kernel)) rfl, kI_X5, ⟨by decide +kernel, by decide +kernel, by decide +kernel⟩, by decide +kernel, by decide +kernel⟩
theorem kM_X5_init : Cond.instanceMethod yX5_init ∈ TB := TB_in (List.mem_of_getElem? (i := 195) (by decide +kernel)) rfl
theorem k0_X5_walkAll : Lk0 m_X5_walkAll 3 := ⟨TB_in (List.mem_of_getElem? (i := 537) (by decide +kernel)) rfl, kI_X5, ⟨by decide +kernel, by decide +kernel, by decide +kernel⟩, by decide +kernel, by decide +kernel⟩
theorem kM_X5_walkAll : Cond.instanceMethod yX5_walkAll ∈ TB := TB_in (List.mem_of_getElem? (i := 536) (by decide +kernel)) rfl
theorem kE_X5_walkAll : Cond.selects yX5_walkAll.cls yX5_walkAll yX5_walkAll ∈ TB := TB_in (List.mem_of_getElem? (i := 28) (by decide +kernel)) rfl
theorem k0_X5_walk : Lk0 m_X5_walk 5 := ⟨TB_in (List.mem_of_getElem? (i := 543) (by decide +kernel)) rfl, kI_X5, ⟨by decide +kernel, by decide +kernel, by decide +kernel⟩, by decide +kernel, by decide +kernel⟩
theorem kS_X5_walk : Cond.static yX5_walk ∈ TB := TB_in (List.mem_of_getElem? (i := 542) (by decide +kernel)) rfl
theorem k0_X5_note : Lk0 m_X5_note 3 := ⟨TB_in (List.mem_of_getElem? (i := 549) (by decide +kernel)) rfl, kI_X5, ⟨by decide +kernel, by decide +kernel, by decide +kernel⟩, by decide +kernel, by decide +kernel⟩
theorem kM_X5_note : Cond.instanceMethod yX5_note ∈ TB := TB_in (List.mem_of_getElem? (i := 548) (by decide +kernel)) rfl
theorem kE_X5_note : Cond.selects yX5_note.cls yX5_note yX5_note ∈ TB := TB_in (List.mem_of_getElem? (i := 29) (by decide +kernel)) rfl
theorem k0_X6_init : Lk0 m_X6_init 0 := ⟨TB_in (List.mem_of_getElem? (i := 78) (by decide +kernel)) rfl, kI_X6, ⟨by decide +kernel, by decide +kernel, by decide +kernel⟩, by decide +kernel, by decide +kernel⟩
theorem kM_X6_init : Cond.instanceMethod yX6_init ∈ TB := TB_in (List.mem_of_getElem? (i := 77) (by decide +kernel)) rfl
theorem k0_X6_write : Lk0 m_X6_write 1 := ⟨TB_in (List.mem_of_getElem? (i := 400) (by decide +kernel)) rfl, kI_X6, ⟨by decide +kernel, by decide +kernel, by decide +kernel⟩, by decide +kernel, by decide +kernel⟩
theorem kM_X6_write : Cond.instanceMethod yX6_write ∈ TB := TB_in (List.mem_of_getElem? (i := 398) (by decide +kernel)) rfl
theorem kE_X6_write : Cond.selects yX6_write.cls yX6_write yX6_write ∈ TB := TB_in (List.mem_of_getElem? (i := 399) (by decide +kernel)) rfl
theorem k0_X6_wipe : Lk0 m_X6_wipe 0 := ⟨TB_in (List.mem_of_getElem? (i := 406) (by decide +kernel)) rfl, kI_X6, ⟨by decide +kernel, by decide +kernel, by decide +kernel⟩, by decide +kernel, by decide +kernel⟩
theorem kM_X6_wipe : Cond.instanceMethod yX6_wipe ∈ TB := TB_in (List.mem_of_getElem? (i := 404) (by decide +kernel)) rfl
theorem kE_X6_wipe : Cond.selects yX6_wipe.cls yX6_wipe yX6_wipe ∈ TB := TB_in (List.mem_of_getElem? (i := 405) (by decide +kernel)) rfl
theorem k0_X6_fault : Lk0 m_X6_fault 0 := ⟨TB_in (List.mem_of_getElem? (i := 410) (by decide +kernel)) rfl, kI_X6, ⟨by decide +kernel, by decide +kernel, by decide +kernel⟩, by decide +kernel, by decide +kernel⟩
theorem kM_X6_fault : Cond.instanceMethod yX6_fault ∈ TB := TB_in (List.mem_of_getElem? (i := 408) (by decide +kernel)) rfl
theorem kE_X6_fault : Cond.selects yX6_fault.cls yX6_fault yX6_fault ∈ TB := TB_in (List.mem_of_getElem? (i := 409) (by decide +kernel)) rfl
theorem k0_X6_lay : Lk0 m_X6_lay 0 := ⟨TB_in (List.mem_of_getElem? (i := 414) (by decide +kernel)) rfl, kI_X6, ⟨by decide +kernel, by decide +kernel, by decide +kernel⟩, by decide +kernel, by decide +kernel⟩
theorem kM_X6_lay : Cond.instanceMethod yX6_lay ∈ TB := TB_in (List.mem_of_getElem? (i := 412) (by decide +kernel)) rfl
theorem kE_X6_lay : Cond.selects yX6_lay.cls yX6_lay yX6_lay ∈ TB := TB_in (List.mem_of_getElem? (i := 413) (by decide +kernel)) rfl
theorem k0_X6_statement : Lk0 m_X6_statement 2 := ⟨TB_in (List.mem_of_getElem? (i := 433) (by decide +kernel)) rfl, kI_X6, ⟨by decide +kernel, by decide +kernel, by decide +kernel⟩, by decide +kernel, by decide +kernel⟩
theorem kM_X6_statement : Cond.instanceMethod yX6_statement ∈ TB := TB_in (List.mem_of_getElem? (i := 431) (by decide +kernel)) rfl
theorem kE_X6_statement : Cond.selects yX6_statement.cls yX6_statement yX6_statement ∈ TB := TB_in (List.mem_of_getElem? (i := 432) (by decide +kernel)) rfl
theorem k0_X6_argue : Lk0 m_X6_argue 1 := ⟨TB_in (List.mem_of_getElem? (i := 450) (by decide +kernel)) rfl, kI_X6, ⟨by decide +kernel, by decide +kernel, by decide +kernel⟩, by decide +kernel, by decide +kernel⟩
theorem kM_X6_argue : Cond.instanceMethod yX6_argue ∈ TB := TB_in (List.mem_of_getElem? (i := 448) (by decide +kernel)) rfl
theorem kE_X6_argue : Cond.selects yX6_argue.cls yX6_argue yX6_argue ∈ TB := TB_in (List.mem_of_getElem? (i := 449) (by decide +kernel)) rfl
theorem k0_X6_drop : Lk0 m_X6_drop 0 := ⟨TB_in (List.mem_of_getElem? (i := 488) (by decide +kernel)) rfl, kI_X6, ⟨by decide +kernel, by decide +kernel, by decide +kernel⟩, by decide +kernel, by decide +kernel⟩
theorem kM_X6_drop : Cond.instanceMethod yX6_drop ∈ TB := TB_in (List.mem_of_getElem? (i := 486) (by decide +kernel)) rfl
theorem kE_X6_drop : Cond.selects yX6_drop.cls yX6_drop yX6_drop ∈ TB := TB_in (List.mem_of_getElem? (i := 487) (by decide +kernel)) rfl
theorem k0_X6_strike : Lk0 m_X6_strike 1 := ⟨TB_in (List.mem_of_getElem? (i := 492) (by decide +kernel)) rfl, kI_X6, ⟨by decide +kernel, by decide +kernel, by decide +kernel⟩, by decide +kernel, by decide +kernel⟩
theorem kM_X6_strike : Cond.instanceMethod yX6_strike ∈ TB := TB_in (List.mem_of_getElem? (i := 490) (by decide +kernel)) rfl
theorem kE_X6_strike : Cond.selects yX6_strike.cls yX6_strike yX6_strike ∈ TB := TB_in (List.mem_of_getElem? (i := 491) (by decide +kernel)) rfl
theorem k0_X6_undo : Lk0 m_X6_undo 0 := ⟨TB_in (List.mem_of_getElem? (i := 498) (by decide +kernel)) rfl, kI_X6, ⟨by decide +kernel, by decide +kernel, by decide +kernel⟩, by decide +kernel, by decide +kernel⟩
theorem kM_X6_undo : Cond.instanceMethod yX6_undo ∈ TB := TB_in (List.mem_of_getElem? (i := 496) (by decide +kernel)) rfl
theorem kE_X6_undo : Cond.selects yX6_undo.cls yX6_undo yX6_undo ∈ TB := TB_in (List.mem_of_getElem? (i := 497) (by decide +kernel)) rfl
theorem k0_X6_argued : Lk0 m_X6_argued 1 := ⟨TB_in (List.mem_of_getElem? (i := 506) (by decide +kernel)) rfl, kI_X6, ⟨by decide +kernel, by decide +kernel, by decide +kernel⟩, by decide +kernel, by decide +kernel⟩
theorem kM_X6_argued : Cond.instanceMethod yX6_argued ∈ TB := TB_in (List.mem_of_getElem? (i := 504) (by decide +kernel)) rfl
theorem kE_X6_argued : Cond.selects yX6_argued.cls yX6_argued yX6_argued ∈ TB := TB_in (List.mem_of_getElem? (i := 505) (by decide +kernel)) rfl
theorem k0_X6_next : Lk0 m_X6_next 0 := ⟨TB_in (List.mem_of_getElem? (i := 510) (by decide +kernel)) rfl, kI_X6, ⟨by decide +kernel, by decide +kernel, by decide +kernel⟩, by decide +kernel, by decide +kernel⟩
theorem kM_X6_next : Cond.instanceMethod yX6_next ∈ TB := TB_in (List.mem_of_getElem? (i := 508) (by decide +kernel)) rfl
theorem kE_X6_next : Cond.selects yX6_next.cls yX6_next yX6_next ∈ TB := TB_in (List.mem_of_getElem? (i := 509) (by decide +kernel)) rfl
theorem k0_X6_trial : Lk0 m_X6_trial 1 := ⟨TB_in (List.mem_of_getElem? (i := 514) (by decide +kernel)) rfl, kI_X6, ⟨by decide +kernel, by decide +kernel, by decide +kernel⟩, by decide +kernel, by decide +kernel⟩
theorem kM_X6_trial : Cond.instanceMethod yX6_trial ∈ TB := TB_in (List.mem_of_getElem? (i := 512) (by decide +kernel)) rfl
theorem kE_X6_trial : Cond.selects yX6_trial.cls yX6_trial yX6_trial ∈ TB := TB_in (List.mem_of_getElem? (i := 513) (by decide +kernel)) rfl
theorem k0_X6_chains : Lk0 m_X6_chains 1 := ⟨TB_in (List.mem_of_getElem? (i := 533) (by decide +kernel)) rfl, kI_X6, ⟨by decide +kernel, by decide +kernel, by decide +kernel⟩, by decide +kernel, by decide +kernel⟩
theorem kM_X6_chains : Cond.instanceMethod yX6_chains ∈ TB := TB_in (List.mem_of_getElem? (i := 531) (by decide +kernel)) rfl
theorem kE_X6_chains : Cond.selects yX6_chains.cls yX6_chains yX6_chains ∈ TB := TB_in (List.mem_of_getElem? (i := 532) (by decide +kernel)) rfl
theorem k0_X6_shortest : Lk0 m_X6_shortest 2 := ⟨TB_in (List.mem_of_getElem? (i := 561) (by decide +kernel)) rfl, kI_X6, ⟨by decide +kernel, by decide +kernel, by decide +kernel⟩, by decide +kernel, by decide +kernel⟩
theorem kM_X6_shortest : Cond.instanceMethod yX6_shortest ∈ TB := TB_in (List.mem_of_getElem? (i := 559) (by decide +kernel)) rfl
theorem kE_X6_shortest : Cond.selects yX6_shortest.cls yX6_shortest yX6_shortest ∈ TB := TB_in (List.mem_of_getElem? (i := 560) (by decide +kernel)) rfl
theorem k0_X6_nights : Lk0 m_X6_nights 1 := ⟨TB_in (List.mem_of_getElem? (i := 565) (by decide +kernel)) rfl, kI_X6, ⟨by decide +kernel, by decide +kernel, by decide +kernel⟩, by decide +kernel, by decide +kernel⟩
theorem kM_X6_nights : Cond.instanceMethod yX6_nights ∈ TB := TB_in (List.mem_of_getElem? (i := 563) (by decide +kernel)) rfl
theorem kE_X6_nights : Cond.selects yX6_nights.cls yX6_nights yX6_nights ∈ TB := TB_in (List.mem_of_getElem? (i := 564) (by decide +kernel)) rfl
theorem k0_X6_needed : Lk0 m_X6_needed 1 := ⟨TB_in (List.mem_of_getElem? (i := 569) (by decide +kernel)) rfl, kI_X6, ⟨by decide +kernel, by decide +kernel, by decide +kernel⟩, by decide +kernel, by decide +kernel⟩
theorem kM_X6_needed : Cond.instanceMethod yX6_needed ∈ TB := TB_in (List.mem_of_getElem? (i := 567) (by decide +kernel)) rfl
theorem kE_X6_needed : Cond.selects yX6_needed.cls yX6_needed yX6_needed ∈ TB := TB_in (List.mem_of_getElem? (i := 568) (by decide +kernel)) rfl
theorem k0_X6_forgotten : Lk0 m_X6_forgotten 0 := ⟨TB_in (List.mem_of_getElem? (i := 573) (by decide +kernel)) rfl, kI_X6, ⟨by decide +kernel, by decide +kernel, by decide +kernel⟩, by decide +kernel, by decide +kernel⟩
theorem kM_X6_forgotten : Cond.instanceMethod yX6_forgotten ∈ TB := TB_in (List.mem_of_getElem? (i := 571) (by decide +kernel)) rfl
theorem kE_X6_forgotten : Cond.selects yX6_forgotten.cls yX6_forgotten yX6_forgotten ∈ TB := TB_in (List.mem_of_getElem? (i := 572) (by decide +kernel)) rfl
theorem k0_X6_both : Lk0 m_X6_both 3 := ⟨TB_in (List.mem_of_getElem? (i := 581) (by decide +kernel)) rfl, kI_X6, ⟨by decide +kernel, by decide +kernel, by decide +kernel⟩, by decide +kernel, by decide +kernel⟩
theorem kM_X6_both : Cond.instanceMethod yX6_both ∈ TB := TB_in (List.mem_of_getElem? (i := 579) (by decide +kernel)) rfl
theorem kE_X6_both : Cond.selects yX6_both.cls yX6_both yX6_both ∈ TB := TB_in (List.mem_of_getElem? (i := 580) (by decide +kernel)) rfl
theorem k0_X6_byTurns : Lk0 m_X6_byTurns 2 := ⟨TB_in (List.mem_of_getElem? (i := 585) (by decide +kernel)) rfl, kI_X6, ⟨by decide +kernel, by decide +kernel, by decide +kernel⟩, by decide +kernel, by decide +kernel⟩
theorem kM_X6_byTurns : Cond.instanceMethod yX6_byTurns ∈ TB := TB_in (List.mem_of_getElem? (i := 583) (by decide +kernel)) rfl
theorem kE_X6_byTurns : Cond.selects yX6_byTurns.cls yX6_byTurns yX6_byTurns ∈ TB := TB_in (List.mem_of_getElem? (i := 584) (by decide +kernel)) rfl
theorem k0_X6_days : Lk0 m_X6_days 1 := ⟨TB_in (List.mem_of_getElem? (i := 602) (by decide +kernel)) rfl, kI_X6, ⟨by decide +kernel, by decide +kernel, by decide +kernel⟩, by decide +kernel, by decide +kernel⟩
theorem kM_X6_days : Cond.instanceMethod yX6_days ∈ TB := TB_in (List.mem_of_getElem? (i := 600) (by decide +kernel)) rfl
theorem kE_X6_days : Cond.selects yX6_days.cls yX6_days yX6_days ∈ TB := TB_in (List.mem_of_getElem? (i := 601) (by decide +kernel)) rfl
theorem k0_X6_who : Lk0 m_X6_who 1 := ⟨TB_in (List.mem_of_getElem? (i := 606) (by decide +kernel)) rfl, kI_X6, ⟨by decide +kernel, by decide +kernel, by decide +kernel⟩, by decide +kernel, by decide +kernel⟩
theorem kM_X6_who : Cond.instanceMethod yX6_who ∈ TB := TB_in (List.mem_of_getElem? (i := 604) (by decide +kernel)) rfl
theorem kE_X6_who : Cond.selects yX6_who.cls yX6_who yX6_who ∈ TB := TB_in (List.mem_of_getElem? (i := 605) (by decide +kernel)) rfl
theorem k0_X6_fits : Lk0 m_X6_fits 1 := ⟨TB_in (List.mem_of_getElem? (i := 610) (by decide +kernel)) rfl, kI_X6, ⟨by decide +kernel, by decide +kernel, by decide +kernel⟩, by decide +kernel, by decide +kernel⟩
theorem kM_X6_fits : Cond.instanceMethod yX6_fits ∈ TB := TB_in (List.mem_of_getElem? (i := 608) (by decide +kernel)) rfl
theorem kE_X6_fits : Cond.selects yX6_fits.cls yX6_fits yX6_fits ∈ TB := TB_in (List.mem_of_getElem? (i := 609) (by decide +kernel)) rfl
theorem k0_X6_look : Lk0 m_X6_look 2 := ⟨TB_in (List.mem_of_getElem? (i := 618) (by decide +kernel)) rfl, kI_X6, ⟨by decide +kernel, by decide +kernel, by decide +kernel⟩, by decide +kernel, by decide +kernel⟩
theorem kM_X6_look : Cond.instanceMethod yX6_look ∈ TB := TB_in (List.mem_of_getElem? (i := 616) (by decide +kernel)) rfl
theorem kE_X6_look : Cond.selects yX6_look.cls yX6_look yX6_look ∈ TB := TB_in (List.mem_of_getElem? (i := 617) (by decide +kernel)) rfl
theorem k0_X6_laid : Lk0 m_X6_laid 2 := ⟨TB_in (List.mem_of_getElem? (i := 628) (by decide +kernel)) rfl, kI_X6, ⟨by decide +kernel, by decide +kernel, by decide +kernel⟩, by decide +kernel, by decide +kernel⟩
theorem kM_X6_laid : Cond.instanceMethod yX6_laid ∈ TB := TB_in (List.mem_of_getElem? (i := 626) (by decide +kernel)) rfl
theorem kE_X6_laid : Cond.selects yX6_laid.cls yX6_laid yX6_laid ∈ TB := TB_in (List.mem_of_getElem? (i := 627) (by decide +kernel)) rfl
theorem k0_X6_odds : Lk0 m_X6_odds 3 := ⟨TB_in (List.mem_of_getElem? (i := 633) (by decide +kernel)) rfl, kI_X6, ⟨by decide +kernel, by decide +kernel, by decide +kernel⟩, by decide +kernel, by decide +kernel⟩
theorem kM_X6_odds : Cond.instanceMethod yX6_odds ∈ TB := TB_in (List.mem_of_getElem? (i := 631) (by decide +kernel)) rfl
theorem kE_X6_odds : Cond.selects yX6_odds.cls yX6_odds yX6_odds ∈ TB := TB_in (List.mem_of_getElem? (i := 632) (by decide +kernel)) rfl
theorem k0_X6_trialBy : Lk0 m_X6_trialBy 3 := ⟨TB_in (List.mem_of_getElem? (i := 642) (by decide +kernel)) rfl, kI_X6, ⟨by decide +kernel, by decide +kernel, by decide +kernel⟩, by decide +kernel, by decide +kernel⟩
theorem kM_X6_trialBy : Cond.instanceMethod yX6_trialBy ∈ TB := TB_in (List.mem_of_getElem? (i := 640) (by decide +kernel)) rfl
theorem kE_X6_trialBy : Cond.selects yX6_trialBy.cls yX6_trialBy yX6_trialBy ∈ TB := TB_in (List.mem_of_getElem? (i := 641) (by decide +kernel)) rfl
theorem k0_X6_keep : Lk0 m_X6_keep 0 := ⟨TB_in (List.mem_of_getElem? (i := 656) (by decide +kernel)) rfl, kI_X6, ⟨by decide +kernel, by decide +kernel, by decide +kernel⟩, by decide +kernel, by decide +kernel⟩
theorem kM_X6_keep : Cond.instanceMethod yX6_keep ∈ TB := TB_in (List.mem_of_getElem? (i := 654) (by decide +kernel)) rfl
theorem kE_X6_keep : Cond.selects yX6_keep.cls yX6_keep yX6_keep ∈ TB := TB_in (List.mem_of_getElem? (i := 655) (by decide +kernel)) rfl
theorem k0_X6_back : Lk0 m_X6_back 0 := ⟨TB_in (List.mem_of_getElem? (i := 660) (by decide +kernel)) rfl, kI_X6, ⟨by decide +kernel, by decide +kernel, by decide +kernel⟩, by decide +kernel, by decide +kernel⟩
theorem kM_X6_back : Cond.instanceMethod yX6_back ∈ TB := TB_in (List.mem_of_getElem? (i := 658) (by decide +kernel)) rfl
theorem kE_X6_back : Cond.selects yX6_back.cls yX6_back yX6_back ∈ TB := TB_in (List.mem_of_getElem? (i := 659) (by decide +kernel)) rfl
theorem k0_X6_count : Lk0 m_X6_count 1 := ⟨TB_in (List.mem_of_getElem? (i := 664) (by decide +kernel)) rfl, kI_X6, ⟨by decide +kernel, by decide +kernel, by decide +kernel⟩, by decide +kernel, by decide +kernel⟩
theorem kM_X6_count : Cond.instanceMethod yX6_count ∈ TB := TB_in (List.mem_of_getElem? (i := 662) (by decide +kernel)) rfl
theorem kE_X6_count : Cond.selects yX6_count.cls yX6_count yX6_count ∈ TB := TB_in (List.mem_of_getElem? (i := 663) (by decide +kernel)) rfl
theorem k0_X6_fittingPeople : Lk0 m_X6_fittingPeople 1 := ⟨TB_in (List.mem_of_getElem? (i := 614) (by decide +kernel)) rfl, kI_X6, ⟨by decide +kernel, by decide +kernel, by decide +kernel⟩, by decide +kernel, by decide +kernel⟩
theorem kM_X6_fittingPeople : Cond.instanceMethod yX6_fittingPeople ∈ TB := TB_in (List.mem_of_getElem? (i := 613) (by decide +kernel)) rfl
theorem kE_X6_fittingPeople : Cond.selects yX6_fittingPeople.cls yX6_fittingPeople yX6_fittingPeople ∈ TB := TB_in (List.mem_of_getElem? (i := 34) (by decide +kernel)) rfl
theorem k0_X6_winningOpening : Lk0 m_X6_winningOpening 1 := ⟨TB_in (List.mem_of_getElem? (i := 589) (by decide +kernel)) rfl, kI_X6, ⟨by decide +kernel, by decide +kernel, by decide +kernel⟩, by decide +kernel, by decide +kernel⟩
theorem kM_X6_winningOpening : Cond.instanceMethod yX6_winningOpening ∈ TB := TB_in (List.mem_of_getElem? (i := 588) (by decide +kernel)) rfl
theorem kE_X6_winningOpening : Cond.selects yX6_winningOpening.cls yX6_winningOpening yX6_winningOpening ∈ TB := TB_in (List.mem_of_getElem? (i := 32) (by decide +kernel)) rfl
theorem k0_X6_isWon : Lk0 m_X6_isWon 5 := ⟨TB_in (List.mem_of_getElem? (i := 593) (by decide +kernel)) rfl, kI_X6, ⟨by decide +kernel, by decide +kernel, by decide +kernel⟩, by decide +kernel, by decide +kernel⟩
theorem kS_X6_isWon : Cond.static yX6_isWon ∈ TB := TB_in (List.mem_of_getElem? (i := 592) (by decide +kernel)) rfl
theorem k0_X6_openBehind : Lk0 m_X6_openBehind 4 := ⟨TB_in (List.mem_of_getElem? (i := 463) (by decide +kernel)) rfl, kI_X6, ⟨by decide +kernel, by decide +kernel, by decide +kernel⟩, by decide +kernel, by decide +kernel⟩
theorem kS_X6_openBehind : Cond.static yX6_openBehind ∈ TB := TB_in (List.mem_of_getElem? (i := 462) (by decide +kernel)) rfl
theorem k0_X6_draw : Lk0 m_X6_draw 2 := ⟨TB_in (List.mem_of_getElem? (i := 645) (by decide +kernel)) rfl, kI_X6, ⟨by decide +kernel, by decide +kernel, by decide +kernel⟩, by decide +kernel, by decide +kernel⟩
theorem kS_X6_draw : Cond.static yX6_draw ∈ TB := TB_in (List.mem_of_getElem? (i := 644) (by decide +kernel)) rfl
theorem k0_X6_bitByRank : Lk0 m_X6_bitByRank 2 := ⟨TB_in (List.mem_of_getElem? (i := 652) (by decide +kernel)) rfl, kI_X6, ⟨by decide +kernel, by decide +kernel, by decide +kernel⟩, by decide +kernel, by decide +kernel⟩
theorem kS_X6_bitByRank : Cond.static yX6_bitByRank ∈ TB := TB_in (List.mem_of_getElem? (i := 651) (by decide +kernel)) rfl
theorem k0_X6_commonDivisor : Lk0 m_X6_commonDivisor 2 := ⟨TB_in (List.mem_of_getElem? (i := 636) (by decide +kernel)) rfl, kI_X6, ⟨by decide +kernel, by decide +kernel, by decide +kernel⟩, by decide +kernel, by decide +kernel⟩
theorem kS_X6_commonDivisor : Cond.static yX6_commonDivisor ∈ TB := TB_in (List.mem_of_getElem? (i := 635) (by decide +kernel)) rfl
theorem k0_X6_outside : Lk0 m_X6_outside 3 := ⟨TB_in (List.mem_of_getElem? (i := 338) (by decide +kernel)) rfl, kI_X6, ⟨by decide +kernel, by decide +kernel, by decide +kernel⟩, by decide +kernel, by decide +kernel⟩
theorem kS_X6_outside : Cond.static yX6_outside ∈ TB := TB_in (List.mem_of_getElem? (i := 337) (by decide +kernel)) rfl
theorem k0_X6_asNumber : Lk0 m_X6_asNumber 1 := ⟨TB_in (List.mem_of_getElem? (i := 445) (by decide +kernel)) rfl, kI_X6, ⟨by decide +kernel, by decide +kernel, by decide +kernel⟩, by decide +kernel, by decide +kernel⟩
theorem kS_X6_asNumber : Cond.static yX6_asNumber ∈ TB := TB_in (List.mem_of_getElem? (i := 444) (by decide +kernel)) rfl
theorem k0_X6_bit : Lk0 m_X6_bit 1 := ⟨TB_in (List.mem_of_getElem? (i := 355) (by decide +kernel)) rfl, kI_X6, ⟨by decide +kernel, by decide +kernel, by decide +kernel⟩, by decide +kernel, by decide +kernel⟩
theorem kS_X6_bit : Cond.static yX6_bit ∈ TB := TB_in (List.mem_of_getElem? (i := 354) (by decide +kernel)) rfl
theorem k0_X6_has : Lk0 m_X6_has 2 := ⟨TB_in (List.mem_of_getElem? (i := 442) (by decide +kernel)) rfl, kI_X6, ⟨by decide +kernel, by decide +kernel, by decide +kernel⟩, by decide +kernel, by decide +kernel⟩
theorem kS_X6_has : Cond.static yX6_has ∈ TB := TB_in (List.mem_of_getElem? (i := 441) (by decide +kernel)) rfl
theorem k0_X6_at : Lk0 m_X6_at 2 := ⟨TB_in (List.mem_of_getElem? (i := 319) (by decide +kernel)) rfl, kI_X6, ⟨by decide +kernel, by decide +kernel, by decide +kernel⟩, by decide +kernel, by decide +kernel⟩
theorem kS_X6_at : Cond.static yX6_at ∈ TB := TB_in (List.mem_of_getElem? (i := 318) (by decide +kernel)) rfl
theorem k0_X6_put : Lk0 m_X6_put 3 := ⟨TB_in (List.mem_of_getElem? (i := 297) (by decide +kernel)) rfl, kI_X6, ⟨by decide +kernel, by decide +kernel, by decide +kernel⟩, by decide +kernel, by decide +kernel⟩
theorem kS_X6_put : Cond.static yX6_put ∈ TB := TB_in (List.mem_of_getElem? (i := 296) (by decide +kernel)) rfl
theorem k0_X7_init : Lk0 m_X7_init 0 := ⟨TB_in (List.mem_of_getElem? (i := 669) (by decide +kernel)) rfl, kI_X7, ⟨by decide +kernel, by decide +kernel, by decide +kernel⟩, by decide +kernel, by decide +kernel⟩
theorem kM_X7_init : Cond.instanceMethod yX7_init ∈ TB := TB_in (List.mem_of_getElem? (i := 668) (by decide +kernel)) rfl
theorem k0_X7_firstOf : Lk0 m_X7_firstOf 3 := ⟨TB_in (List.mem_of_getElem? (i := 674) (by decide +kernel)) rfl, kI_X7, ⟨by decide +kernel, by decide +kernel, by decide +kernel⟩, by decide +kernel, by decide +kernel⟩
theorem kM_X7_firstOf : Cond.instanceMethod yX7_firstOf ∈ TB := TB_in (List.mem_of_getElem? (i := 673) (by decide +kernel)) rfl
theorem kE_X7_firstOf : Cond.selects yX7_firstOf.cls yX7_firstOf yX7_firstOf ∈ TB := TB_in (List.mem_of_getElem? (i := 35) (by decide +kernel)) rfl
theorem k0_X7_firstPerson : Lk0 m_X7_firstPerson 2 := ⟨TB_in (List.mem_of_getElem? (i := 678) (by decide +kernel)) rfl, kI_X7, ⟨by decide +kernel, by decide +kernel, by decide +kernel⟩, by decide +kernel, by decide +kernel⟩
theorem kM_X7_firstPerson : Cond.instanceMethod yX7_firstPerson ∈ TB := TB_in (List.mem_of_getElem? (i := 677) (by decide +kernel)) rfl
theorem kE_X7_firstPerson : Cond.selects yX7_firstPerson.cls yX7_firstPerson yX7_firstPerson ∈ TB := TB_in (List.mem_of_getElem? (i := 36) (by decide +kernel)) rfl
theorem k0_X7_in : Lk0 m_X7_in 3 := ⟨TB_in (List.mem_of_getElem? (i := 768) (by decide +kernel)) rfl, kI_X7, ⟨by decide +kernel, by decide +kernel, by decide +kernel⟩, by decide +kernel, by decide +kernel⟩
theorem kS_X7_in : Cond.static yX7_in ∈ TB := TB_in (List.mem_of_getElem? (i := 767) (by decide +kernel)) rfl
theorem k0_X7_write : Lk0 m_X7_write 1 := ⟨TB_in (List.mem_of_getElem? (i := 765) (by decide +kernel)) rfl, kI_X7, ⟨by decide +kernel, by decide +kernel, by decide +kernel⟩, by decide +kernel, by decide +kernel⟩
theorem kM_X7_write : Cond.instanceMethod yX7_write ∈ TB := TB_in (List.mem_of_getElem? (i := 763) (by decide +kernel)) rfl
theorem kE_X7_write : Cond.selects yX7_write.cls yX7_write yX7_write ∈ TB := TB_in (List.mem_of_getElem? (i := 764) (by decide +kernel)) rfl
theorem k0_X7_wipe : Lk0 m_X7_wipe 0 := ⟨TB_in (List.mem_of_getElem? (i := 772) (by decide +kernel)) rfl, kI_X7, ⟨by decide +kernel, by decide +kernel, by decide +kernel⟩, by decide +kernel, by decide +kernel⟩
theorem kM_X7_wipe : Cond.instanceMethod yX7_wipe ∈ TB := TB_in (List.mem_of_getElem? (i := 770) (by decide +kernel)) rfl
theorem kE_X7_wipe : Cond.selects yX7_wipe.cls yX7_wipe yX7_wipe ∈ TB := TB_in (List.mem_of_getElem? (i := 771) (by decide +kernel)) rfl
theorem k0_X7_here : Lk0 m_X7_here 0 := ⟨TB_in (List.mem_of_getElem? (i := 784) (by decide +kernel)) rfl, kI_X7, ⟨by decide +kernel, by decide +kernel, by decide +kernel⟩, by decide +kernel, by decide +kernel⟩
theorem kM_X7_here : Cond.instanceMethod yX7_here ∈ TB := TB_in (List.mem_of_getElem? (i := 783) (by decide +kernel)) rfl
theorem kE_X7_here : Cond.selects yX7_here.cls yX7_here yX7_here ∈ TB := TB_in (List.mem_of_getElem? (i := 39) (by decide +kernel)) rfl
theorem k0_X7_number : Lk0 m_X7_number 3 := ⟨TB_in (List.mem_of_getElem? (i := 788) (by decide +kernel)) rfl, kI_X7, ⟨by decide +kernel, by decide +kernel, by decide +kernel⟩, by decide +kernel, by decide +kernel⟩
theorem kM_X7_number : Cond.instanceMethod yX7_number ∈ TB := TB_in (List.mem_of_getElem? (i := 787) (by decide +kernel)) rfl
theorem kE_X7_number : Cond.selects yX7_number.cls yX7_number yX7_number ∈ TB := TB_in (List.mem_of_getElem? (i := 40) (by decide +kernel)) rfl
theorem k0_X7_statementAt : Lk0 m_X7_statementAt 1 := ⟨TB_in (List.mem_of_getElem? (i := 792) (by decide +kernel)) rfl, kI_X7, ⟨by decide +kernel, by decide +kernel, by decide +kernel⟩, by decide +kernel, by decide +kernel⟩
theorem kM_X7_statementAt : Cond.instanceMethod yX7_statementAt ∈ TB := TB_in (List.mem_of_getElem? (i := 791) (by decide +kernel)) rfl
theorem kE_X7_statementAt : Cond.selects yX7_statementAt.cls yX7_statementAt yX7_statementAt ∈ TB := TB_in (List.mem_of_getElem? (i := 41) (by decide +kernel)) rfl
theorem k0_X7_readItem : Lk0 m_X7_readItem 0 := ⟨TB_in (List.mem_of_getElem? (i := 780) (by decide +kernel)) rfl, kI_X7, ⟨by decide +kernel, by decide +kernel, by decide +kernel⟩, by decide +kernel, by decide +kernel⟩
theorem kM_X7_readItem : Cond.instanceMethod yX7_readItem ∈ TB := TB_in (List.mem_of_getElem? (i := 779) (by decide +kernel)) rfl
theorem kE_X7_readItem : Cond.selects yX7_readItem.cls yX7_readItem yX7_readItem ∈ TB := TB_in (List.mem_of_getElem? (i := 38) (by decide +kernel)) rfl
theorem k0_X7_fault : Lk0 m_X7_fault 0 := ⟨TB_in (List.mem_of_getElem? (i := 776) (by decide +kernel)) rfl, kI_X7, ⟨by decide +kernel, by decide +kernel, by decide +kernel⟩, by decide +kernel, by decide +kernel⟩
theorem kM_X7_fault : Cond.instanceMethod yX7_fault ∈ TB := TB_in (List.mem_of_getElem? (i := 774) (by decide +kernel)) rfl
theorem kE_X7_fault : Cond.selects yX7_fault.cls yX7_fault yX7_fault ∈ TB := TB_in (List.mem_of_getElem? (i := 775) (by decide +kernel)) rfl
theorem k0_X7_takeDraft : Lk0 m_X7_takeDraft 0 := ⟨TB_in (List.mem_of_getElem? (i := 682) (by decide +kernel)) rfl, kI_X7, ⟨by decide +kernel, by decide +kernel, by decide +kernel⟩, by decide +kernel, by decide +kernel⟩
theorem kM_X7_takeDraft : Cond.instanceMethod yX7_takeDraft ∈ TB := TB_in (List.mem_of_getElem? (i := 681) (by decide +kernel)) rfl
theorem kE_X7_takeDraft : Cond.selects yX7_takeDraft.cls yX7_takeDraft yX7_takeDraft ∈ TB := TB_in (List.mem_of_getElem? (i := 37) (by decide +kernel)) rfl
theorem k0_X7_lay : Lk0 m_X7_lay 0 := ⟨TB_in (List.mem_of_getElem? (i := 796) (by decide +kernel)) rfl, kI_X7, ⟨by decide +kernel, by decide +kernel, by decide +kernel⟩, by decide +kernel, by decide +kernel⟩
theorem kM_X7_lay : Cond.instanceMethod yX7_lay ∈ TB := TB_in (List.mem_of_getElem? (i := 794) (by decide +kernel)) rfl
theorem kE_X7_lay : Cond.selects yX7_lay.cls yX7_lay yX7_lay ∈ TB := TB_in (List.mem_of_getElem? (i := 795) (by decide +kernel)) rfl
theorem k0_X7_copy : Lk0 m_X7_copy 2 := ⟨TB_in (List.mem_of_getElem? (i := 830) (by decide +kernel)) rfl, kI_X7, ⟨by decide +kernel, by decide +kernel, by decide +kernel⟩, by decide +kernel, by decide +kernel⟩
theorem kM_X7_copy : Cond.instanceMethod yX7_copy ∈ TB := TB_in (List.mem_of_getElem? (i := 829) (by decide +kernel)) rfl
theorem kE_X7_copy : Cond.selects yX7_copy.cls yX7_copy yX7_copy ∈ TB := TB_in (List.mem_of_getElem? (i := 46) (by decide +kernel)) rfl
theorem k0_X7_know : Lk0 m_X7_know 0 := ⟨TB_in (List.mem_of_getElem? (i := 826) (by decide +kernel)) rfl, kI_X7, ⟨by decide +kernel, by decide +kernel, by decide +kernel⟩, by decide +kernel, by decide +kernel⟩
theorem kM_X7_know : Cond.instanceMethod yX7_know ∈ TB := TB_in (List.mem_of_getElem? (i := 825) (by decide +kernel)) rfl
theorem kE_X7_know : Cond.selects yX7_know.cls yX7_know yX7_know ∈ TB := TB_in (List.mem_of_getElem? (i := 45) (by decide +kernel)) rfl
theorem k0_X7_isStatement : Lk0 m_X7_isStatement 1 := ⟨TB_in (List.mem_of_getElem? (i := 805) (by decide +kernel)) rfl, kI_X7, ⟨by decide +kernel, by decide +kernel, by decide +kernel⟩, by decide +kernel, by decide +kernel⟩
theorem kM_X7_isStatement : Cond.instanceMethod yX7_isStatement ∈ TB := TB_in (List.mem_of_getElem? (i := 804) (by decide +kernel)) rfl
theorem kE_X7_isStatement : Cond.selects yX7_isStatement.cls yX7_isStatement yX7_isStatement ∈ TB := TB_in (List.mem_of_getElem? (i := 42) (by decide +kernel)) rfl
theorem k0_X7_isVerdict : Lk0 m_X7_isVerdict 1 := ⟨TB_in (List.mem_of_getElem? (i := 862) (by decide +kernel)) rfl, kI_X7, ⟨by decide +kernel, by decide +kernel, by decide +kernel⟩, by decide +kernel, by decide +kernel⟩
theorem kM_X7_isVerdict : Cond.instanceMethod yX7_isVerdict ∈ TB := TB_in (List.mem_of_getElem? (i := 861) (by decide +kernel)) rfl
theorem kE_X7_isVerdict : Cond.selects yX7_isVerdict.cls yX7_isVerdict yX7_isVerdict ∈ TB := TB_in (List.mem_of_getElem? (i := 48) (by decide +kernel)) rfl
theorem k0_X7_isStruck : Lk0 m_X7_isStruck 1 := ⟨TB_in (List.mem_of_getElem? (i := 890) (by decide +kernel)) rfl, kI_X7, ⟨by decide +kernel, by decide +kernel, by decide +kernel⟩, by decide +kernel, by decide +kernel⟩
theorem kM_X7_isStruck : Cond.instanceMethod yX7_isStruck ∈ TB := TB_in (List.mem_of_getElem? (i := 889) (by decide +kernel)) rfl
theorem kE_X7_isStruck : Cond.selects yX7_isStruck.cls yX7_isStruck yX7_isStruck ∈ TB := TB_in (List.mem_of_getElem? (i := 54) (by decide +kernel)) rfl
theorem k0_X7_statement : Lk0 m_X7_statement 2 := ⟨TB_in (List.mem_of_getElem? (i := 801) (by decide +kernel)) rfl, kI_X7, ⟨by decide +kernel, by decide +kernel, by decide +kernel⟩, by decide +kernel, by decide +kernel⟩
theorem kM_X7_statement : Cond.instanceMethod yX7_statement ∈ TB := TB_in (List.mem_of_getElem? (i := 799) (by decide +kernel)) rfl
theorem kE_X7_statement : Cond.selects yX7_statement.cls yX7_statement yX7_statement ∈ TB := TB_in (List.mem_of_getElem? (i := 800) (by decide +kernel)) rfl
theorem k0_X7_behind : Lk0 m_X7_behind 2 := ⟨TB_in (List.mem_of_getElem? (i := 817) (by decide +kernel)) rfl, kI_X7, ⟨by decide +kernel, by decide +kernel, by decide +kernel⟩, by decide +kernel, by decide +kernel⟩
theorem kM_X7_behind : Cond.instanceMethod yX7_behind ∈ TB := TB_in (List.mem_of_getElem? (i := 816) (by decide +kernel)) rfl
theorem kE_X7_behind : Cond.selects yX7_behind.cls yX7_behind yX7_behind ∈ TB := TB_in (List.mem_of_getElem? (i := 44) (by decide +kernel)) rfl
theorem k0_X7_said : Lk0 m_X7_said 0 := ⟨TB_in (List.mem_of_getElem? (i := 813) (by decide +kernel)) rfl, kI_X7, ⟨by decide +kernel, by decide +kernel, by decide +kernel⟩, by decide +kernel, by decide +kernel⟩
theorem kM_X7_said : Cond.instanceMethod yX7_said ∈ TB := TB_in (List.mem_of_getElem? (i := 812) (by decide +kernel)) rfl
theorem kE_X7_said : Cond.selects yX7_said.cls yX7_said yX7_said ∈ TB := TB_in (List.mem_of_getElem? (i := 43) (by decide +kernel)) rfl
theorem k0_X7_next : Lk0 m_X7_next 0 := ⟨TB_in (List.mem_of_getElem? (i := 809) (by decide +kernel)) rfl, kI_X7, ⟨by decide +kernel, by decide +kernel, by decide +kernel⟩, by decide +kernel, by decide +kernel⟩
theorem kM_X7_next : Cond.instanceMethod yX7_next ∈ TB := TB_in (List.mem_of_getElem? (i := 807) (by decide +kernel)) rfl
theorem kE_X7_next : Cond.selects yX7_next.cls yX7_next yX7_next ∈ TB := TB_in (List.mem_of_getElem? (i := 808) (by decide +kernel)) rfl
theorem k0_X7_argue : Lk0 m_X7_argue 1 := ⟨TB_in (List.mem_of_getElem? (i := 821) (by decide +kernel)) rfl, kI_X7, ⟨by decide +kernel, by decide +kernel, by decide +kernel⟩, by decide +kernel, by decide +kernel⟩
theorem kM_X7_argue : Cond.instanceMethod yX7_argue ∈ TB := TB_in (List.mem_of_getElem? (i := 819) (by decide +kernel)) rfl
theorem kE_X7_argue : Cond.selects yX7_argue.cls yX7_argue yX7_argue ∈ TB := TB_in (List.mem_of_getElem? (i := 820) (by decide +kernel)) rfl
theorem k0_X7_drop : Lk0 m_X7_drop 0 := ⟨TB_in (List.mem_of_getElem? (i := 834) (by decide +kernel)) rfl, kI_X7, ⟨by decide +kernel, by decide +kernel, by decide +kernel⟩, by decide +kernel, by decide +kernel⟩
theorem kM_X7_drop : Cond.instanceMethod yX7_drop ∈ TB := TB_in (List.mem_of_getElem? (i := 832) (by decide +kernel)) rfl
theorem kE_X7_drop : Cond.selects yX7_drop.cls yX7_drop yX7_drop ∈ TB := TB_in (List.mem_of_getElem? (i := 833) (by decide +kernel)) rfl
theorem k0_X7_strike : Lk0 m_X7_strike 1 := ⟨TB_in (List.mem_of_getElem? (i := 838) (by decide +kernel)) rfl, kI_X7, ⟨by decide +kernel, by decide +kernel, by decide +kernel⟩, by decide +kernel, by decide +kernel⟩
theorem kM_X7_strike : Cond.instanceMethod yX7_strike ∈ TB := TB_in (List.mem_of_getElem? (i := 836) (by decide +kernel)) rfl
theorem kE_X7_strike : Cond.selects yX7_strike.cls yX7_strike yX7_strike ∈ TB := TB_in (List.mem_of_getElem? (i := 837) (by decide +kernel)) rfl
theorem k0_X7_undo : Lk0 m_X7_undo 0 := ⟨TB_in (List.mem_of_getElem? (i := 842) (by decide +kernel)) rfl, kI_X7, ⟨by decide +kernel, by decide +kernel, by decide +kernel⟩, by decide +kernel, by decide +kernel⟩
theorem kM_X7_undo : Cond.instanceMethod yX7_undo ∈ TB := TB_in (List.mem_of_getElem? (i := 840) (by decide +kernel)) rfl
theorem kE_X7_undo : Cond.selects yX7_undo.cls yX7_undo yX7_undo ∈ TB := TB_in (List.mem_of_getElem? (i := 841) (by decide +kernel)) rfl
theorem k0_X7_argued : Lk0 m_X7_argued 1 := ⟨TB_in (List.mem_of_getElem? (i := 846) (by decide +kernel)) rfl, kI_X7, ⟨by decide +kernel, by decide +kernel, by decide +kernel⟩, by decide +kernel, by decide +kernel⟩
theorem kM_X7_argued : Cond.instanceMethod yX7_argued ∈ TB := TB_in (List.mem_of_getElem? (i := 844) (by decide +kernel)) rfl
theorem kE_X7_argued : Cond.selects yX7_argued.cls yX7_argued yX7_argued ∈ TB := TB_in (List.mem_of_getElem? (i := 845) (by decide +kernel)) rfl
theorem k0_X7_cost : Lk0 m_X7_cost 3 := ⟨TB_in (List.mem_of_getElem? (i := 854) (by decide +kernel)) rfl, kI_X7, ⟨by decide +kernel, by decide +kernel, by decide +kernel⟩, by decide +kernel, by decide +kernel⟩
theorem kM_X7_cost : Cond.instanceMethod yX7_cost ∈ TB := TB_in (List.mem_of_getElem? (i := 853) (by decide +kernel)) rfl
theorem kE_X7_cost : Cond.selects yX7_cost.cls yX7_cost yX7_cost ∈ TB := TB_in (List.mem_of_getElem? (i := 47) (by decide +kernel)) rfl
theorem k0_X7_trial : Lk0 m_X7_trial 1 := ⟨TB_in (List.mem_of_getElem? (i := 850) (by decide +kernel)) rfl, kI_X7, ⟨by decide +kernel, by decide +kernel, by decide +kernel⟩, by decide +kernel, by decide +kernel⟩
theorem kM_X7_trial : Cond.instanceMethod yX7_trial ∈ TB := TB_in (List.mem_of_getElem? (i := 848) (by decide +kernel)) rfl
theorem kE_X7_trial : Cond.selects yX7_trial.cls yX7_trial yX7_trial ∈ TB := TB_in (List.mem_of_getElem? (i := 849) (by decide +kernel)) rfl
theorem k0_X7_manyOf : Lk0 m_X7_manyOf 1 := ⟨TB_in (List.mem_of_getElem? (i := 886) (by decide +kernel)) rfl, kI_X7, ⟨by decide +kernel, by decide +kernel, by decide +kernel⟩, by decide +kernel, by decide +kernel⟩
theorem kS_X7_manyOf : Cond.static yX7_manyOf ∈ TB := TB_in (List.mem_of_getElem? (i := 885) (by decide +kernel)) rfl
theorem k0_X7_couldHave : Lk0 m_X7_couldHave 1 := ⟨TB_in (List.mem_of_getElem? (i := 879) (by decide +kernel)) rfl, kI_X7, ⟨by decide +kernel, by decide +kernel, by decide +kernel⟩, by decide +kernel, by decide +kernel⟩
theorem kM_X7_couldHave : Cond.instanceMethod yX7_couldHave ∈ TB := TB_in (List.mem_of_getElem? (i := 878) (by decide +kernel)) rfl
theorem kE_X7_couldHave : Cond.selects yX7_couldHave.cls yX7_couldHave yX7_couldHave ∈ TB := TB_in (List.mem_of_getElem? (i := 52) (by decide +kernel)) rfl
theorem k0_X7_endAt : Lk0 m_X7_endAt 3 := ⟨TB_in (List.mem_of_getElem? (i := 874) (by decide +kernel)) rfl, kI_X7, ⟨by decide +kernel, by decide +kernel, by decide +kernel⟩, by decide +kernel, by decide +kernel⟩
theorem kM_X7_endAt : Cond.instanceMethod yX7_endAt ∈ TB := TB_in (List.mem_of_getElem? (i := 873) (by decide +kernel)) rfl
theorem kE_X7_endAt : Cond.selects yX7_endAt.cls yX7_endAt yX7_endAt ∈ TB := TB_in (List.mem_of_getElem? (i := 51) (by decide +kernel)) rfl
theorem k0_X7_goOn : Lk0 m_X7_goOn 3 := ⟨TB_in (List.mem_of_getElem? (i := 883) (by decide +kernel)) rfl, kI_X7, ⟨by decide +kernel, by decide +kernel, by decide +kernel⟩, by decide +kernel, by decide +kernel⟩
theorem kM_X7_goOn : Cond.instanceMethod yX7_goOn ∈ TB := TB_in (List.mem_of_getElem? (i := 882) (by decide +kernel)) rfl
theorem kE_X7_goOn : Cond.selects yX7_goOn.cls yX7_goOn yX7_goOn ∈ TB := TB_in (List.mem_of_getElem? (i := 53) (by decide +kernel)) rfl
theorem k0_X7_solve : Lk0 m_X7_solve 1 := ⟨TB_in (List.mem_of_getElem? (i := 870) (by decide +kernel)) rfl, kI_X7, ⟨by decide +kernel, by decide +kernel, by decide +kernel⟩, by decide +kernel, by decide +kernel⟩
theorem kM_X7_solve : Cond.instanceMethod yX7_solve ∈ TB := TB_in (List.mem_of_getElem? (i := 869) (by decide +kernel)) rfl
theorem kE_X7_solve : Cond.selects yX7_solve.cls yX7_solve yX7_solve ∈ TB := TB_in (List.mem_of_getElem? (i := 50) (by decide +kernel)) rfl
theorem k0_X7_rowOf : Lk0 m_X7_rowOf 1 := ⟨TB_in (List.mem_of_getElem? (i := 893) (by decide +kernel)) rfl, kI_X7, ⟨by decide +kernel, by decide +kernel, by decide +kernel⟩, by decide +kernel, by decide +kernel⟩
theorem kS_X7_rowOf : Cond.static yX7_rowOf ∈ TB := TB_in (List.mem_of_getElem? (i := 892) (by decide +kernel)) rfl
theorem k0_X7_hasWhole : Lk0 m_X7_hasWhole 1 := ⟨TB_in (List.mem_of_getElem? (i := 866) (by decide +kernel)) rfl, kI_X7, ⟨by decide +kernel, by decide +kernel, by decide +kernel⟩, by decide +kernel, by decide +kernel⟩
theorem kM_X7_hasWhole : Cond.instanceMethod yX7_hasWhole ∈ TB := TB_in (List.mem_of_getElem? (i := 865) (by decide +kernel)) rfl
theorem kE_X7_hasWhole : Cond.selects yX7_hasWhole.cls yX7_hasWhole yX7_hasWhole ∈ TB := TB_in (List.mem_of_getElem? (i := 49) (by decide +kernel)) rfl
theorem k0_X7_chains : Lk0 m_X7_chains 1 := ⟨TB_in (List.mem_of_getElem? (i := 858) (by decide +kernel)) rfl, kI_X7, ⟨by decide +kernel, by decide +kernel, by decide +kernel⟩, by decide +kernel, by decide +kernel⟩
theorem kM_X7_chains : Cond.instanceMethod yX7_chains ∈ TB := TB_in (List.mem_of_getElem? (i := 856) (by decide +kernel)) rfl
theorem kE_X7_chains : Cond.selects yX7_chains.cls yX7_chains yX7_chains ∈ TB := TB_in (List.mem_of_getElem? (i := 857) (by decide +kernel)) rfl
theorem k0_X7_followFrom : Lk0 m_X7_followFrom 1 := ⟨TB_in (List.mem_of_getElem? (i := 901) (by decide +kernel)) rfl, kI_X7, ⟨by decide +kernel, by decide +kernel, by decide +kernel⟩, by decide +kernel, by decide +kernel⟩
theorem kM_X7_followFrom : Cond.instanceMethod yX7_followFrom ∈ TB := TB_in (List.mem_of_getElem? (i := 900) (by decide +kernel)) rfl
theorem kE_X7_followFrom : Cond.selects yX7_followFrom.cls yX7_followFrom yX7_followFrom ∈ TB := TB_in (List.mem_of_getElem? (i := 55) (by decide +kernel)) rfl
theorem k0_X7_shortest : Lk0 m_X7_shortest 2 := ⟨TB_in (List.mem_of_getElem? (i := 897) (by decide +kernel)) rfl, kI_X7, ⟨by decide +kernel, by decide +kernel, by decide +kernel⟩, by decide +kernel, by decide +kernel⟩
theorem kM_X7_shortest : Cond.instanceMethod yX7_shortest ∈ TB := TB_in (List.mem_of_getElem? (i := 895) (by decide +kernel)) rfl
theorem kE_X7_shortest : Cond.selects yX7_shortest.cls yX7_shortest yX7_shortest ∈ TB := TB_in (List.mem_of_getElem? (i := 896) (by decide +kernel)) rfl
theorem k0_X7_nights : Lk0 m_X7_nights 1 := ⟨TB_in (List.mem_of_getElem? (i := 905) (by decide +kernel)) rfl, kI_X7, ⟨by decide +kernel, by decide +kernel, by decide +kernel⟩, by decide +kernel, by decide +kernel⟩
theorem kM_X7_nights : Cond.instanceMethod yX7_nights ∈ TB := TB_in (List.mem_of_getElem? (i := 903) (by decide +kernel)) rfl
theorem kE_X7_nights : Cond.selects yX7_nights.cls yX7_nights yX7_nights ∈ TB := TB_in (List.mem_of_getElem? (i := 904) (by decide +kernel)) rfl
theorem k0_X7_needed : Lk0 m_X7_needed 1 := ⟨TB_in (List.mem_of_getElem? (i := 909) (by decide +kernel)) rfl, kI_X7, ⟨by decide +kernel, by decide +kernel, by decide +kernel⟩, by decide +kernel, by decide +kernel⟩
theorem kM_X7_needed : Cond.instanceMethod yX7_needed ∈ TB := TB_in (List.mem_of_getElem? (i := 907) (by decide +kernel)) rfl
theorem kE_X7_needed : Cond.selects yX7_needed.cls yX7_needed yX7_needed ∈ TB := TB_in (List.mem_of_getElem? (i := 908) (by decide +kernel)) rfl
theorem k0_X7_forgotten : Lk0 m_X7_forgotten 0 := ⟨TB_in (List.mem_of_getElem? (i := 913) (by decide +kernel)) rfl, kI_X7, ⟨by decide +kernel, by decide +kernel, by decide +kernel⟩, by decide +kernel, by decide +kernel⟩
theorem kM_X7_forgotten : Cond.instanceMethod yX7_forgotten ∈ TB := TB_in (List.mem_of_getElem? (i := 911) (by decide +kernel)) rfl
theorem kE_X7_forgotten : Cond.selects yX7_forgotten.cls yX7_forgotten yX7_forgotten ∈ TB := TB_in (List.mem_of_getElem? (i := 912) (by decide +kernel)) rfl
theorem k0_X7_costTo : Lk0 m_X7_costTo 1 := ⟨TB_in (List.mem_of_getElem? (i := 921) (by decide +kernel)) rfl, kI_X7, ⟨by decide +kernel, by decide +kernel, by decide +kernel⟩, by decide +kernel, by decide +kernel⟩
theorem kM_X7_costTo : Cond.instanceMethod yX7_costTo ∈ TB := TB_in (List.mem_of_getElem? (i := 920) (by decide +kernel)) rfl
theorem kE_X7_costTo : Cond.selects yX7_costTo.cls yX7_costTo yX7_costTo ∈ TB := TB_in (List.mem_of_getElem? (i := 56) (by decide +kernel)) rfl
theorem k0_X7_both : Lk0 m_X7_both 3 := ⟨TB_in (List.mem_of_getElem? (i := 917) (by decide +kernel)) rfl, kI_X7, ⟨by decide +kernel, by decide +kernel, by decide +kernel⟩, by decide +kernel, by decide +kernel⟩
theorem kM_X7_both : Cond.instanceMethod yX7_both ∈ TB := TB_in (List.mem_of_getElem? (i := 915) (by decide +kernel)) rfl
theorem kE_X7_both : Cond.selects yX7_both.cls yX7_both yX7_both ∈ TB := TB_in (List.mem_of_getElem? (i := 916) (by decide +kernel)) rfl
theorem k0_X7_byTurns : Lk0 m_X7_byTurns 2 := ⟨TB_in (List.mem_of_getElem? (i := 925) (by decide +kernel)) rfl, kI_X7, ⟨by decide +kernel, by decide +kernel, by decide +kernel⟩, by decide +kernel, by decide +kernel⟩
theorem kM_X7_byTurns : Cond.instanceMethod yX7_byTurns ∈ TB := TB_in (List.mem_of_getElem? (i := 923) (by decide +kernel)) rfl
theorem kE_X7_byTurns : Cond.selects yX7_byTurns.cls yX7_byTurns yX7_byTurns ∈ TB := TB_in (List.mem_of_getElem? (i := 924) (by decide +kernel)) rfl
theorem k0_X7_days : Lk0 m_X7_days 1 := ⟨TB_in (List.mem_of_getElem? (i := 929) (by decide +kernel)) rfl, kI_X7, ⟨by decide +kernel, by decide +kernel, by decide +kernel⟩, by decide +kernel, by decide +kernel⟩
theorem kM_X7_days : Cond.instanceMethod yX7_days ∈ TB := TB_in (List.mem_of_getElem? (i := 927) (by decide +kernel)) rfl
theorem kE_X7_days : Cond.selects yX7_days.cls yX7_days yX7_days ∈ TB := TB_in (List.mem_of_getElem? (i := 928) (by decide +kernel)) rfl
theorem k0_X7_who : Lk0 m_X7_who 1 := ⟨TB_in (List.mem_of_getElem? (i := 933) (by decide +kernel)) rfl, kI_X7, ⟨by decide +kernel, by decide +kernel, by decide +kernel⟩, by decide +kernel, by decide +kernel⟩
theorem kM_X7_who : Cond.instanceMethod yX7_who ∈ TB := TB_in (List.mem_of_getElem? (i := 931) (by decide +kernel)) rfl
theorem kE_X7_who : Cond.selects yX7_who.cls yX7_who yX7_who ∈ TB := TB_in (List.mem_of_getElem? (i := 932) (by decide +kernel)) rfl
theorem k0_X7_fitting : Lk0 m_X7_fitting 1 := ⟨TB_in (List.mem_of_getElem? (i := 941) (by decide +kernel)) rfl, kI_X7, ⟨by decide +kernel, by decide +kernel, by decide +kernel⟩, by decide +kernel, by decide +kernel⟩
theorem kM_X7_fitting : Cond.instanceMethod yX7_fitting ∈ TB := TB_in (List.mem_of_getElem? (i := 940) (by decide +kernel)) rfl
theorem kE_X7_fitting : Cond.selects yX7_fitting.cls yX7_fitting yX7_fitting ∈ TB := TB_in (List.mem_of_getElem? (i := 57) (by decide +kernel)) rfl
theorem k0_X7_fits : Lk0 m_X7_fits 1 := ⟨TB_in (List.mem_of_getElem? (i := 937) (by decide +kernel)) rfl, kI_X7, ⟨by decide +kernel, by decide +kernel, by decide +kernel⟩, by decide +kernel, by decide +kernel⟩
theorem kM_X7_fits : Cond.instanceMethod yX7_fits ∈ TB := TB_in (List.mem_of_getElem? (i := 935) (by decide +kernel)) rfl
theorem kE_X7_fits : Cond.selects yX7_fits.cls yX7_fits yX7_fits ∈ TB := TB_in (List.mem_of_getElem? (i := 936) (by decide +kernel)) rfl
theorem k0_X7_look : Lk0 m_X7_look 2 := ⟨TB_in (List.mem_of_getElem? (i := 945) (by decide +kernel)) rfl, kI_X7, ⟨by decide +kernel, by decide +kernel, by decide +kernel⟩, by decide +kernel, by decide +kernel⟩
theorem kM_X7_look : Cond.instanceMethod yX7_look ∈ TB := TB_in (List.mem_of_getElem? (i := 943) (by decide +kernel)) rfl
theorem kE_X7_look : Cond.selects yX7_look.cls yX7_look yX7_look ∈ TB := TB_in (List.mem_of_getElem? (i := 944) (by decide +kernel)) rfl
theorem k0_X7_laid : Lk0 m_X7_laid 2 := ⟨TB_in (List.mem_of_getElem? (i := 949) (by decide +kernel)) rfl, kI_X7, ⟨by decide +kernel, by decide +kernel, by decide +kernel⟩, by decide +kernel, by decide +kernel⟩
theorem kM_X7_laid : Cond.instanceMethod yX7_laid ∈ TB := TB_in (List.mem_of_getElem? (i := 947) (by decide +kernel)) rfl
theorem kE_X7_laid : Cond.selects yX7_laid.cls yX7_laid yX7_laid ∈ TB := TB_in (List.mem_of_getElem? (i := 948) (by decide +kernel)) rfl
theorem k0_X7_odds : Lk0 m_X7_odds 3 := ⟨TB_in (List.mem_of_getElem? (i := 953) (by decide +kernel)) rfl, kI_X7, ⟨by decide +kernel, by decide +kernel, by decide +kernel⟩, by decide +kernel, by decide +kernel⟩
theorem kM_X7_odds : Cond.instanceMethod yX7_odds ∈ TB := TB_in (List.mem_of_getElem? (i := 951) (by decide +kernel)) rfl
theorem kE_X7_odds : Cond.selects yX7_odds.cls yX7_odds yX7_odds ∈ TB := TB_in (List.mem_of_getElem? (i := 952) (by decide +kernel)) rfl
theorem k0_X7_trialBy : Lk0 m_X7_trialBy 3 := ⟨TB_in (List.mem_of_getElem? (i := 957) (by decide +kernel)) rfl, kI_X7, ⟨by decide +kernel, by decide +kernel, by decide +kernel⟩, by decide +kernel, by decide +kernel⟩
theorem kM_X7_trialBy : Cond.instanceMethod yX7_trialBy ∈ TB := TB_in (List.mem_of_getElem? (i := 955) (by decide +kernel)) rfl
theorem kE_X7_trialBy : Cond.selects yX7_trialBy.cls yX7_trialBy yX7_trialBy ∈ TB := TB_in (List.mem_of_getElem? (i := 956) (by decide +kernel)) rfl
theorem k0_X7_keep : Lk0 m_X7_keep 0 := ⟨TB_in (List.mem_of_getElem? (i := 964) (by decide +kernel)) rfl, kI_X7, ⟨by decide +kernel, by decide +kernel, by decide +kernel⟩, by decide +kernel, by decide +kernel⟩
theorem kM_X7_keep : Cond.instanceMethod yX7_keep ∈ TB := TB_in (List.mem_of_getElem? (i := 962) (by decide +kernel)) rfl
theorem kE_X7_keep : Cond.selects yX7_keep.cls yX7_keep yX7_keep ∈ TB := TB_in (List.mem_of_getElem? (i := 963) (by decide +kernel)) rfl
theorem k0_X7_back : Lk0 m_X7_back 0 := ⟨TB_in (List.mem_of_getElem? (i := 968) (by decide +kernel)) rfl, kI_X7, ⟨by decide +kernel, by decide +kernel, by decide +kernel⟩, by decide +kernel, by decide +kernel⟩
theorem kM_X7_back : Cond.instanceMethod yX7_back ∈ TB := TB_in (List.mem_of_getElem? (i := 966) (by decide +kernel)) rfl
theorem kE_X7_back : Cond.selects yX7_back.cls yX7_back yX7_back ∈ TB := TB_in (List.mem_of_getElem? (i := 967) (by decide +kernel)) rfl
theorem k0_X7_count : Lk0 m_X7_count 1 := ⟨TB_in (List.mem_of_getElem? (i := 972) (by decide +kernel)) rfl, kI_X7, ⟨by decide +kernel, by decide +kernel, by decide +kernel⟩, by decide +kernel, by decide +kernel⟩
theorem kM_X7_count : Cond.instanceMethod yX7_count ∈ TB := TB_in (List.mem_of_getElem? (i := 970) (by decide +kernel)) rfl
theorem kE_X7_count : Cond.selects yX7_count.cls yX7_count yX7_count ∈ TB := TB_in (List.mem_of_getElem? (i := 971) (by decide +kernel)) rfl
theorem k0_J6_bitCount_0f7a4 : Lk0 m_J6_bitCount_0f7a4 1 := ⟨TB_in (List.mem_of_getElem? (i := 621) (by decide +kernel)) rfl, kI_J6, ⟨by decide +kernel, by decide +kernel, by decide +kernel⟩, by decide +kernel, by decide +kernel⟩
theorem kS_J6_bitCount_0f7a4 : Cond.static yJ6_bitCount_0f7a4 ∈ TB := TB_in (List.mem_of_getElem? (i := 620) (by decide +kernel)) rfl
theorem k0_J0_length_8abf5 : Lk0 m_J0_length_8abf5 0 := ⟨TB_in (List.mem_of_getElem? (i := 246) (by decide +kernel)) rfl, kI_J0, ⟨by decide +kernel, by decide +kernel, by decide +kernel⟩, by decide +kernel, by decide +kernel⟩
theorem kM_J0_length_8abf5 : Cond.instanceMethod yJ0_length_8abf5 ∈ TB := TB_in (List.mem_of_getElem? (i := 244) (by decide +kernel)) rfl
theorem kE_J0_length_8abf5 : Cond.selects yJ0_length_8abf5.cls yJ0_length_8abf5 yJ0_length_8abf5 ∈ TB := TB_in (List.mem_of_getElem? (i := 245) (by decide +kernel)) rfl
theorem k0_J0_charAt_5068e : Lk0 m_J0_charAt_5068e 1 := ⟨TB_in (List.mem_of_getElem? (i := 256) (by decide +kernel)) rfl, kI_J0, ⟨by decide +kernel, by decide +kernel, by decide +kernel⟩, by decide +kernel, by decide +kernel⟩
theorem kM_J0_charAt_5068e : Cond.instanceMethod yJ0_charAt_5068e ∈ TB := TB_in (List.mem_of_getElem? (i := 254) (by decide +kernel)) rfl
theorem kE_J0_charAt_5068e : Cond.selects yJ0_charAt_5068e.cls yJ0_charAt_5068e yJ0_charAt_5068e ∈ TB := TB_in (List.mem_of_getElem? (i := 255) (by decide +kernel)) rfl
theorem k0_J0_coder_7d493 : Lk0 m_J0_coder_7d493 0 := ⟨TB_in (List.mem_of_getElem? (i := 250) (by decide +kernel)) rfl, kI_J0, ⟨by decide +kernel, by decide +kernel, by decide +kernel⟩, by decide +kernel, by decide +kernel⟩
theorem kM_J0_coder_7d493 : Cond.instanceMethod yJ0_coder_7d493 ∈ TB := TB_in (List.mem_of_getElem? (i := 248) (by decide +kernel)) rfl
theorem kE_J0_coder_7d493 : Cond.selects yJ0_coder_7d493.cls yJ0_coder_7d493 yJ0_coder_7d493 ∈ TB := TB_in (List.mem_of_getElem? (i := 249) (by decide +kernel)) rfl
theorem k0_J0_isLatin1_aae02 : Lk0 m_J0_isLatin1_aae02 0 := ⟨TB_in (List.mem_of_getElem? (i := 260) (by decide +kernel)) rfl, kI_J0, ⟨by decide +kernel, by decide +kernel, by decide +kernel⟩, by decide +kernel, by decide +kernel⟩
theorem kM_J0_isLatin1_aae02 : Cond.instanceMethod yJ0_isLatin1_aae02 ∈ TB := TB_in (List.mem_of_getElem? (i := 258) (by decide +kernel)) rfl
theorem kE_J0_isLatin1_aae02 : Cond.selects yJ0_isLatin1_aae02.cls yJ0_isLatin1_aae02 yJ0_isLatin1_aae02 ∈ TB := TB_in (List.mem_of_getElem? (i := 259) (by decide +kernel)) rfl
theorem k0_J0_checkIndex_df160 : Lk0 m_J0_checkIndex_df160 2 := ⟨TB_in (List.mem_of_getElem? (i := 266) (by decide +kernel)) rfl, kI_J0, ⟨by decide +kernel, by decide +kernel, by decide +kernel⟩, by decide +kernel, by decide +kernel⟩
theorem kS_J0_checkIndex_df160 : Cond.static yJ0_checkIndex_df160 ∈ TB := TB_in (List.mem_of_getElem? (i := 265) (by decide +kernel)) rfl
theorem k0_J1_charAt_3b067 : Lk0 m_J1_charAt_3b067 2 := ⟨TB_in (List.mem_of_getElem? (i := 263) (by decide +kernel)) rfl, kI_J1, ⟨by decide +kernel, by decide +kernel, by decide +kernel⟩, by decide +kernel, by decide +kernel⟩
theorem kS_J1_charAt_3b067 : Cond.static yJ1_charAt_3b067 ∈ TB := TB_in (List.mem_of_getElem? (i := 262) (by decide +kernel)) rfl
theorem k0_J2_getChar_3b067 : Lk0 m_J2_getChar_3b067 2 := ⟨TB_in (List.mem_of_getElem? (i := 284) (by decide +kernel)) rfl, kI_J2, ⟨by decide +kernel, by decide +kernel, by decide +kernel⟩, by decide +kernel, by decide +kernel⟩
theorem kS_J2_getChar_3b067 : Cond.static yJ2_getChar_3b067 ∈ TB := TB_in (List.mem_of_getElem? (i := 283) (by decide +kernel)) rfl
theorem k0_J2_length_9d52b : Lk0 m_J2_length_9d52b 1 := ⟨TB_in (List.mem_of_getElem? (i := 280) (by decide +kernel)) rfl, kI_J2, ⟨by decide +kernel, by decide +kernel, by decide +kernel⟩, by decide +kernel, by decide +kernel⟩
theorem kS_J2_length_9d52b : Cond.static yJ2_length_9d52b ∈ TB := TB_in (List.mem_of_getElem? (i := 279) (by decide +kernel)) rfl
theorem k0_J2_charAt_3b067 : Lk0 m_J2_charAt_3b067 2 := ⟨TB_in (List.mem_of_getElem? (i := 274) (by decide +kernel)) rfl, kI_J2, ⟨by decide +kernel, by decide +kernel, by decide +kernel⟩, by decide +kernel, by decide +kernel⟩
theorem kS_J2_charAt_3b067 : Cond.static yJ2_charAt_3b067 ∈ TB := TB_in (List.mem_of_getElem? (i := 273) (by decide +kernel)) rfl
theorem k0_J2_checkIndex_2214a : Lk0 m_J2_checkIndex_2214a 2 := ⟨TB_in (List.mem_of_getElem? (i := 277) (by decide +kernel)) rfl, kI_J2, ⟨by decide +kernel, by decide +kernel, by decide +kernel⟩, by decide +kernel, by decide +kernel⟩
theorem kS_J2_checkIndex_2214a : Cond.static yJ2_checkIndex_2214a ∈ TB := TB_in (List.mem_of_getElem? (i := 276) (by decide +kernel)) rfl
theorem k0_J3_checkIndex_8e157 : Lk0 m_J3_checkIndex_8e157 3 := ⟨TB_in (List.mem_of_getElem? (i := 271) (by decide +kernel)) rfl, kI_J3, ⟨by decide +kernel, by decide +kernel, by decide +kernel⟩, by decide +kernel, by decide +kernel⟩
theorem kS_J3_checkIndex_8e157 : Cond.static yJ3_checkIndex_8e157 ∈ TB := TB_in (List.mem_of_getElem? (i := 270) (by decide +kernel)) rfl
theorem kO_X6_1 : Cond.methodLink RX6 1 objectInit ∈ TB := TB_in (List.mem_of_getElem? (i := 79) (by decide +kernel)) rfl
theorem ks_X6_9 : LkN RX6 9 m_X3_init 0 := ⟨k0_X3_init, Or.inr ⟨"HeardBackward", NB_in (List.mem_of_getElem? (i := 84) (by decide +kernel)) rfl⟩, rfl, rfl, kM_X3_init⟩
theorem ks_X6_18 : LkN RX6 18 m_X2_init 0 := ⟨k0_X2_init, Or.inr ⟨"HeardBackward", NB_in (List.mem_of_getElem? (i := 100) (by decide +kernel)) rfl⟩, rfl, rfl, kM_X2_init⟩
theorem ks_X6_25 : LkN RX6 25 m_X0_init 0 := ⟨k0_X0_init, Or.inr ⟨"HeardBackward", NB_in (List.mem_of_getElem? (i := 113) (by decide +kernel)) rfl⟩, rfl, rfl, kM_X0_init⟩
theorem ks_X6_35 : LkN RX6 35 m_X1_init 0 := ⟨k0_X1_init, Or.inr ⟨"HeardBackward", NB_in (List.mem_of_getElem? (i := 152) (by decide +kernel)) rfl⟩, rfl, rfl, kM_X1_init⟩
theorem ks_X6_42 : LkN RX6 42 m_X4_init 1 := ⟨k0_X4_init, Or.inr ⟨"HeardBackward", NB_in (List.mem_of_getElem? (i := 171) (by decide +kernel)) rfl⟩, rfl, rfl, kM_X4_init⟩
theorem ks_X6_54 : LkN RX6 54 m_X5_init 0 := ⟨k0_X5_init, Or.inr ⟨"HeardBackward", NB_in (List.mem_of_getElem? (i := 194) (by decide +kernel)) rfl⟩, rfl, rfl, kM_X5_init⟩
theorem ks_X6_64 : LkV RX6 64 m_X3_addAll 1 := ⟨k0_X3_addAll, Or.inr ⟨"HeardBackward", NB_in (List.mem_of_getElem? (i := 239) (by decide +kernel)) rfl⟩, kM_X3_addAll, kE_X3_addAll⟩
theorem ks_X6_68 : LkV RX6 68 m_X2_readAll 2 := ⟨k0_X2_readAll, Or.inr ⟨"HeardBackward", NB_in (List.mem_of_getElem? (i := 298) (by decide +kernel)) rfl⟩, kM_X2_readAll, kE_X2_readAll⟩
theorem ks_X6_72 : LkV RX6 72 m_X3_clear 0 := ⟨k0_X3_clear, Or.inr ⟨"HeardBackward", NB_in (List.mem_of_getElem? (i := 364) (by decide +kernel)) rfl⟩, kM_X3_clear, kE_X3_clear⟩
theorem ks_X6_75 : LkS RX6 75 m_X6_outside 3 := ⟨k0_X6_outside, Or.inl (TB_in (List.mem_of_getElem? (i := 401) (by decide +kernel)) rfl), kS_X6_outside⟩
theorem ks_X6_79 : LkV RX6 79 m_X3_add 1 := ⟨k0_X3_add, Or.inr ⟨"HeardBackward", NB_in (List.mem_of_getElem? (i := 402) (by decide +kernel)) rfl⟩, kM_X3_add, kE_X3_add⟩
theorem ks_X6_90 : LkV RX6 90 m_X0_copyFrom 1 := ⟨k0_X0_copyFrom, Or.inr ⟨"HeardBackward", NB_in (List.mem_of_getElem? (i := 415) (by decide +kernel)) rfl⟩, kM_X0_copyFrom, kE_X0_copyFrom⟩
theorem ks_X6_94 : LkV RX6 94 m_X1_clear 0 := ⟨k0_X1_clear, Or.inr ⟨"HeardBackward", NB_in (List.mem_of_getElem? (i := 422) (by decide +kernel)) rfl⟩, kM_X1_clear, kE_X1_clear⟩
theorem ks_X6_95 : LkV RX6 95 m_X4_clear 0 := ⟨k0_X4_clear, Or.inr ⟨"HeardBackward", NB_in (List.mem_of_getElem? (i := 426) (by decide +kernel)) rfl⟩, kM_X4_clear, kE_X4_clear⟩
theorem ks_X6_99 : LkV RX6 99 m_X0_isStatement 1 := ⟨k0_X0_isStatement, Or.inr ⟨"HeardBackward", NB_in (List.mem_of_getElem? (i := 434) (by decide +kernel)) rfl⟩, kM_X0_isStatement, kE_X0_isStatement⟩
theorem ks_X6_106 : LkS RX6 106 m_X6_at 2 := ⟨k0_X6_at, Or.inl (TB_in (List.mem_of_getElem? (i := 435) (by decide +kernel)) rfl), kS_X6_at⟩
theorem ks_X6_116 : LkV RX6 116 m_X0_isVerdict 1 := ⟨k0_X0_isVerdict, Or.inr ⟨"HeardBackward", NB_in (List.mem_of_getElem? (i := 436) (by decide +kernel)) rfl⟩, kM_X0_isVerdict, kE_X0_isVerdict⟩
theorem ks_X6_119 : LkS RX6 119 m_X6_asNumber 1 := ⟨k0_X6_asNumber, Or.inl (TB_in (List.mem_of_getElem? (i := 443) (by decide +kernel)) rfl), kS_X6_asNumber⟩
theorem ks_X6_129 : LkS RX6 129 m_X6_has 2 := ⟨k0_X6_has, Or.inl (TB_in (List.mem_of_getElem? (i := 446) (by decide +kernel)) rfl), kS_X6_has⟩
theorem ks_X6_133 : LkV RX6 133 m_X1_open 1 := ⟨k0_X1_open, Or.inr ⟨"HeardBackward", NB_in (List.mem_of_getElem? (i := 451) (by decide +kernel)) rfl⟩, kM_X1_open, kE_X1_open⟩
theorem ks_X6_137 : LkV RX6 137 m_X4_add 1 := ⟨k0_X4_add, Or.inr ⟨"HeardBackward", NB_in (List.mem_of_getElem? (i := 464) (by decide +kernel)) rfl⟩, kM_X4_add, kE_X4_add⟩
theorem ks_X6_140 : LkV RX6 140 m_X1_add 1 := ⟨k0_X1_add, Or.inr ⟨"HeardBackward", NB_in (List.mem_of_getElem? (i := 480) (by decide +kernel)) rfl⟩, kM_X1_add, kE_X1_add⟩
theorem ks_X6_143 : LkV RX6 143 m_X1_members 0 := ⟨k0_X1_members, Or.inr ⟨"HeardBackward", NB_in (List.mem_of_getElem? (i := 493) (by decide +kernel)) rfl⟩, kM_X1_members, kE_X1_members⟩
theorem ks_X6_147 : LkS RX6 147 m_X6_bit 1 := ⟨k0_X6_bit, Or.inl (TB_in (List.mem_of_getElem? (i := 494) (by decide +kernel)) rfl), kS_X6_bit⟩
theorem ks_X6_151 : LkV RX6 151 m_X4_takeLatest 1 := ⟨k0_X4_takeLatest, Or.inr ⟨"HeardBackward", NB_in (List.mem_of_getElem? (i := 499) (by decide +kernel)) rfl⟩, kM_X4_takeLatest, kE_X4_takeLatest⟩
theorem ks_X6_159 : LkV RX6 159 m_X0_costOf 2 := ⟨k0_X0_costOf, Or.inr ⟨"HeardBackward", NB_in (List.mem_of_getElem? (i := 515) (by decide +kernel)) rfl⟩, kM_X0_costOf, kE_X0_costOf⟩
theorem ks_X6_162 : LkV RX6 162 m_X1_isEnded 1 := ⟨k0_X1_isEnded, Or.inr ⟨"HeardBackward", NB_in (List.mem_of_getElem? (i := 519) (by decide +kernel)) rfl⟩, kM_X1_isEnded, kE_X1_isEnded⟩
theorem ks_X6_166 : LkV RX6 166 m_X1_isStuck 1 := ⟨k0_X1_isStuck, Or.inr ⟨"HeardBackward", NB_in (List.mem_of_getElem? (i := 524) (by decide +kernel)) rfl⟩, kM_X1_isStuck, kE_X1_isStuck⟩
theorem ks_X6_169 : LkV RX6 169 m_X5_walkAll 3 := ⟨k0_X5_walkAll, Or.inr ⟨"HeardBackward", NB_in (List.mem_of_getElem? (i := 534) (by decide +kernel)) rfl⟩, kM_X5_walkAll, kE_X5_walkAll⟩
theorem ks_X6_194 : LkV RX6 194 m_X0_all 0 := ⟨k0_X0_all, Or.inr ⟨"HeardBackward", NB_in (List.mem_of_getElem? (i := 574) (by decide +kernel)) rfl⟩, kM_X0_all, kE_X0_all⟩
theorem ks_X6_200 : LkV RX6 200 m_X6_winningOpening 1 := ⟨k0_X6_winningOpening, Or.inl (TB_in (List.mem_of_getElem? (i := 586) (by decide +kernel)) rfl), kM_X6_winningOpening, kE_X6_winningOpening⟩
theorem ks_X6_206 : LkV RX6 206 m_X0_isNight 1 := ⟨k0_X0_isNight, Or.inr ⟨"HeardBackward", NB_in (List.mem_of_getElem? (i := 594) (by decide +kernel)) rfl⟩, kM_X0_isNight, kE_X0_isNight⟩
theorem ks_X6_209 : LkV RX6 209 m_X0_doers 1 := ⟨k0_X0_doers, Or.inr ⟨"HeardBackward", NB_in (List.mem_of_getElem? (i := 595) (by decide +kernel)) rfl⟩, kM_X0_doers, kE_X0_doers⟩
theorem ks_X6_212 : LkV RX6 212 m_X6_fittingPeople 1 := ⟨k0_X6_fittingPeople, Or.inl (TB_in (List.mem_of_getElem? (i := 611) (by decide +kernel)) rfl), kM_X6_fittingPeople, kE_X6_fittingPeople⟩
theorem ks_X6_215 : LkS RX6 215 m_J6_bitCount_0f7a4 1 := ⟨k0_J6_bitCount_0f7a4, Or.inl (TB_in (List.mem_of_getElem? (i := 619) (by decide +kernel)) rfl), kS_J6_bitCount_0f7a4⟩
theorem ks_X6_220 : LkV RX6 220 m_X0_daysOf 2 := ⟨k0_X0_daysOf, Or.inr ⟨"HeardBackward", NB_in (List.mem_of_getElem? (i := 629) (by decide +kernel)) rfl⟩, kM_X0_daysOf, kE_X0_daysOf⟩
theorem ks_X6_223 : LkS RX6 223 m_X6_commonDivisor 2 := ⟨k0_X6_commonDivisor, Or.inl (TB_in (List.mem_of_getElem? (i := 634) (by decide +kernel)) rfl), kS_X6_commonDivisor⟩
theorem ks_X6_227 : LkS RX6 227 m_X6_openBehind 4 := ⟨k0_X6_openBehind, Or.inl (TB_in (List.mem_of_getElem? (i := 590) (by decide +kernel)) rfl), kS_X6_openBehind⟩
theorem ks_X6_231 : LkS RX6 231 m_X6_draw 2 := ⟨k0_X6_draw, Or.inl (TB_in (List.mem_of_getElem? (i := 643) (by decide +kernel)) rfl), kS_X6_draw⟩
theorem ks_X6_234 : LkS RX6 234 m_X6_bitByRank 2 := ⟨k0_X6_bitByRank, Or.inl (TB_in (List.mem_of_getElem? (i := 650) (by decide +kernel)) rfl), kS_X6_bitByRank⟩
theorem ks_X6_240 : LkS RX6 240 m_X6_isWon 5 := ⟨k0_X6_isWon, Or.inl (TB_in (List.mem_of_getElem? (i := 591) (by decide +kernel)) rfl), kS_X6_isWon⟩
theorem kX_max_X6_252 : Cond.methodLink RX6 252 Lib.Math.max.name ∈ TB := TB_in (List.mem_of_getElem? (i := 637) (by decide +kernel)) rfl
theorem kX_min_X6_257 : Cond.methodLink RX6 257 Lib.Math.min.name ∈ TB := TB_in (List.mem_of_getElem? (i := 638) (by decide +kernel)) rfl
theorem kO_X0_3 : Cond.methodLink RX0 3 objectInit ∈ TB := TB_in (List.mem_of_getElem? (i := 116) (by decide +kernel)) rfl
theorem kA_X0_37 : Cond.methodLink RX0 37 arraycopyName ∈ TB := TB_in (List.mem_of_getElem? (i := 419) (by decide +kernel)) rfl
theorem ks_X0_43 : LkS RX0 43 m_X6_outside 3 := ⟨k0_X6_outside, Or.inr ⟨"HeardBackward", NB_in (List.mem_of_getElem? (i := 336) (by decide +kernel)) rfl⟩, kS_X6_outside⟩
theorem ks_X0_47 : LkS RX0 47 m_X6_put 3 := ⟨k0_X6_put, Or.inr ⟨"HeardBackward", NB_in (List.mem_of_getElem? (i := 339) (by decide +kernel)) rfl⟩, kS_X6_put⟩
theorem ks_X0_51 : LkV RX0 51 m_X0_isStatement 1 := ⟨k0_X0_isStatement, Or.inl (TB_in (List.mem_of_getElem? (i := 344) (by decide +kernel)) rfl), kM_X0_isStatement, kE_X0_isStatement⟩
theorem ks_X0_55 : LkV RX0 55 m_X0_isNight 1 := ⟨k0_X0_isNight, Or.inl (TB_in (List.mem_of_getElem? (i := 348) (by decide +kernel)) rfl), kM_X0_isNight, kE_X0_isNight⟩
theorem ks_X0_58 : LkS RX0 58 m_X6_bit 1 := ⟨k0_X6_bit, Or.inr ⟨"HeardBackward", NB_in (List.mem_of_getElem? (i := 353) (by decide +kernel)) rfl⟩, kS_X6_bit⟩
theorem ks_X0_62 : LkS RX0 62 m_X6_at 2 := ⟨k0_X6_at, Or.inr ⟨"HeardBackward", NB_in (List.mem_of_getElem? (i := 352) (by decide +kernel)) rfl⟩, kS_X6_at⟩
theorem ks_X0_66 : LkS RX0 66 m_X6_has 2 := ⟨k0_X6_has, Or.inr ⟨"HeardBackward", NB_in (List.mem_of_getElem? (i := 440) (by decide +kernel)) rfl⟩, kS_X6_has⟩
theorem kO_X1_3 : Cond.methodLink RX1 3 objectInit ∈ TB := TB_in (List.mem_of_getElem? (i := 155) (by decide +kernel)) rfl
theorem kA_X1_22 : Cond.methodLink RX1 22 arraycopyName ∈ TB := TB_in (List.mem_of_getElem? (i := 476) (by decide +kernel)) rfl
theorem ks_X1_28 : LkS RX1 28 m_X6_put 3 := ⟨k0_X6_put, Or.inr ⟨"HeardBackward", NB_in (List.mem_of_getElem? (i := 484) (by decide +kernel)) rfl⟩, kS_X6_put⟩
theorem ks_X1_32 : LkS RX1 32 m_X6_at 2 := ⟨k0_X6_at, Or.inr ⟨"HeardBackward", NB_in (List.mem_of_getElem? (i := 455) (by decide +kernel)) rfl⟩, kS_X6_at⟩
theorem ks_X1_36 : LkS RX1 36 m_X6_bit 1 := ⟨k0_X6_bit, Or.inr ⟨"HeardBackward", NB_in (List.mem_of_getElem? (i := 460) (by decide +kernel)) rfl⟩, kS_X6_bit⟩
theorem ks_X1_45 : LkV RX1 45 m_X1_members 0 := ⟨k0_X1_members, Or.inl (TB_in (List.mem_of_getElem? (i := 456) (by decide +kernel)) rfl), kM_X1_members, kE_X1_members⟩
theorem ks_X1_49 : LkS RX1 49 m_X6_openBehind 4 := ⟨k0_X6_openBehind, Or.inr ⟨"HeardBackward", NB_in (List.mem_of_getElem? (i := 461) (by decide +kernel)) rfl⟩, kS_X6_openBehind⟩
theorem ks_X1_53 : LkV RX1 53 m_X0_isNight 1 := ⟨k0_X0_isNight, Or.inr ⟨"HeardBackward", NB_in (List.mem_of_getElem? (i := 523) (by decide +kernel)) rfl⟩, kM_X0_isNight, kE_X0_isNight⟩
theorem ks_X1_57 : LkV RX1 57 m_X1_isEnded 1 := ⟨k0_X1_isEnded, Or.inl (TB_in (List.mem_of_getElem? (i := 528) (by decide +kernel)) rfl), kM_X1_isEnded, kE_X1_isEnded⟩
theorem ks_X1_61 : LkV RX1 61 m_X1_open 1 := ⟨k0_X1_open, Or.inl (TB_in (List.mem_of_getElem? (i := 529) (by decide +kernel)) rfl), kM_X1_open, kE_X1_open⟩
theorem kO_X2_3 : Cond.methodLink RX2 3 objectInit ∈ TB := TB_in (List.mem_of_getElem? (i := 103) (by decide +kernel)) rfl
theorem ks_X2_15 : LkV RX2 15 m_X0_clear 0 := ⟨k0_X0_clear, Or.inr ⟨"HeardBackward", NB_in (List.mem_of_getElem? (i := 302) (by decide +kernel)) rfl⟩, kM_X0_clear, kE_X0_clear⟩
theorem ks_X2_26 : LkV RX2 26 m_X2_readNumbers 2 := ⟨k0_X2_readNumbers, Or.inl (TB_in (List.mem_of_getElem? (i := 306) (by decide +kernel)) rfl), kM_X2_readNumbers, kE_X2_readNumbers⟩
theorem ks_X2_30 : LkV RX2 30 m_X3_letterAt 1 := ⟨k0_X3_letterAt, Or.inr ⟨"HeardBackward", NB_in (List.mem_of_getElem? (i := 313) (by decide +kernel)) rfl⟩, kM_X3_letterAt, kE_X3_letterAt⟩
theorem ks_X2_34 : LkV RX2 34 m_X2_tell 2 := ⟨k0_X2_tell, Or.inl (TB_in (List.mem_of_getElem? (i := 327) (by decide +kernel)) rfl), kM_X2_tell, kE_X2_tell⟩
theorem ks_X2_38 : LkS RX2 38 m_X2_figuresFrom 2 := ⟨k0_X2_figuresFrom, Or.inl (TB_in (List.mem_of_getElem? (i := 310) (by decide +kernel)) rfl), kS_X2_figuresFrom⟩
theorem ks_X2_41 : LkS RX2 41 m_X2_numberFrom 3 := ⟨k0_X2_numberFrom, Or.inl (TB_in (List.mem_of_getElem? (i := 323) (by decide +kernel)) rfl), kS_X2_numberFrom⟩
theorem ks_X2_45 : LkS RX2 45 m_X6_put 3 := ⟨k0_X6_put, Or.inr ⟨"HeardBackward", NB_in (List.mem_of_getElem? (i := 326) (by decide +kernel)) rfl⟩, kS_X6_put⟩
theorem ks_X2_52 : LkS RX2 52 m_X2_isFigure 1 := ⟨k0_X2_isFigure, Or.inl (TB_in (List.mem_of_getElem? (i := 320) (by decide +kernel)) rfl), kS_X2_isFigure⟩
theorem ks_X2_56 : LkS RX2 56 m_X6_at 2 := ⟨k0_X6_at, Or.inr ⟨"HeardBackward", NB_in (List.mem_of_getElem? (i := 331) (by decide +kernel)) rfl⟩, kS_X6_at⟩
theorem ks_X2_60 : LkV RX2 60 m_X0_addStatement 3 := ⟨k0_X0_addStatement, Or.inr ⟨"HeardBackward", NB_in (List.mem_of_getElem? (i := 332) (by decide +kernel)) rfl⟩, kM_X0_addStatement, kE_X0_addStatement⟩
theorem ks_X2_64 : LkV RX2 64 m_X0_addVerdict 1 := ⟨k0_X0_addVerdict, Or.inr ⟨"HeardBackward", NB_in (List.mem_of_getElem? (i := 340) (by decide +kernel)) rfl⟩, kM_X0_addVerdict, kE_X0_addVerdict⟩
theorem ks_X2_67 : LkV RX2 67 m_X0_addHang 2 := ⟨k0_X0_addHang, Or.inr ⟨"HeardBackward", NB_in (List.mem_of_getElem? (i := 356) (by decide +kernel)) rfl⟩, kM_X0_addHang, kE_X0_addHang⟩
theorem ks_X2_71 : LkV RX2 71 m_X0_addPerson 2 := ⟨k0_X0_addPerson, Or.inr ⟨"HeardBackward", NB_in (List.mem_of_getElem? (i := 360) (by decide +kernel)) rfl⟩, kM_X0_addPerson, kE_X0_addPerson⟩
theorem kO_X3_3 : Cond.methodLink RX3 3 objectInit ∈ TB := TB_in (List.mem_of_getElem? (i := 87) (by decide +kernel)) rfl
theorem ks_X3_19 : LkS RX3 19 m_X6_put 3 := ⟨k0_X6_put, Or.inr ⟨"HeardBackward", NB_in (List.mem_of_getElem? (i := 295) (by decide +kernel)) rfl⟩, kS_X6_put⟩
theorem ks_X3_23 : LkV RX3 23 m_J0_length_8abf5 0 := ⟨k0_J0_length_8abf5, Or.inl (TB_in (List.mem_of_getElem? (i := 243) (by decide +kernel)) rfl), kM_J0_length_8abf5, kE_J0_length_8abf5⟩
theorem ks_X3_28 : LkV RX3 28 m_J0_charAt_5068e 1 := ⟨k0_J0_charAt_5068e, Or.inl (TB_in (List.mem_of_getElem? (i := 253) (by decide +kernel)) rfl), kM_J0_charAt_5068e, kE_J0_charAt_5068e⟩
theorem ks_X3_32 : LkV RX3 32 m_X3_add 1 := ⟨k0_X3_add, Or.inl (TB_in (List.mem_of_getElem? (i := 291) (by decide +kernel)) rfl), kM_X3_add, kE_X3_add⟩
theorem ks_X3_36 : LkS RX3 36 m_X6_at 2 := ⟨k0_X6_at, Or.inr ⟨"HeardBackward", NB_in (List.mem_of_getElem? (i := 317) (by decide +kernel)) rfl⟩, kS_X6_at⟩
theorem kO_X4_1 : Cond.methodLink RX4 1 objectInit ∈ TB := TB_in (List.mem_of_getElem? (i := 174) (by decide +kernel)) rfl
theorem kX_max_X4_7 : Cond.methodLink RX4 7 Lib.Math.max.name ∈ TB := TB_in (List.mem_of_getElem? (i := 175) (by decide +kernel)) rfl
theorem ks_X4_21 : LkN RX4 21 m_X1_init 0 := ⟨k0_X1_init, Or.inr ⟨"HeardBackward", NB_in (List.mem_of_getElem? (i := 180) (by decide +kernel)) rfl⟩, rfl, rfl, kM_X1_init⟩
theorem ks_X4_29 : LkV RX4 29 m_X4_placeAt 1 := ⟨k0_X4_placeAt, Or.inl (TB_in (List.mem_of_getElem? (i := 468) (by decide +kernel)) rfl), kM_X4_placeAt, kE_X4_placeAt⟩
theorem ks_X4_33 : LkV RX4 33 m_X1_copyFrom 1 := ⟨k0_X1_copyFrom, Or.inr ⟨"HeardBackward", NB_in (List.mem_of_getElem? (i := 472) (by decide +kernel)) rfl⟩, kM_X1_copyFrom, kE_X1_copyFrom⟩
theorem kX_min_X4_37 : Cond.methodLink RX4 37 Lib.Math.min.name ∈ TB := TB_in (List.mem_of_getElem? (i := 477) (by decide +kernel)) rfl
theorem kO_X5_3 : Cond.methodLink RX5 3 objectInit ∈ TB := TB_in (List.mem_of_getElem? (i := 197) (by decide +kernel)) rfl
theorem ks_X5_34 : LkS RX5 34 m_X6_has 2 := ⟨k0_X6_has, Or.inr ⟨"HeardBackward", NB_in (List.mem_of_getElem? (i := 538) (by decide +kernel)) rfl⟩, kS_X6_has⟩
theorem ks_X5_38 : LkS RX5 38 m_X6_put 3 := ⟨k0_X6_put, Or.inr ⟨"HeardBackward", NB_in (List.mem_of_getElem? (i := 539) (by decide +kernel)) rfl⟩, kS_X6_put⟩
theorem ks_X5_42 : LkS RX5 42 m_X6_bit 1 := ⟨k0_X6_bit, Or.inr ⟨"HeardBackward", NB_in (List.mem_of_getElem? (i := 540) (by decide +kernel)) rfl⟩, kS_X6_bit⟩
theorem ks_X5_46 : LkS RX5 46 m_X5_walk 5 := ⟨k0_X5_walk, Or.inl (TB_in (List.mem_of_getElem? (i := 541) (by decide +kernel)) rfl), kS_X5_walk⟩
theorem ks_X5_50 : LkS RX5 50 m_X6_at 2 := ⟨k0_X6_at, Or.inr ⟨"HeardBackward", NB_in (List.mem_of_getElem? (i := 544) (by decide +kernel)) rfl⟩, kS_X6_at⟩
theorem ks_X5_54 : LkV RX5 54 m_X0_isNight 1 := ⟨k0_X0_isNight, Or.inr ⟨"HeardBackward", NB_in (List.mem_of_getElem? (i := 545) (by decide +kernel)) rfl⟩, kM_X0_isNight, kE_X0_isNight⟩
theorem ks_X5_60 : LkV RX5 60 m_X5_note 3 := ⟨k0_X5_note, Or.inl (TB_in (List.mem_of_getElem? (i := 546) (by decide +kernel)) rfl), kM_X5_note, kE_X5_note⟩
theorem ks_X5_64 : LkS RX5 64 m_X6_openBehind 4 := ⟨k0_X6_openBehind, Or.inr ⟨"HeardBackward", NB_in (List.mem_of_getElem? (i := 557) (by decide +kernel)) rfl⟩, kS_X6_openBehind⟩
theorem ks_X5_68 : LkV RX5 68 m_X0_costOf 2 := ⟨k0_X0_costOf, Or.inr ⟨"HeardBackward", NB_in (List.mem_of_getElem? (i := 550) (by decide +kernel)) rfl⟩, kM_X0_costOf, kE_X0_costOf⟩
theorem ks_X5_71 : LkV RX5 71 m_X0_daysOf 2 := ⟨k0_X0_daysOf, Or.inr ⟨"HeardBackward", NB_in (List.mem_of_getElem? (i := 551) (by decide +kernel)) rfl⟩, kM_X0_daysOf, kE_X0_daysOf⟩
theorem kA_X5_80 : Cond.methodLink RX5 80 arraycopyName ∈ TB := TB_in (List.mem_of_getElem? (i := 555) (by decide +kernel)) rfl
theorem kX_min_X5_89 : Cond.methodLink RX5 89 Lib.Math.min.name ∈ TB := TB_in (List.mem_of_getElem? (i := 556) (by decide +kernel)) rfl
theorem ks_L_9 : LkN RL 9 m_X6_init 0 := ⟨k0_X6_init, Or.inl (TB_in (List.mem_of_getElem? (i := 76) (by decide +kernel)) rfl), rfl, rfl, kM_X6_init⟩
theorem ks_L_12 : LkN RL 12 m_X7_init 0 := ⟨k0_X7_init, Or.inl (TB_in (List.mem_of_getElem? (i := 667) (by decide +kernel)) rfl), rfl, rfl, kM_X7_init⟩
theorem ks_L_13 : LkV RL 13 m_X6_write 1 := ⟨k0_X6_write, Or.inl (TB_in (List.mem_of_getElem? (i := 397) (by decide +kernel)) rfl), kM_X6_write, kE_X6_write⟩
theorem ks_L_17 : LkV RL 17 m_X7_write 1 := ⟨k0_X7_write, Or.inl (TB_in (List.mem_of_getElem? (i := 762) (by decide +kernel)) rfl), kM_X7_write, kE_X7_write⟩
theorem ks_L_18 : LkV RL 18 m_X6_wipe 0 := ⟨k0_X6_wipe, Or.inl (TB_in (List.mem_of_getElem? (i := 403) (by decide +kernel)) rfl), kM_X6_wipe, kE_X6_wipe⟩
theorem ks_L_22 : LkV RL 22 m_X7_wipe 0 := ⟨k0_X7_wipe, Or.inl (TB_in (List.mem_of_getElem? (i := 769) (by decide +kernel)) rfl), kM_X7_wipe, kE_X7_wipe⟩
theorem ks_L_23 : LkV RL 23 m_X6_fault 0 := ⟨k0_X6_fault, Or.inl (TB_in (List.mem_of_getElem? (i := 407) (by decide +kernel)) rfl), kM_X6_fault, kE_X6_fault⟩
theorem ks_L_26 : LkV RL 26 m_X7_fault 0 := ⟨k0_X7_fault, Or.inl (TB_in (List.mem_of_getElem? (i := 773) (by decide +kernel)) rfl), kM_X7_fault, kE_X7_fault⟩
theorem ks_L_27 : LkV RL 27 m_X6_lay 0 := ⟨k0_X6_lay, Or.inl (TB_in (List.mem_of_getElem? (i := 411) (by decide +kernel)) rfl), kM_X6_lay, kE_X6_lay⟩
theorem ks_L_30 : LkV RL 30 m_X7_lay 0 := ⟨k0_X7_lay, Or.inl (TB_in (List.mem_of_getElem? (i := 793) (by decide +kernel)) rfl), kM_X7_lay, kE_X7_lay⟩
theorem ks_L_31 : LkV RL 31 m_X6_statement 2 := ⟨k0_X6_statement, Or.inl (TB_in (List.mem_of_getElem? (i := 430) (by decide +kernel)) rfl), kM_X6_statement, kE_X6_statement⟩
theorem ks_L_35 : LkV RL 35 m_X7_statement 2 := ⟨k0_X7_statement, Or.inl (TB_in (List.mem_of_getElem? (i := 798) (by decide +kernel)) rfl), kM_X7_statement, kE_X7_statement⟩
theorem ks_L_36 : LkV RL 36 m_X6_argue 1 := ⟨k0_X6_argue, Or.inl (TB_in (List.mem_of_getElem? (i := 447) (by decide +kernel)) rfl), kM_X6_argue, kE_X6_argue⟩
theorem ks_L_39 : LkV RL 39 m_X7_argue 1 := ⟨k0_X7_argue, Or.inl (TB_in (List.mem_of_getElem? (i := 818) (by decide +kernel)) rfl), kM_X7_argue, kE_X7_argue⟩
theorem ks_L_40 : LkV RL 40 m_X6_drop 0 := ⟨k0_X6_drop, Or.inl (TB_in (List.mem_of_getElem? (i := 485) (by decide +kernel)) rfl), kM_X6_drop, kE_X6_drop⟩
theorem ks_L_43 : LkV RL 43 m_X7_drop 0 := ⟨k0_X7_drop, Or.inl (TB_in (List.mem_of_getElem? (i := 831) (by decide +kernel)) rfl), kM_X7_drop, kE_X7_drop⟩
theorem ks_L_44 : LkV RL 44 m_X6_strike 1 := ⟨k0_X6_strike, Or.inl (TB_in (List.mem_of_getElem? (i := 489) (by decide +kernel)) rfl), kM_X6_strike, kE_X6_strike⟩
theorem ks_L_47 : LkV RL 47 m_X7_strike 1 := ⟨k0_X7_strike, Or.inl (TB_in (List.mem_of_getElem? (i := 835) (by decide +kernel)) rfl), kM_X7_strike, kE_X7_strike⟩
theorem ks_L_48 : LkV RL 48 m_X6_undo 0 := ⟨k0_X6_undo, Or.inl (TB_in (List.mem_of_getElem? (i := 495) (by decide +kernel)) rfl), kM_X6_undo, kE_X6_undo⟩
theorem ks_L_51 : LkV RL 51 m_X7_undo 0 := ⟨k0_X7_undo, Or.inl (TB_in (List.mem_of_getElem? (i := 839) (by decide +kernel)) rfl), kM_X7_undo, kE_X7_undo⟩
theorem ks_L_52 : LkV RL 52 m_X6_argued 1 := ⟨k0_X6_argued, Or.inl (TB_in (List.mem_of_getElem? (i := 503) (by decide +kernel)) rfl), kM_X6_argued, kE_X6_argued⟩
theorem ks_L_55 : LkV RL 55 m_X7_argued 1 := ⟨k0_X7_argued, Or.inl (TB_in (List.mem_of_getElem? (i := 843) (by decide +kernel)) rfl), kM_X7_argued, kE_X7_argued⟩
theorem ks_L_56 : LkV RL 56 m_X6_next 0 := ⟨k0_X6_next, Or.inl (TB_in (List.mem_of_getElem? (i := 507) (by decide +kernel)) rfl), kM_X6_next, kE_X6_next⟩
theorem ks_L_59 : LkV RL 59 m_X7_next 0 := ⟨k0_X7_next, Or.inl (TB_in (List.mem_of_getElem? (i := 806) (by decide +kernel)) rfl), kM_X7_next, kE_X7_next⟩
theorem ks_L_60 : LkV RL 60 m_X6_trial 1 := ⟨k0_X6_trial, Or.inl (TB_in (List.mem_of_getElem? (i := 511) (by decide +kernel)) rfl), kM_X6_trial, kE_X6_trial⟩
theorem ks_L_63 : LkV RL 63 m_X7_trial 1 := ⟨k0_X7_trial, Or.inl (TB_in (List.mem_of_getElem? (i := 847) (by decide +kernel)) rfl), kM_X7_trial, kE_X7_trial⟩
theorem ks_L_64 : LkV RL 64 m_X6_chains 1 := ⟨k0_X6_chains, Or.inl (TB_in (List.mem_of_getElem? (i := 530) (by decide +kernel)) rfl), kM_X6_chains, kE_X6_chains⟩
theorem ks_L_67 : LkV RL 67 m_X7_chains 1 := ⟨k0_X7_chains, Or.inl (TB_in (List.mem_of_getElem? (i := 855) (by decide +kernel)) rfl), kM_X7_chains, kE_X7_chains⟩
theorem ks_L_68 : LkV RL 68 m_X6_shortest 2 := ⟨k0_X6_shortest, Or.inl (TB_in (List.mem_of_getElem? (i := 558) (by decide +kernel)) rfl), kM_X6_shortest, kE_X6_shortest⟩
theorem ks_L_71 : LkV RL 71 m_X7_shortest 2 := ⟨k0_X7_shortest, Or.inl (TB_in (List.mem_of_getElem? (i := 894) (by decide +kernel)) rfl), kM_X7_shortest, kE_X7_shortest⟩
theorem ks_L_72 : LkV RL 72 m_X6_nights 1 := ⟨k0_X6_nights, Or.inl (TB_in (List.mem_of_getElem? (i := 562) (by decide +kernel)) rfl), kM_X6_nights, kE_X6_nights⟩
theorem ks_L_75 : LkV RL 75 m_X7_nights 1 := ⟨k0_X7_nights, Or.inl (TB_in (List.mem_of_getElem? (i := 902) (by decide +kernel)) rfl), kM_X7_nights, kE_X7_nights⟩
theorem ks_L_76 : LkV RL 76 m_X6_needed 1 := ⟨k0_X6_needed, Or.inl (TB_in (List.mem_of_getElem? (i := 566) (by decide +kernel)) rfl), kM_X6_needed, kE_X6_needed⟩
theorem ks_L_79 : LkV RL 79 m_X7_needed 1 := ⟨k0_X7_needed, Or.inl (TB_in (List.mem_of_getElem? (i := 906) (by decide +kernel)) rfl), kM_X7_needed, kE_X7_needed⟩
theorem ks_L_80 : LkV RL 80 m_X6_forgotten 0 := ⟨k0_X6_forgotten, Or.inl (TB_in (List.mem_of_getElem? (i := 570) (by decide +kernel)) rfl), kM_X6_forgotten, kE_X6_forgotten⟩
theorem ks_L_83 : LkV RL 83 m_X7_forgotten 0 := ⟨k0_X7_forgotten, Or.inl (TB_in (List.mem_of_getElem? (i := 910) (by decide +kernel)) rfl), kM_X7_forgotten, kE_X7_forgotten⟩
theorem ks_L_84 : LkV RL 84 m_X6_both 3 := ⟨k0_X6_both, Or.inl (TB_in (List.mem_of_getElem? (i := 578) (by decide +kernel)) rfl), kM_X6_both, kE_X6_both⟩
theorem ks_L_88 : LkV RL 88 m_X7_both 3 := ⟨k0_X7_both, Or.inl (TB_in (List.mem_of_getElem? (i := 914) (by decide +kernel)) rfl), kM_X7_both, kE_X7_both⟩
theorem ks_L_89 : LkV RL 89 m_X6_byTurns 2 := ⟨k0_X6_byTurns, Or.inl (TB_in (List.mem_of_getElem? (i := 582) (by decide +kernel)) rfl), kM_X6_byTurns, kE_X6_byTurns⟩
theorem ks_L_92 : LkV RL 92 m_X7_byTurns 2 := ⟨k0_X7_byTurns, Or.inl (TB_in (List.mem_of_getElem? (i := 922) (by decide +kernel)) rfl), kM_X7_byTurns, kE_X7_byTurns⟩
theorem ks_L_93 : LkV RL 93 m_X6_days 1 := ⟨k0_X6_days, Or.inl (TB_in (List.mem_of_getElem? (i := 599) (by decide +kernel)) rfl), kM_X6_days, kE_X6_days⟩
theorem ks_L_96 : LkV RL 96 m_X7_days 1 := ⟨k0_X7_days, Or.inl (TB_in (List.mem_of_getElem? (i := 926) (by decide +kernel)) rfl), kM_X7_days, kE_X7_days⟩
theorem ks_L_97 : LkV RL 97 m_X6_who 1 := ⟨k0_X6_who, Or.inl (TB_in (List.mem_of_getElem? (i := 603) (by decide +kernel)) rfl), kM_X6_who, kE_X6_who⟩
theorem ks_L_100 : LkV RL 100 m_X7_who 1 := ⟨k0_X7_who, Or.inl (TB_in (List.mem_of_getElem? (i := 930) (by decide +kernel)) rfl), kM_X7_who, kE_X7_who⟩
theorem ks_L_101 : LkV RL 101 m_X6_fits 1 := ⟨k0_X6_fits, Or.inl (TB_in (List.mem_of_getElem? (i := 607) (by decide +kernel)) rfl), kM_X6_fits, kE_X6_fits⟩
theorem ks_L_104 : LkV RL 104 m_X7_fits 1 := ⟨k0_X7_fits, Or.inl (TB_in (List.mem_of_getElem? (i := 934) (by decide +kernel)) rfl), kM_X7_fits, kE_X7_fits⟩
theorem ks_L_105 : LkV RL 105 m_X6_look 2 := ⟨k0_X6_look, Or.inl (TB_in (List.mem_of_getElem? (i := 615) (by decide +kernel)) rfl), kM_X6_look, kE_X6_look⟩
theorem ks_L_108 : LkV RL 108 m_X7_look 2 := ⟨k0_X7_look, Or.inl (TB_in (List.mem_of_getElem? (i := 942) (by decide +kernel)) rfl), kM_X7_look, kE_X7_look⟩
theorem ks_L_109 : LkV RL 109 m_X6_laid 2 := ⟨k0_X6_laid, Or.inl (TB_in (List.mem_of_getElem? (i := 625) (by decide +kernel)) rfl), kM_X6_laid, kE_X6_laid⟩
theorem ks_L_112 : LkV RL 112 m_X7_laid 2 := ⟨k0_X7_laid, Or.inl (TB_in (List.mem_of_getElem? (i := 946) (by decide +kernel)) rfl), kM_X7_laid, kE_X7_laid⟩
theorem ks_L_113 : LkV RL 113 m_X6_odds 3 := ⟨k0_X6_odds, Or.inl (TB_in (List.mem_of_getElem? (i := 630) (by decide +kernel)) rfl), kM_X6_odds, kE_X6_odds⟩
theorem ks_L_116 : LkV RL 116 m_X7_odds 3 := ⟨k0_X7_odds, Or.inl (TB_in (List.mem_of_getElem? (i := 950) (by decide +kernel)) rfl), kM_X7_odds, kE_X7_odds⟩
theorem ks_L_117 : LkV RL 117 m_X6_trialBy 3 := ⟨k0_X6_trialBy, Or.inl (TB_in (List.mem_of_getElem? (i := 639) (by decide +kernel)) rfl), kM_X6_trialBy, kE_X6_trialBy⟩
theorem ks_L_120 : LkV RL 120 m_X7_trialBy 3 := ⟨k0_X7_trialBy, Or.inl (TB_in (List.mem_of_getElem? (i := 954) (by decide +kernel)) rfl), kM_X7_trialBy, kE_X7_trialBy⟩
theorem ks_L_121 : LkV RL 121 m_X6_keep 0 := ⟨k0_X6_keep, Or.inl (TB_in (List.mem_of_getElem? (i := 653) (by decide +kernel)) rfl), kM_X6_keep, kE_X6_keep⟩
theorem ks_L_124 : LkV RL 124 m_X7_keep 0 := ⟨k0_X7_keep, Or.inl (TB_in (List.mem_of_getElem? (i := 961) (by decide +kernel)) rfl), kM_X7_keep, kE_X7_keep⟩
theorem ks_L_125 : LkV RL 125 m_X6_back 0 := ⟨k0_X6_back, Or.inl (TB_in (List.mem_of_getElem? (i := 657) (by decide +kernel)) rfl), kM_X6_back, kE_X6_back⟩
theorem ks_L_128 : LkV RL 128 m_X7_back 0 := ⟨k0_X7_back, Or.inl (TB_in (List.mem_of_getElem? (i := 965) (by decide +kernel)) rfl), kM_X7_back, kE_X7_back⟩
theorem ks_L_129 : LkV RL 129 m_X6_count 1 := ⟨k0_X6_count, Or.inl (TB_in (List.mem_of_getElem? (i := 661) (by decide +kernel)) rfl), kM_X6_count, kE_X6_count⟩
theorem ks_L_132 : LkV RL 132 m_X7_count 1 := ⟨k0_X7_count, Or.inl (TB_in (List.mem_of_getElem? (i := 969) (by decide +kernel)) rfl), kM_X7_count, kE_X7_count⟩
theorem kO_X7_1 : Cond.methodLink RX7 1 objectInit ∈ TB := TB_in (List.mem_of_getElem? (i := 670) (by decide +kernel)) rfl
theorem ks_X7_71 : LkV RX7 71 m_X7_firstOf 3 := ⟨k0_X7_firstOf, Or.inl (TB_in (List.mem_of_getElem? (i := 671) (by decide +kernel)) rfl), kM_X7_firstOf, kE_X7_firstOf⟩
theorem ks_X7_75 : LkV RX7 75 m_X7_firstPerson 2 := ⟨k0_X7_firstPerson, Or.inl (TB_in (List.mem_of_getElem? (i := 675) (by decide +kernel)) rfl), kM_X7_firstPerson, kE_X7_firstPerson⟩
theorem ks_X7_79 : LkV RX7 79 m_X7_takeDraft 0 := ⟨k0_X7_takeDraft, Or.inl (TB_in (List.mem_of_getElem? (i := 679) (by decide +kernel)) rfl), kM_X7_takeDraft, kE_X7_takeDraft⟩
theorem ks_X7_82 : LkS RX7 82 m_X7_in 3 := ⟨k0_X7_in, Or.inl (TB_in (List.mem_of_getElem? (i := 766) (by decide +kernel)) rfl), kS_X7_in⟩
theorem ks_X7_93 : LkV RX7 93 m_X7_here 0 := ⟨k0_X7_here, Or.inl (TB_in (List.mem_of_getElem? (i := 781) (by decide +kernel)) rfl), kM_X7_here, kE_X7_here⟩
theorem ks_X7_101 : LkV RX7 101 m_X7_number 3 := ⟨k0_X7_number, Or.inl (TB_in (List.mem_of_getElem? (i := 785) (by decide +kernel)) rfl), kM_X7_number, kE_X7_number⟩
theorem ks_X7_105 : LkV RX7 105 m_X7_statementAt 1 := ⟨k0_X7_statementAt, Or.inl (TB_in (List.mem_of_getElem? (i := 789) (by decide +kernel)) rfl), kM_X7_statementAt, kE_X7_statementAt⟩
theorem ks_X7_109 : LkV RX7 109 m_X7_readItem 0 := ⟨k0_X7_readItem, Or.inl (TB_in (List.mem_of_getElem? (i := 777) (by decide +kernel)) rfl), kM_X7_readItem, kE_X7_readItem⟩
theorem ks_X7_118 : LkV RX7 118 m_X7_fault 0 := ⟨k0_X7_fault, Or.inl (TB_in (List.mem_of_getElem? (i := 797) (by decide +kernel)) rfl), kM_X7_fault, kE_X7_fault⟩
theorem ks_X7_121 : LkV RX7 121 m_X7_copy 2 := ⟨k0_X7_copy, Or.inl (TB_in (List.mem_of_getElem? (i := 827) (by decide +kernel)) rfl), kM_X7_copy, kE_X7_copy⟩
theorem ks_X7_124 : LkV RX7 124 m_X7_isStatement 1 := ⟨k0_X7_isStatement, Or.inl (TB_in (List.mem_of_getElem? (i := 802) (by decide +kernel)) rfl), kM_X7_isStatement, kE_X7_isStatement⟩
theorem ks_X7_128 : LkV RX7 128 m_X7_said 0 := ⟨k0_X7_said, Or.inl (TB_in (List.mem_of_getElem? (i := 810) (by decide +kernel)) rfl), kM_X7_said, kE_X7_said⟩
theorem ks_X7_131 : LkV RX7 131 m_X7_behind 2 := ⟨k0_X7_behind, Or.inl (TB_in (List.mem_of_getElem? (i := 814) (by decide +kernel)) rfl), kM_X7_behind, kE_X7_behind⟩
theorem ks_X7_135 : LkV RX7 135 m_X7_next 0 := ⟨k0_X7_next, Or.inl (TB_in (List.mem_of_getElem? (i := 822) (by decide +kernel)) rfl), kM_X7_next, kE_X7_next⟩
theorem ks_X7_138 : LkV RX7 138 m_X7_know 0 := ⟨k0_X7_know, Or.inl (TB_in (List.mem_of_getElem? (i := 823) (by decide +kernel)) rfl), kM_X7_know, kE_X7_know⟩
theorem ks_X7_141 : LkV RX7 141 m_X7_cost 3 := ⟨k0_X7_cost, Or.inl (TB_in (List.mem_of_getElem? (i := 851) (by decide +kernel)) rfl), kM_X7_cost, kE_X7_cost⟩
theorem ks_X7_145 : LkV RX7 145 m_X7_couldHave 1 := ⟨k0_X7_couldHave, Or.inl (TB_in (List.mem_of_getElem? (i := 876) (by decide +kernel)) rfl), kM_X7_couldHave, kE_X7_couldHave⟩
theorem ks_X7_148 : LkS RX7 148 m_X7_manyOf 1 := ⟨k0_X7_manyOf, Or.inl (TB_in (List.mem_of_getElem? (i := 884) (by decide +kernel)) rfl), kS_X7_manyOf⟩
theorem ks_X7_151 : LkV RX7 151 m_X7_endAt 3 := ⟨k0_X7_endAt, Or.inl (TB_in (List.mem_of_getElem? (i := 871) (by decide +kernel)) rfl), kM_X7_endAt, kE_X7_endAt⟩
theorem ks_X7_154 : LkV RX7 154 m_X7_goOn 3 := ⟨k0_X7_goOn, Or.inl (TB_in (List.mem_of_getElem? (i := 880) (by decide +kernel)) rfl), kM_X7_goOn, kE_X7_goOn⟩
theorem ks_X7_157 : LkV RX7 157 m_X7_solve 1 := ⟨k0_X7_solve, Or.inl (TB_in (List.mem_of_getElem? (i := 867) (by decide +kernel)) rfl), kM_X7_solve, kE_X7_solve⟩
theorem ks_X7_161 : LkV RX7 161 m_X7_isStruck 1 := ⟨k0_X7_isStruck, Or.inl (TB_in (List.mem_of_getElem? (i := 887) (by decide +kernel)) rfl), kM_X7_isStruck, kE_X7_isStruck⟩
theorem ks_X7_164 : LkS RX7 164 m_X7_rowOf 1 := ⟨k0_X7_rowOf, Or.inl (TB_in (List.mem_of_getElem? (i := 891) (by decide +kernel)) rfl), kS_X7_rowOf⟩
theorem ks_X7_167 : LkV RX7 167 m_X7_isVerdict 1 := ⟨k0_X7_isVerdict, Or.inl (TB_in (List.mem_of_getElem? (i := 859) (by decide +kernel)) rfl), kM_X7_isVerdict, kE_X7_isVerdict⟩
theorem ks_X7_170 : LkV RX7 170 m_X7_hasWhole 1 := ⟨k0_X7_hasWhole, Or.inl (TB_in (List.mem_of_getElem? (i := 863) (by decide +kernel)) rfl), kM_X7_hasWhole, kE_X7_hasWhole⟩
theorem ks_X7_176 : LkV RX7 176 m_X7_followFrom 1 := ⟨k0_X7_followFrom, Or.inl (TB_in (List.mem_of_getElem? (i := 898) (by decide +kernel)) rfl), kM_X7_followFrom, kE_X7_followFrom⟩
theorem ks_X7_179 : LkV RX7 179 m_X7_costTo 1 := ⟨k0_X7_costTo, Or.inl (TB_in (List.mem_of_getElem? (i := 918) (by decide +kernel)) rfl), kM_X7_costTo, kE_X7_costTo⟩
theorem ks_X7_182 : LkV RX7 182 m_X7_fitting 1 := ⟨k0_X7_fitting, Or.inl (TB_in (List.mem_of_getElem? (i := 938) (by decide +kernel)) rfl), kM_X7_fitting, kE_X7_fitting⟩
theorem ks_J0_335 : LkV RJ0 335 m_J0_coder_7d493 0 := ⟨k0_J0_coder_7d493, Or.inl (TB_in (List.mem_of_getElem? (i := 247) (by decide +kernel)) rfl), kM_J0_coder_7d493, kE_J0_coder_7d493⟩
theorem ks_J0_492 : LkV RJ0 492 m_J0_isLatin1_aae02 0 := ⟨k0_J0_isLatin1_aae02, Or.inl (TB_in (List.mem_of_getElem? (i := 257) (by decide +kernel)) rfl), kM_J0_isLatin1_aae02, kE_J0_isLatin1_aae02⟩
theorem ks_J0_495 : LkS RJ0 495 m_J1_charAt_3b067 2 := ⟨k0_J1_charAt_3b067, Or.inl (TB_in (List.mem_of_getElem? (i := 261) (by decide +kernel)) rfl), kS_J1_charAt_3b067⟩
theorem ks_J0_498 : LkS RJ0 498 m_J2_charAt_3b067 2 := ⟨k0_J2_charAt_3b067, Or.inl (TB_in (List.mem_of_getElem? (i := 272) (by decide +kernel)) rfl), kS_J2_charAt_3b067⟩
theorem ks_J0_1059 : LkS RJ0 1059 m_J3_checkIndex_8e157 3 := ⟨k0_J3_checkIndex_8e157, Or.inl (TB_in (List.mem_of_getElem? (i := 269) (by decide +kernel)) rfl), kS_J3_checkIndex_8e157⟩
theorem ks_J1_9 : LkS RJ1 9 m_J0_checkIndex_df160 2 := ⟨k0_J0_checkIndex_df160, Or.inl (TB_in (List.mem_of_getElem? (i := 264) (by decide +kernel)) rfl), kS_J0_checkIndex_df160⟩
theorem ks_J2_48 : LkS RJ2 48 m_J2_length_9d52b 1 := ⟨k0_J2_length_9d52b, Or.inl (TB_in (List.mem_of_getElem? (i := 278) (by decide +kernel)) rfl), kS_J2_length_9d52b⟩
theorem ks_J2_67 : LkS RJ2 67 m_J2_checkIndex_2214a 2 := ⟨k0_J2_checkIndex_2214a, Or.inl (TB_in (List.mem_of_getElem? (i := 275) (by decide +kernel)) rfl), kS_J2_checkIndex_2214a⟩
theorem ks_J2_71 : LkS RJ2 71 m_J2_getChar_3b067 2 := ⟨k0_J2_getChar_3b067, Or.inl (TB_in (List.mem_of_getElem? (i := 282) (by decide +kernel)) rfl), kS_J2_getChar_3b067⟩
theorem ks_J2_414 : LkS RJ2 414 m_J0_checkIndex_df160 2 := ⟨k0_J0_checkIndex_df160, Or.inl (TB_in (List.mem_of_getElem? (i := 281) (by decide +kernel)) rfl), kS_J0_checkIndex_df160⟩
theorem kf_X3_9 : LkF RX3 9 3 0 := ⟨_, _, _, rfl, by decide, Or.inl (TB_in (List.mem_of_getElem? (i := 88) (by decide +kernel)) rfl)⟩
theorem kF_X3_9 : Cond.fieldLink RX3 9 (TX3 0).1 (TX3 0).2.1 (TX3 0).2.2.1 ∈ TB := TB_in (List.mem_of_getElem? (i := 88) (by decide +kernel)) rfl
theorem kf_X3_15 : LkF RX3 15 3 1 := ⟨_, _, _, rfl, by decide, Or.inl (TB_in (List.mem_of_getElem? (i := 89) (by decide +kernel)) rfl)⟩
theorem kf_X2_9 : LkF RX2 9 2 0 := ⟨_, _, _, rfl, by decide, Or.inl (TB_in (List.mem_of_getElem? (i := 104) (by decide +kernel)) rfl)⟩
theorem kF_X2_9 : Cond.fieldLink RX2 9 (TX2 0).1 (TX2 0).2.1 (TX2 0).2.2.1 ∈ TB := TB_in (List.mem_of_getElem? (i := 104) (by decide +kernel)) rfl
theorem kf_X2_49 : LkF RX2 49 2 1 := ⟨_, _, _, rfl, by decide, Or.inl (TB_in (List.mem_of_getElem? (i := 105) (by decide +kernel)) rfl)⟩
theorem kf_X0_9 : LkF RX0 9 0 0 := ⟨_, _, _, rfl, by decide, Or.inl (TB_in (List.mem_of_getElem? (i := 117) (by decide +kernel)) rfl)⟩
theorem kF_X0_9 : Cond.fieldLink RX0 9 (TX0 0).1 (TX0 0).2.1 (TX0 0).2.2.1 ∈ TB := TB_in (List.mem_of_getElem? (i := 117) (by decide +kernel)) rfl
theorem kf_X0_15 : LkF RX0 15 0 1 := ⟨_, _, _, rfl, by decide, Or.inl (TB_in (List.mem_of_getElem? (i := 119) (by decide +kernel)) rfl)⟩
theorem kF_X0_15 : Cond.fieldLink RX0 15 (TX0 1).1 (TX0 1).2.1 (TX0 1).2.2.1 ∈ TB := TB_in (List.mem_of_getElem? (i := 119) (by decide +kernel)) rfl
theorem kf_X0_18 : LkF RX0 18 0 2 := ⟨_, _, _, rfl, by decide, Or.inl (TB_in (List.mem_of_getElem? (i := 121) (by decide +kernel)) rfl)⟩
theorem kF_X0_18 : Cond.fieldLink RX0 18 (TX0 2).1 (TX0 2).2.1 (TX0 2).2.2.1 ∈ TB := TB_in (List.mem_of_getElem? (i := 121) (by decide +kernel)) rfl
theorem kf_X0_21 : LkF RX0 21 0 3 := ⟨_, _, _, rfl, by decide, Or.inl (TB_in (List.mem_of_getElem? (i := 123) (by decide +kernel)) rfl)⟩
theorem kF_X0_21 : Cond.fieldLink RX0 21 (TX0 3).1 (TX0 3).2.1 (TX0 3).2.2.1 ∈ TB := TB_in (List.mem_of_getElem? (i := 123) (by decide +kernel)) rfl
theorem kf_X0_24 : LkF RX0 24 0 4 := ⟨_, _, _, rfl, by decide, Or.inl (TB_in (List.mem_of_getElem? (i := 125) (by decide +kernel)) rfl)⟩
theorem kF_X0_24 : Cond.fieldLink RX0 24 (TX0 4).1 (TX0 4).2.1 (TX0 4).2.2.1 ∈ TB := TB_in (List.mem_of_getElem? (i := 125) (by decide +kernel)) rfl
theorem kf_X0_27 : LkF RX0 27 0 5 := ⟨_, _, _, rfl, by decide, Or.inl (TB_in (List.mem_of_getElem? (i := 126) (by decide +kernel)) rfl)⟩
theorem kf_X0_31 : LkF RX0 31 0 6 := ⟨_, _, _, rfl, by decide, Or.inl (TB_in (List.mem_of_getElem? (i := 128) (by decide +kernel)) rfl)⟩
theorem kf_X0_34 : LkF RX0 34 0 7 := ⟨_, _, _, rfl, by decide, Or.inl (TB_in (List.mem_of_getElem? (i := 131) (by decide +kernel)) rfl)⟩
theorem kf_X1_9 : LkF RX1 9 1 0 := ⟨_, _, _, rfl, by decide, Or.inl (TB_in (List.mem_of_getElem? (i := 156) (by decide +kernel)) rfl)⟩
theorem kF_X1_9 : Cond.fieldLink RX1 9 (TX1 0).1 (TX1 0).2.1 (TX1 0).2.2.1 ∈ TB := TB_in (List.mem_of_getElem? (i := 156) (by decide +kernel)) rfl
theorem kf_X1_15 : LkF RX1 15 1 1 := ⟨_, _, _, rfl, by decide, Or.inl (TB_in (List.mem_of_getElem? (i := 158) (by decide +kernel)) rfl)⟩
theorem kf_X1_19 : LkF RX1 19 1 2 := ⟨_, _, _, rfl, by decide, Or.inl (TB_in (List.mem_of_getElem? (i := 160) (by decide +kernel)) rfl)⟩
theorem kf_X4_15 : LkF RX4 15 4 0 := ⟨_, _, _, rfl, by decide, Or.inl (TB_in (List.mem_of_getElem? (i := 181) (by decide +kernel)) rfl)⟩
theorem kF_X4_15 : Cond.fieldLink RX4 15 (TX4 0).1 (TX4 0).2.1 (TX4 0).2.2.1 ∈ TB := TB_in (List.mem_of_getElem? (i := 181) (by decide +kernel)) rfl
theorem kf_X4_26 : LkF RX4 26 4 1 := ⟨_, _, _, rfl, by decide, Or.inl (TB_in (List.mem_of_getElem? (i := 182) (by decide +kernel)) rfl)⟩
theorem kf_X4_22 : LkF RX4 22 4 2 := ⟨_, _, _, rfl, by decide, Or.inl (TB_in (List.mem_of_getElem? (i := 183) (by decide +kernel)) rfl)⟩
theorem kf_X5_9 : LkF RX5 9 5 0 := ⟨_, _, _, rfl, by decide, Or.inl (TB_in (List.mem_of_getElem? (i := 198) (by decide +kernel)) rfl)⟩
theorem kF_X5_9 : Cond.fieldLink RX5 9 (TX5 0).1 (TX5 0).2.1 (TX5 0).2.2.1 ∈ TB := TB_in (List.mem_of_getElem? (i := 198) (by decide +kernel)) rfl
theorem kf_X5_15 : LkF RX5 15 5 1 := ⟨_, _, _, rfl, by decide, Or.inl (TB_in (List.mem_of_getElem? (i := 199) (by decide +kernel)) rfl)⟩
theorem kF_X5_15 : Cond.fieldLink RX5 15 (TX5 1).1 (TX5 1).2.1 (TX5 1).2.2.1 ∈ TB := TB_in (List.mem_of_getElem? (i := 199) (by decide +kernel)) rfl
theorem kf_X5_18 : LkF RX5 18 5 2 := ⟨_, _, _, rfl, by decide, Or.inl (TB_in (List.mem_of_getElem? (i := 201) (by decide +kernel)) rfl)⟩
theorem kF_X5_18 : Cond.fieldLink RX5 18 (TX5 2).1 (TX5 2).2.1 (TX5 2).2.2.1 ∈ TB := TB_in (List.mem_of_getElem? (i := 201) (by decide +kernel)) rfl
theorem kf_X5_21 : LkF RX5 21 5 3 := ⟨_, _, _, rfl, by decide, Or.inl (TB_in (List.mem_of_getElem? (i := 203) (by decide +kernel)) rfl)⟩
theorem kf_X5_74 : LkF RX5 74 5 4 := ⟨_, _, _, rfl, by decide, Or.inl (TB_in (List.mem_of_getElem? (i := 205) (by decide +kernel)) rfl)⟩
theorem kf_X5_77 : LkF RX5 77 5 5 := ⟨_, _, _, rfl, by decide, Or.inl (TB_in (List.mem_of_getElem? (i := 207) (by decide +kernel)) rfl)⟩
theorem kf_X5_86 : LkF RX5 86 5 6 := ⟨_, _, _, rfl, by decide, Or.inl (TB_in (List.mem_of_getElem? (i := 209) (by decide +kernel)) rfl)⟩
theorem kf_X5_25 : LkF RX5 25 5 7 := ⟨_, _, _, rfl, by decide, Or.inl (TB_in (List.mem_of_getElem? (i := 211) (by decide +kernel)) rfl)⟩
theorem kf_X5_28 : LkF RX5 28 5 8 := ⟨_, _, _, rfl, by decide, Or.inl (TB_in (List.mem_of_getElem? (i := 213) (by decide +kernel)) rfl)⟩
theorem kf_X5_31 : LkF RX5 31 5 9 := ⟨_, _, _, rfl, by decide, Or.inl (TB_in (List.mem_of_getElem? (i := 215) (by decide +kernel)) rfl)⟩
theorem kf_X6_10 : LkF RX6 10 6 0 := ⟨_, _, _, rfl, by decide, Or.inl (TB_in (List.mem_of_getElem? (i := 368) (by decide +kernel)) rfl)⟩
theorem kF_X6_10 : Cond.fieldLink RX6 10 (TX6 0).1 (TX6 0).2.1 (TX6 0).2.2.1 ∈ TB := TB_in (List.mem_of_getElem? (i := 368) (by decide +kernel)) rfl
theorem kf_X6_19 : LkF RX6 19 6 1 := ⟨_, _, _, rfl, by decide, Or.inl (TB_in (List.mem_of_getElem? (i := 369) (by decide +kernel)) rfl)⟩
theorem kF_X6_19 : Cond.fieldLink RX6 19 (TX6 1).1 (TX6 1).2.1 (TX6 1).2.2.1 ∈ TB := TB_in (List.mem_of_getElem? (i := 369) (by decide +kernel)) rfl
theorem kf_X6_26 : LkF RX6 26 6 2 := ⟨_, _, _, rfl, by decide, Or.inl (TB_in (List.mem_of_getElem? (i := 370) (by decide +kernel)) rfl)⟩
theorem kF_X6_26 : Cond.fieldLink RX6 26 (TX6 2).1 (TX6 2).2.1 (TX6 2).2.2.1 ∈ TB := TB_in (List.mem_of_getElem? (i := 370) (by decide +kernel)) rfl
theorem kf_X6_30 : LkF RX6 30 6 3 := ⟨_, _, _, rfl, by decide, Or.inl (TB_in (List.mem_of_getElem? (i := 371) (by decide +kernel)) rfl)⟩
theorem kF_X6_30 : Cond.fieldLink RX6 30 (TX6 3).1 (TX6 3).2.1 (TX6 3).2.2.1 ∈ TB := TB_in (List.mem_of_getElem? (i := 371) (by decide +kernel)) rfl
theorem kf_X6_36 : LkF RX6 36 6 4 := ⟨_, _, _, rfl, by decide, Or.inl (TB_in (List.mem_of_getElem? (i := 372) (by decide +kernel)) rfl)⟩
theorem kF_X6_36 : Cond.fieldLink RX6 36 (TX6 4).1 (TX6 4).2.1 (TX6 4).2.2.1 ∈ TB := TB_in (List.mem_of_getElem? (i := 372) (by decide +kernel)) rfl
theorem kf_X6_45 : LkF RX6 45 6 5 := ⟨_, _, _, rfl, by decide, Or.inl (TB_in (List.mem_of_getElem? (i := 373) (by decide +kernel)) rfl)⟩
theorem kF_X6_45 : Cond.fieldLink RX6 45 (TX6 5).1 (TX6 5).2.1 (TX6 5).2.2.1 ∈ TB := TB_in (List.mem_of_getElem? (i := 373) (by decide +kernel)) rfl
theorem kf_X6_49 : LkF RX6 49 6 6 := ⟨_, _, _, rfl, by decide, Or.inl (TB_in (List.mem_of_getElem? (i := 374) (by decide +kernel)) rfl)⟩
theorem kF_X6_49 : Cond.fieldLink RX6 49 (TX6 6).1 (TX6 6).2.1 (TX6 6).2.2.1 ∈ TB := TB_in (List.mem_of_getElem? (i := 374) (by decide +kernel)) rfl
theorem kf_X6_55 : LkF RX6 55 6 7 := ⟨_, _, _, rfl, by decide, Or.inl (TB_in (List.mem_of_getElem? (i := 375) (by decide +kernel)) rfl)⟩
theorem kF_X6_55 : Cond.fieldLink RX6 55 (TX6 7).1 (TX6 7).2.1 (TX6 7).2.2.1 ∈ TB := TB_in (List.mem_of_getElem? (i := 375) (by decide +kernel)) rfl
theorem kf_X6_59 : LkF RX6 59 6 8 := ⟨_, _, _, rfl, by decide, Or.inl (TB_in (List.mem_of_getElem? (i := 376) (by decide +kernel)) rfl)⟩
theorem kF_X6_59 : Cond.fieldLink RX6 59 (TX6 8).1 (TX6 8).2.1 (TX6 8).2.2.1 ∈ TB := TB_in (List.mem_of_getElem? (i := 376) (by decide +kernel)) rfl
theorem kf_X7_7 : LkF RX7 7 7 0 := ⟨_, _, _, rfl, by decide, Or.inl (TB_in (List.mem_of_getElem? (i := 683) (by decide +kernel)) rfl)⟩
theorem kF_X7_7 : Cond.fieldLink RX7 7 (TX7 0).1 (TX7 0).2.1 (TX7 0).2.2.1 ∈ TB := TB_in (List.mem_of_getElem? (i := 683) (by decide +kernel)) rfl
theorem kf_X7_86 : LkF RX7 86 7 1 := ⟨_, _, _, rfl, by decide, Or.inl (TB_in (List.mem_of_getElem? (i := 684) (by decide +kernel)) rfl)⟩
theorem kf_X7_13 : LkF RX7 13 7 2 := ⟨_, _, _, rfl, by decide, Or.inl (TB_in (List.mem_of_getElem? (i := 685) (by decide +kernel)) rfl)⟩
theorem kF_X7_13 : Cond.fieldLink RX7 13 (TX7 2).1 (TX7 2).2.1 (TX7 2).2.2.1 ∈ TB := TB_in (List.mem_of_getElem? (i := 685) (by decide +kernel)) rfl
theorem kf_X7_17 : LkF RX7 17 7 3 := ⟨_, _, _, rfl, by decide, Or.inl (TB_in (List.mem_of_getElem? (i := 686) (by decide +kernel)) rfl)⟩
theorem kF_X7_17 : Cond.fieldLink RX7 17 (TX7 3).1 (TX7 3).2.1 (TX7 3).2.2.1 ∈ TB := TB_in (List.mem_of_getElem? (i := 686) (by decide +kernel)) rfl
theorem kf_X7_20 : LkF RX7 20 7 4 := ⟨_, _, _, rfl, by decide, Or.inl (TB_in (List.mem_of_getElem? (i := 687) (by decide +kernel)) rfl)⟩
theorem kF_X7_20 : Cond.fieldLink RX7 20 (TX7 4).1 (TX7 4).2.1 (TX7 4).2.2.1 ∈ TB := TB_in (List.mem_of_getElem? (i := 687) (by decide +kernel)) rfl
theorem kf_X7_23 : LkF RX7 23 7 5 := ⟨_, _, _, rfl, by decide, Or.inl (TB_in (List.mem_of_getElem? (i := 688) (by decide +kernel)) rfl)⟩
theorem kF_X7_23 : Cond.fieldLink RX7 23 (TX7 5).1 (TX7 5).2.1 (TX7 5).2.2.1 ∈ TB := TB_in (List.mem_of_getElem? (i := 688) (by decide +kernel)) rfl
theorem kf_X7_26 : LkF RX7 26 7 6 := ⟨_, _, _, rfl, by decide, Or.inl (TB_in (List.mem_of_getElem? (i := 689) (by decide +kernel)) rfl)⟩
theorem kF_X7_26 : Cond.fieldLink RX7 26 (TX7 6).1 (TX7 6).2.1 (TX7 6).2.2.1 ∈ TB := TB_in (List.mem_of_getElem? (i := 689) (by decide +kernel)) rfl
theorem kf_X7_29 : LkF RX7 29 7 7 := ⟨_, _, _, rfl, by decide, Or.inl (TB_in (List.mem_of_getElem? (i := 690) (by decide +kernel)) rfl)⟩
theorem kF_X7_29 : Cond.fieldLink RX7 29 (TX7 7).1 (TX7 7).2.1 (TX7 7).2.2.1 ∈ TB := TB_in (List.mem_of_getElem? (i := 690) (by decide +kernel)) rfl
theorem kf_X7_32 : LkF RX7 32 7 8 := ⟨_, _, _, rfl, by decide, Or.inl (TB_in (List.mem_of_getElem? (i := 691) (by decide +kernel)) rfl)⟩
theorem kF_X7_32 : Cond.fieldLink RX7 32 (TX7 8).1 (TX7 8).2.1 (TX7 8).2.2.1 ∈ TB := TB_in (List.mem_of_getElem? (i := 691) (by decide +kernel)) rfl
theorem kf_X7_35 : LkF RX7 35 7 9 := ⟨_, _, _, rfl, by decide, Or.inl (TB_in (List.mem_of_getElem? (i := 692) (by decide +kernel)) rfl)⟩
theorem kF_X7_35 : Cond.fieldLink RX7 35 (TX7 9).1 (TX7 9).2.1 (TX7 9).2.2.1 ∈ TB := TB_in (List.mem_of_getElem? (i := 692) (by decide +kernel)) rfl
theorem kf_X7_90 : LkF RX7 90 7 10 := ⟨_, _, _, rfl, by decide, Or.inl (TB_in (List.mem_of_getElem? (i := 693) (by decide +kernel)) rfl)⟩
theorem kf_X7_97 : LkF RX7 97 7 11 := ⟨_, _, _, rfl, by decide, Or.inl (TB_in (List.mem_of_getElem? (i := 694) (by decide +kernel)) rfl)⟩
theorem kf_X7_38 : LkF RX7 38 7 12 := ⟨_, _, _, rfl, by decide, Or.inl (TB_in (List.mem_of_getElem? (i := 695) (by decide +kernel)) rfl)⟩
theorem kF_X7_38 : Cond.fieldLink RX7 38 (TX7 12).1 (TX7 12).2.1 (TX7 12).2.2.1 ∈ TB := TB_in (List.mem_of_getElem? (i := 695) (by decide +kernel)) rfl
theorem kf_X7_112 : LkF RX7 112 7 13 := ⟨_, _, _, rfl, by decide, Or.inl (TB_in (List.mem_of_getElem? (i := 696) (by decide +kernel)) rfl)⟩
theorem kf_X7_115 : LkF RX7 115 7 14 := ⟨_, _, _, rfl, by decide, Or.inl (TB_in (List.mem_of_getElem? (i := 697) (by decide +kernel)) rfl)⟩
theorem kf_X7_41 : LkF RX7 41 7 15 := ⟨_, _, _, rfl, by decide, Or.inl (TB_in (List.mem_of_getElem? (i := 698) (by decide +kernel)) rfl)⟩
theorem kF_X7_41 : Cond.fieldLink RX7 41 (TX7 15).1 (TX7 15).2.1 (TX7 15).2.2.1 ∈ TB := TB_in (List.mem_of_getElem? (i := 698) (by decide +kernel)) rfl
theorem kf_X7_44 : LkF RX7 44 7 16 := ⟨_, _, _, rfl, by decide, Or.inl (TB_in (List.mem_of_getElem? (i := 699) (by decide +kernel)) rfl)⟩
theorem kF_X7_44 : Cond.fieldLink RX7 44 (TX7 16).1 (TX7 16).2.1 (TX7 16).2.2.1 ∈ TB := TB_in (List.mem_of_getElem? (i := 699) (by decide +kernel)) rfl
theorem kf_X7_47 : LkF RX7 47 7 17 := ⟨_, _, _, rfl, by decide, Or.inl (TB_in (List.mem_of_getElem? (i := 700) (by decide +kernel)) rfl)⟩
theorem kF_X7_47 : Cond.fieldLink RX7 47 (TX7 17).1 (TX7 17).2.1 (TX7 17).2.2.1 ∈ TB := TB_in (List.mem_of_getElem? (i := 700) (by decide +kernel)) rfl
theorem kf_X7_50 : LkF RX7 50 7 18 := ⟨_, _, _, rfl, by decide, Or.inl (TB_in (List.mem_of_getElem? (i := 701) (by decide +kernel)) rfl)⟩
theorem kF_X7_50 : Cond.fieldLink RX7 50 (TX7 18).1 (TX7 18).2.1 (TX7 18).2.2.1 ∈ TB := TB_in (List.mem_of_getElem? (i := 701) (by decide +kernel)) rfl
theorem kf_X7_53 : LkF RX7 53 7 19 := ⟨_, _, _, rfl, by decide, Or.inl (TB_in (List.mem_of_getElem? (i := 702) (by decide +kernel)) rfl)⟩
theorem kF_X7_53 : Cond.fieldLink RX7 53 (TX7 19).1 (TX7 19).2.1 (TX7 19).2.2.1 ∈ TB := TB_in (List.mem_of_getElem? (i := 702) (by decide +kernel)) rfl
theorem kf_X7_56 : LkF RX7 56 7 20 := ⟨_, _, _, rfl, by decide, Or.inl (TB_in (List.mem_of_getElem? (i := 703) (by decide +kernel)) rfl)⟩
theorem kF_X7_56 : Cond.fieldLink RX7 56 (TX7 20).1 (TX7 20).2.1 (TX7 20).2.2.1 ∈ TB := TB_in (List.mem_of_getElem? (i := 703) (by decide +kernel)) rfl
theorem kf_X7_59 : LkF RX7 59 7 21 := ⟨_, _, _, rfl, by decide, Or.inl (TB_in (List.mem_of_getElem? (i := 704) (by decide +kernel)) rfl)⟩
theorem kF_X7_59 : Cond.fieldLink RX7 59 (TX7 21).1 (TX7 21).2.1 (TX7 21).2.2.1 ∈ TB := TB_in (List.mem_of_getElem? (i := 704) (by decide +kernel)) rfl
theorem kf_X7_62 : LkF RX7 62 7 22 := ⟨_, _, _, rfl, by decide, Or.inl (TB_in (List.mem_of_getElem? (i := 705) (by decide +kernel)) rfl)⟩
theorem kF_X7_62 : Cond.fieldLink RX7 62 (TX7 22).1 (TX7 22).2.1 (TX7 22).2.2.1 ∈ TB := TB_in (List.mem_of_getElem? (i := 705) (by decide +kernel)) rfl
theorem kf_X7_65 : LkF RX7 65 7 23 := ⟨_, _, _, rfl, by decide, Or.inl (TB_in (List.mem_of_getElem? (i := 706) (by decide +kernel)) rfl)⟩
theorem kF_X7_65 : Cond.fieldLink RX7 65 (TX7 23).1 (TX7 23).2.1 (TX7 23).2.2.1 ∈ TB := TB_in (List.mem_of_getElem? (i := 706) (by decide +kernel)) rfl
theorem kf_X7_68 : LkF RX7 68 7 24 := ⟨_, _, _, rfl, by decide, Or.inl (TB_in (List.mem_of_getElem? (i := 707) (by decide +kernel)) rfl)⟩
theorem kF_X7_68 : Cond.fieldLink RX7 68 (TX7 24).1 (TX7 24).2.1 (TX7 24).2.2.1 ∈ TB := TB_in (List.mem_of_getElem? (i := 707) (by decide +kernel)) rfl
theorem kf_X7_173 : LkF RX7 173 7 25 := ⟨_, _, _, rfl, by decide, Or.inl (TB_in (List.mem_of_getElem? (i := 708) (by decide +kernel)) rfl)⟩
theorem kf_X2_20 : LkF RX2 20 3 1 := ⟨_, _, _, rfl, by decide, Or.inr ⟨"HeardBackward", NB_in (List.mem_of_getElem? (i := 90) (by decide +kernel)) rfl⟩⟩
theorem kf_X6_83 : LkF RX6 83 3 1 := ⟨_, _, _, rfl, by decide, Or.inr ⟨"HeardBackward", NB_in (List.mem_of_getElem? (i := 91) (by decide +kernel)) rfl⟩⟩
theorem kf_X6_102 : LkF RX6 102 0 0 := ⟨_, _, _, rfl, by decide, Or.inr ⟨"HeardBackward", NB_in (List.mem_of_getElem? (i := 118) (by decide +kernel)) rfl⟩⟩
theorem kf_X6_110 : LkF RX6 110 0 1 := ⟨_, _, _, rfl, by decide, Or.inr ⟨"HeardBackward", NB_in (List.mem_of_getElem? (i := 120) (by decide +kernel)) rfl⟩⟩
theorem kf_X6_113 : LkF RX6 113 0 2 := ⟨_, _, _, rfl, by decide, Or.inr ⟨"HeardBackward", NB_in (List.mem_of_getElem? (i := 122) (by decide +kernel)) rfl⟩⟩
theorem kf_X6_123 : LkF RX6 123 0 3 := ⟨_, _, _, rfl, by decide, Or.inr ⟨"HeardBackward", NB_in (List.mem_of_getElem? (i := 124) (by decide +kernel)) rfl⟩⟩
theorem kf_X6_96 : LkF RX6 96 0 5 := ⟨_, _, _, rfl, by decide, Or.inr ⟨"HeardBackward", NB_in (List.mem_of_getElem? (i := 127) (by decide +kernel)) rfl⟩⟩
theorem kf_X6_87 : LkF RX6 87 0 6 := ⟨_, _, _, rfl, by decide, Or.inr ⟨"HeardBackward", NB_in (List.mem_of_getElem? (i := 129) (by decide +kernel)) rfl⟩⟩
theorem kf_X1_40 : LkF RX1 40 0 6 := ⟨_, _, _, rfl, by decide, Or.inr ⟨"HeardBackward", NB_in (List.mem_of_getElem? (i := 130) (by decide +kernel)) rfl⟩⟩
theorem kf_X6_237 : LkF RX6 237 0 7 := ⟨_, _, _, rfl, by decide, Or.inr ⟨"HeardBackward", NB_in (List.mem_of_getElem? (i := 132) (by decide +kernel)) rfl⟩⟩
theorem kf_X6_156 : LkF RX6 156 1 0 := ⟨_, _, _, rfl, by decide, Or.inr ⟨"HeardBackward", NB_in (List.mem_of_getElem? (i := 157) (by decide +kernel)) rfl⟩⟩
theorem kf_X6_142 : LkF RX6 142 1 1 := ⟨_, _, _, rfl, by decide, Or.inr ⟨"HeardBackward", NB_in (List.mem_of_getElem? (i := 159) (by decide +kernel)) rfl⟩⟩
theorem kf_X6_126 : LkF RX6 126 1 2 := ⟨_, _, _, rfl, by decide, Or.inr ⟨"HeardBackward", NB_in (List.mem_of_getElem? (i := 161) (by decide +kernel)) rfl⟩⟩
theorem kf_X6_155 : LkF RX6 155 4 2 := ⟨_, _, _, rfl, by decide, Or.inr ⟨"HeardBackward", NB_in (List.mem_of_getElem? (i := 184) (by decide +kernel)) rfl⟩⟩
theorem kf_X6_182 : LkF RX6 182 5 1 := ⟨_, _, _, rfl, by decide, Or.inr ⟨"HeardBackward", NB_in (List.mem_of_getElem? (i := 200) (by decide +kernel)) rfl⟩⟩
theorem kf_X6_197 : LkF RX6 197 5 2 := ⟨_, _, _, rfl, by decide, Or.inr ⟨"HeardBackward", NB_in (List.mem_of_getElem? (i := 202) (by decide +kernel)) rfl⟩⟩
theorem kf_X6_173 : LkF RX6 173 5 3 := ⟨_, _, _, rfl, by decide, Or.inr ⟨"HeardBackward", NB_in (List.mem_of_getElem? (i := 204) (by decide +kernel)) rfl⟩⟩
theorem kf_X6_176 : LkF RX6 176 5 4 := ⟨_, _, _, rfl, by decide, Or.inr ⟨"HeardBackward", NB_in (List.mem_of_getElem? (i := 206) (by decide +kernel)) rfl⟩⟩
theorem kf_X6_179 : LkF RX6 179 5 5 := ⟨_, _, _, rfl, by decide, Or.inr ⟨"HeardBackward", NB_in (List.mem_of_getElem? (i := 208) (by decide +kernel)) rfl⟩⟩
theorem kf_X6_203 : LkF RX6 203 5 6 := ⟨_, _, _, rfl, by decide, Or.inr ⟨"HeardBackward", NB_in (List.mem_of_getElem? (i := 210) (by decide +kernel)) rfl⟩⟩
theorem kf_X6_185 : LkF RX6 185 5 7 := ⟨_, _, _, rfl, by decide, Or.inr ⟨"HeardBackward", NB_in (List.mem_of_getElem? (i := 212) (by decide +kernel)) rfl⟩⟩
theorem kf_X6_188 : LkF RX6 188 5 8 := ⟨_, _, _, rfl, by decide, Or.inr ⟨"HeardBackward", NB_in (List.mem_of_getElem? (i := 214) (by decide +kernel)) rfl⟩⟩
theorem kf_X6_191 : LkF RX6 191 5 9 := ⟨_, _, _, rfl, by decide, Or.inr ⟨"HeardBackward", NB_in (List.mem_of_getElem? (i := 216) (by decide +kernel)) rfl⟩⟩
theorem kC_L_7 : Cond.classLink RL 7 RX6 ∈ TB := TB_in (List.mem_of_getElem? (i := 74) (by decide +kernel)) rfl
theorem kC_X6_7 : Cond.classLink RX6 7 RX3 ∈ TB := TB_in (List.mem_of_getElem? (i := 82) (by decide +kernel)) rfl
theorem kC_X6_16 : Cond.classLink RX6 16 RX2 ∈ TB := TB_in (List.mem_of_getElem? (i := 98) (by decide +kernel)) rfl
theorem kC_X6_23 : Cond.classLink RX6 23 RX0 ∈ TB := TB_in (List.mem_of_getElem? (i := 111) (by decide +kernel)) rfl
theorem kC_X6_33 : Cond.classLink RX6 33 RX1 ∈ TB := TB_in (List.mem_of_getElem? (i := 150) (by decide +kernel)) rfl
theorem kC_X6_40 : Cond.classLink RX6 40 RX4 ∈ TB := TB_in (List.mem_of_getElem? (i := 169) (by decide +kernel)) rfl
theorem kC_X4_13 : Cond.classLink RX4 13 RX1 ∈ TB := TB_in (List.mem_of_getElem? (i := 178) (by decide +kernel)) rfl
theorem kC_X6_52 : Cond.classLink RX6 52 RX5 ∈ TB := TB_in (List.mem_of_getElem? (i := 192) (by decide +kernel)) rfl
theorem kC_L_10 : Cond.classLink RL 10 RX7 ∈ TB := TB_in (List.mem_of_getElem? (i := 665) (by decide +kernel)) rfl
theorem kT_X6 : Cond.instantiable RX6 9 ∈ TB := TB_in (List.mem_of_getElem? (i := 75) (by decide +kernel)) rfl
theorem kT_X3 : Cond.instantiable RX3 2 ∈ TB := TB_in (List.mem_of_getElem? (i := 83) (by decide +kernel)) rfl
theorem kT_X2 : Cond.instantiable RX2 2 ∈ TB := TB_in (List.mem_of_getElem? (i := 99) (by decide +kernel)) rfl
theorem kT_X0 : Cond.instantiable RX0 8 ∈ TB := TB_in (List.mem_of_getElem? (i := 112) (by decide +kernel)) rfl
theorem kT_X1 : Cond.instantiable RX1 3 ∈ TB := TB_in (List.mem_of_getElem? (i := 151) (by decide +kernel)) rfl
theorem kT_X4 : Cond.instantiable RX4 3 ∈ TB := TB_in (List.mem_of_getElem? (i := 170) (by decide +kernel)) rfl
theorem kT_X5 : Cond.instantiable RX5 10 ∈ TB := TB_in (List.mem_of_getElem? (i := 193) (by decide +kernel)) rfl
theorem kT_X7 : Cond.instantiable RX7 26 ∈ TB := TB_in (List.mem_of_getElem? (i := 666) (by decide +kernel)) rfl
theorem kK_J6_265 : Cond.constant RJ6 265 (1431655765) ∈ TB := TB_in (List.mem_of_getElem? (i := 622) (by decide +kernel)) rfl
theorem kK_J6_266 : Cond.constant RJ6 266 (858993459) ∈ TB := TB_in (List.mem_of_getElem? (i := 623) (by decide +kernel)) rfl
theorem kK_J6_267 : Cond.constant RJ6 267 (252645135) ∈ TB := TB_in (List.mem_of_getElem? (i := 624) (by decide +kernel)) rfl
theorem kK_X7_144 : Cond.constant RX7 144 (100000) ∈ TB := TB_in (List.mem_of_getElem? (i := 875) (by decide +kernel)) rfl
theorem kK_X6_244 : Cond.constantLong RX6 244 (7919) ∈ TB := TB_in (List.mem_of_getElem? (i := 646) (by decide +kernel)) rfl
theorem kK_X6_246 : Cond.constantLong RX6 246 (6151) ∈ TB := TB_in (List.mem_of_getElem? (i := 647) (by decide +kernel)) rfl
theorem kK_X6_248 : Cond.constantLong RX6 248 (65521) ∈ TB := TB_in (List.mem_of_getElem? (i := 648) (by decide +kernel)) rfl
theorem kK_X6_250 : Cond.constantLong RX6 250 (4) ∈ TB := TB_in (List.mem_of_getElem? (i := 649) (by decide +kernel)) rfl
theorem kK_X7_185 : Cond.constantLong RX7 185 (7919) ∈ TB := TB_in (List.mem_of_getElem? (i := 958) (by decide +kernel)) rfl
theorem kK_X7_187 : Cond.constantLong RX7 187 (6151) ∈ TB := TB_in (List.mem_of_getElem? (i := 959) (by decide +kernel)) rfl
theorem kK_X7_189 : Cond.constantLong RX7 189 (65521) ∈ TB := TB_in (List.mem_of_getElem? (i := 960) (by decide +kernel)) rfl
theorem kY_I : Cond.arrayClass .int ∈ TB := TB_in (List.mem_of_getElem? (i := 97) (by decide +kernel)) rfl
theorem kY_B : Cond.arrayClass .byte ∈ TB := TB_in (List.mem_of_getElem? (i := 396) (by decide +kernel)) rfl
theorem kM_obj : Cond.instanceMethod objectInit ∈ TB := TB_in (List.mem_of_getElem? (i := 80) (by decide +kernel)) rfl
theorem kc_obj : Cond.code objectInit ⟨#[0xb1]⟩ 1 none ∈ TB := TB_in (List.mem_of_getElem? (i := 81) (by decide +kernel)) rfl
theorem kn_copy : Cond.native arraycopyName ∈ TB := TB_in (List.mem_of_getElem? (i := 421) (by decide +kernel)) rfl
theorem ks_copy : Cond.static arraycopyName ∈ TB := TB_in (List.mem_of_getElem? (i := 420) (by decide +kernel)) rfl
theorem kXs_max : Cond.static Lib.Math.max.name ∈ TB := TB_in (List.mem_of_getElem? (i := 176) (by decide +kernel)) rfl
theorem kXc_max : Cond.code Lib.Math.max.name Lib.Math.max.code 2 (some .int) ∈ TB := TB_in (List.mem_of_getElem? (i := 177) (by decide +kernel)) rfl
theorem kXs_min : Cond.static Lib.Math.min.name ∈ TB := TB_in (List.mem_of_getElem? (i := 478) (by decide +kernel)) rfl
theorem kXc_min : Cond.code Lib.Math.min.name Lib.Math.min.code 2 (some .int) ∈ TB := TB_in (List.mem_of_getElem? (i := 479) (by decide +kernel)) rfl
theorem ki_copy : Cond.initialized "java/lang/System" ∈ TB := TB_in (List.mem_of_getElem? (i := 72) (by decide +kernel)) rfl
end
section
/-! whole numbers as ints: nI; sets of statements as numbers, by their bits -/
theorem n_and (a b : Nat) : nI a &&& nI b = nI (a &&& b) := by
  apply Int32.toBitVec_inj.1
  show BitVec.ofNat 32 a &&& BitVec.ofNat 32 b = BitVec.ofNat 32 (a &&& b)
  apply BitVec.eq_of_getLsbD_eq
  intro i hi
  simp [hi]
theorem n_or (a b : Nat) : nI a ||| nI b = nI (a ||| b) := by
  apply Int32.toBitVec_inj.1
  show BitVec.ofNat 32 a ||| BitVec.ofNat 32 b = BitVec.ofNat 32 (a ||| b)
  apply BitVec.eq_of_getLsbD_eq
  intro i hi
  simp [hi]
theorem n_xor (a b : Nat) : nI a ^^^ nI b = nI (a ^^^ b) := by
  apply Int32.toBitVec_inj.1
  show BitVec.ofNat 32 a ^^^ BitVec.ofNat 32 b = BitVec.ofNat 32 (a ^^^ b)
  apply BitVec.eq_of_getLsbD_eq
  intro i hi
  simp [hi]
theorem n_m1 : (-1 : Int32) = nI 4294967295 := by decide +kernel
theorem n_sh : ∀ n, n < 32 → ((nI n &&& 31).toBitVec.smod 32).toNat = n := by decide +kernel
theorem n_shl {x k : Nat} (hk : k < 32) (h : x * 2 ^ k < 4294967296) : nI x <<< (nI k &&& 31) = nI (x * 2 ^ k) := pk_shlN _ k (n_sh k hk) h
theorem n_shr {x k : Nat} (hk : k < 32) (h : x < 2147483648) : nI x >>> (nI k &&& 31) = nI (x / 2 ^ k) := pk_shrN h _ k (n_sh k hk)
theorem n_cl {n : Nat} (h : n < 2147483648) : (nI n).toNatClampNeg = n := nI_clamp h
theorem n_in {i N : Nat} (h : i < N) (hN : N < 2147483648) : vp_in (nI i) N := vp_in_nI h hN
theorem n_out {i N : Nat} (h : N ≤ i) (hi : i < 2147483648) : ¬ vp_in (nI i) N := fun q => q (Or.inr (by rw [n_cl hi]; exact h))
theorem n_eq {a b : Nat} (ha : a < 2147483648) (hb : b < 2147483648) : nI a = nI b ↔ a = b := nI_eq ha hb
theorem n_lt {a b : Nat} (ha : a < 2147483648) (hb : b < 2147483648) : nI a < nI b ↔ a < b := nI_ltI ha hb
theorem n_le {a b : Nat} (ha : a < 2147483648) (hb : b < 2147483648) : nI a ≤ nI b ↔ a ≤ b := nI_leI ha hb
theorem n_eq0 {a : Nat} (ha : a < 2147483648) : nI a = 0 ↔ a = 0 := nI_eq (b := 0) ha (by decide)
theorem n_0le {a : Nat} (ha : a < 2147483648) : (0 ≤ nI a) ↔ True := iff_true_intro (nI_pos' ha)
theorem n_lt0 {a : Nat} (ha : a < 2147483648) : (nI a < 0) ↔ False := iff_false_intro (nI_pos ha)
theorem n_0lt {a : Nat} (ha : a < 2147483648) : (0 < nI a) ↔ 0 < a := nI_ltI (a := 0) (by decide) ha
theorem n_le0 {a : Nat} (ha : a < 2147483648) : (nI a ≤ 0) ↔ a = 0 := (nI_leI (b := 0) ha (by decide)).trans (by omega)
/-- x without y -/
def nd (x y : Nat) : Nat := x &&& (y ^^^ 4294967295)
theorem nd_bit {x y a : Nat} (hx : x < 4294967296) : (nd x y).testBit a = (x.testBit a && !y.testBit a) := by
  unfold nd
  rw [Nat.testBit_and, Nat.testBit_xor]
  have h : (4294967295 : Nat).testBit a = decide (a < 32) := Nat.testBit_two_pow_sub_one 32 a
  rw [h]
  by_cases ha : a < 32
  · simp [ha]
  · have hxa : x.testBit a = false := Nat.testBit_lt_two_pow (Nat.lt_of_lt_of_le hx (by
      have : 2 ^ 32 ≤ 2 ^ a := Nat.pow_le_pow_right (by decide) (by omega)
      omega))
    simp [hxa]
theorem nd_le {x y : Nat} : nd x y ≤ x := Nat.and_le_left
theorem nd_lt {x y N : Nat} (h : x < N) : nd x y < N := Nat.lt_of_le_of_lt nd_le h
theorem n_bit (m a : Nat) : m / 2 ^ a % 2 = if m.testBit a then 1 else 0 := by
  rw [Nat.testBit_eq_decide_div_mod_eq]
  have := Nat.mod_two_eq_zero_or_one (m / 2 ^ a)
  rcases this with h | h <;> simp [h]
theorem n_and1 (x : Nat) : x &&& 1 = x % 2 := Nat.and_two_pow_sub_one_eq_mod x 1
theorem bit_lt {m n a : Nat} (h : m < 2 ^ n) (ha : n ≤ a) : m.testBit a = false := Nat.testBit_lt_two_pow (Nat.lt_of_lt_of_le h (Nat.pow_le_pow_right (by decide) ha))
theorem bit_in {m n a : Nat} (h : m < 2 ^ n) (ha : m.testBit a = true) : a < n := by
  rcases Nat.lt_or_ge a n with q | q
  · exact q
  · rw [bit_lt h q] at ha; cases ha
theorem pow_lt {a n : Nat} (h : a < n) : 2 ^ a < 2 ^ n := Nat.pow_lt_pow_right (by decide) h
theorem pow_10 {a : Nat} (h : a < 10) : 2 ^ a < 1024 := pow_lt (n := 10) h
theorem pow_le_10 {n : Nat} (h : n ≤ 10) : 2 ^ n ≤ 1024 := Nat.pow_le_pow_right (by decide : 0 < 2) h
theorem or_lt {x y n : Nat} (hx : x < 2 ^ n) (hy : y < 2 ^ n) : x ||| y < 2 ^ n := Nat.or_lt_two_pow hx hy
theorem or_1024 {x y : Nat} (hx : x < 1024) (hy : y < 1024) : x ||| y < 1024 := Nat.or_lt_two_pow (n := 10) hx hy
theorem xor_1024 {x y : Nat} (hx : x < 1024) (hy : y < 1024) : x ^^^ y < 1024 := Nat.xor_lt_two_pow (n := 10) hx hy
theorem b_pow (a b : Nat) : (2 ^ a).testBit b = decide (a = b) := Nat.testBit_two_pow
theorem b_orp (m a b : Nat) : (m ||| 2 ^ a).testBit b = (m.testBit b || decide (a = b)) := by rw [Nat.testBit_or, b_pow]
theorem b_ext {x y : Nat} (h : ∀ a, x.testBit a = y.testBit a) : x = y := Nat.eq_of_testBit_eq h
theorem b_ext10 {x y : Nat} (hx : x < 1024) (hy : y < 1024) (h : ∀ a, a < 10 → x.testBit a = y.testBit a) : x = y := by
  refine b_ext fun a => ?_
  by_cases ha : a < 10
  · exact h a ha
  · rw [bit_lt (n := 10) hx (by omega), bit_lt (n := 10) hy (by omega)]
/-- a truth as a number -/
def bN (b : Bool) : Nat := if b then 1 else 0
theorem bN_lt (b : Bool) : bN b < 2 := by cases b <;> decide
theorem n_b0 {b : Bool} : nI (bN b) = 0 ↔ b = false := by cases b <;> decide +kernel
theorem n_b00 {b : Bool} : nI (bN b) = nI 0 ↔ b = false := by cases b <;> decide +kernel
theorem n_b1 {b : Bool} : nI (bN b) = nI 1 ↔ b = true := by cases b <;> decide +kernel
theorem n_bit' (m a : Nat) : m / 2 ^ a % 2 = bN (m.testBit a) := n_bit m a
/-- how many of the first n bits are set -/
def cnt (m : Nat) : Nat → Nat
  | 0 => 0
  | n + 1 => cnt m n + (if m.testBit n then 1 else 0)
theorem cnt_le (m : Nat) : ∀ n, cnt m n ≤ n
  | 0 => Nat.le_refl 0
  | n + 1 => by
    have := cnt_le m n
    simp only [cnt]
    split <;> omega
/-! numbers in the rules -/
section NRULES
variable {M : ax_M} {d q1 q2 pc : Nat} {ls : List (Option Value)} {st : List Value} {w : ax_W} {n : Nat} {P : Option Value → ax_W → Nat → Prop}
theorem Run.top {v v' : Value} (h : v = v') (kk : Run M d q1 q2 pc ls (v' :: st) w n P) : Run M d q1 q2 pc ls (v :: st) w n P := by rw [h]; exact kk
theorem xn_iadd {x y : Nat} (hd : decode M.2.1 pc = .ok (.iadd, 1)) (kk : Run M d q1 q2 (pc + 1) ls (.int (nI (x + y)) :: st) w n P) : Run M d q1 q2 pc ls (.int (nI y) :: .int (nI x) :: st) w n P := x_iadd hd (Run.top (by rw [nI_add]) kk)
theorem xn_isub {x y : Nat} (hd : decode M.2.1 pc = .ok (.isub, 1)) (h : y ≤ x) (kk : Run M d q1 q2 (pc + 1) ls (.int (nI (x - y)) :: st) w n P) : Run M d q1 q2 pc ls (.int (nI y) :: .int (nI x) :: st) w n P := x_isub hd (Run.top (by rw [pk_sub h]) kk)
theorem xn_imul {x y : Nat} (hd : decode M.2.1 pc = .ok (.imul, 1)) (kk : Run M d q1 q2 (pc + 1) ls (.int (nI (x * y)) :: st) w n P) : Run M d q1 q2 pc ls (.int (nI y) :: .int (nI x) :: st) w n P := x_imul hd (Run.top (by rw [pk_mul]) kk)
theorem xn_iand {x y : Nat} (hd : decode M.2.1 pc = .ok (.iand, 1)) (kk : Run M d q1 q2 (pc + 1) ls (.int (nI (x &&& y)) :: st) w n P) : Run M d q1 q2 pc ls (.int (nI y) :: .int (nI x) :: st) w n P := x_iand hd (Run.top (by rw [n_and]) kk)
theorem xn_ior {x y : Nat} (hd : decode M.2.1 pc = .ok (.ior, 1)) (kk : Run M d q1 q2 (pc + 1) ls (.int (nI (x ||| y)) :: st) w n P) : Run M d q1 q2 pc ls (.int (nI y) :: .int (nI x) :: st) w n P := x_ior hd (Run.top (by rw [n_or]) kk)
theorem xn_ixor {x y : Nat} (hd : decode M.2.1 pc = .ok (.ixor, 1)) (kk : Run M d q1 q2 (pc + 1) ls (.int (nI (x ^^^ y)) :: st) w n P) : Run M d q1 q2 pc ls (.int (nI y) :: .int (nI x) :: st) w n P := x_ixor hd (Run.top (by rw [n_xor]) kk)
theorem xn_ishl {x y : Nat} (hd : decode M.2.1 pc = .ok (.ishl, 1)) (h1 : y < 32) (h2 : x * 2 ^ y < 4294967296) (kk : Run M d q1 q2 (pc + 1) ls (.int (nI (x * 2 ^ y)) :: st) w n P) : Run M d q1 q2 pc ls (.int (nI y) :: .int (nI x) :: st) w n P := x_ishl hd (Run.top (by rw [n_shl h1 h2]) kk)
/-- 1 << y -/
theorem xn_shl1 {y : Nat} (hd : decode M.2.1 pc = .ok (.ishl, 1)) (h1 : y < 31) (kk : Run M d q1 q2 (pc + 1) ls (.int (nI (2 ^ y)) :: st) w n P) : Run M d q1 q2 pc ls (.int (nI y) :: .int (nI 1) :: st) w n P := x_ishl hd (Run.top (by rw [n_shl (by omega) (by have := pow_lt h1; omega), Nat.one_mul]) kk)
theorem xn_ishr {x y : Nat} (hd : decode M.2.1 pc = .ok (.ishr, 1)) (h1 : y < 32) (h2 : x < 2147483648) (kk : Run M d q1 q2 (pc + 1) ls (.int (nI (x / 2 ^ y)) :: st) w n P) : Run M d q1 q2 pc ls (.int (nI y) :: .int (nI x) :: st) w n P := x_ishr hd (Run.top (by rw [n_shr h1 h2]) kk)
/-- the bit that m >> a & 1 leaves -/
theorem xn_bit {m a : Nat} (hd : decode M.2.1 pc = .ok (.iand, 1)) (kk : Run M d q1 q2 (pc + 1) ls (.int (nI (bN (m.testBit a))) :: st) w n P) : Run M d q1 q2 pc ls (.int (nI 1) :: .int (nI (m / 2 ^ a)) :: st) w n P := x_iand hd (Run.top (by rw [n_and, n_and1, n_bit']) kk)
theorem xn_nd {x y : Nat} (hd : decode M.2.1 pc = .ok (.iand, 1)) (kk : Run M d q1 q2 (pc + 1) ls (.int (nI (nd x y)) :: st) w n P) : Run M d q1 q2 pc ls (.int (nI (y ^^^ 4294967295)) :: .int (nI x) :: st) w n P := xn_iand hd kk
theorem xn_idiv {x y : Nat} (hd : decode M.2.1 pc = .ok (.idiv, 1)) (hx : x < 2147483648) (h0 : 0 < y) (hy : y < 2147483648) (kk : Run M d q1 q2 (pc + 1) ls (.int (nI (x / y)) :: st) w n P) : Run M d q1 q2 pc ls (.int (nI y) :: .int (nI x) :: st) w n P := x_idiv hd (by rw [n_eq0 hy]; omega) (Run.top (by rw [pk_div hx h0 hy]) kk)
theorem xn_irem {x y : Nat} (hd : decode M.2.1 pc = .ok (.irem, 1)) (hx : x < 2147483648) (h0 : 0 < y) (hy : y < 2147483648) (kk : Run M d q1 q2 (pc + 1) ls (.int (nI (x % y)) :: st) w n P) : Run M d q1 q2 pc ls (.int (nI y) :: .int (nI x) :: st) w n P := x_irem hd (by rw [n_eq0 hy]; omega) (Run.top (by rw [pk_rem hx h0 hy]) kk)
theorem xn_iinc {i x : Nat} (hd : decode M.2.1 pc = .ok (.iinc i 1, 3)) (hl : ls[i]? = some (some (.int (nI x)))) (hi : Nat.blt i ls.length = true) (kk : Run M d q1 q2 (pc + 3) (l_set ls i (.int (nI (x + 1)))) st w n P) : Run M d q1 q2 pc ls st w n P := x_iinc hd hl hi (by rw [show nI x + Int32.ofInt 1 = nI (x + 1) from nI_1 x]; exact kk)
theorem xn_idec {i x : Nat} (hd : decode M.2.1 pc = .ok (.iinc i (-1), 3)) (hl : ls[i]? = some (some (.int (nI (x + 1))))) (hi : Nat.blt i ls.length = true) (kk : Run M d q1 q2 (pc + 3) (l_set ls i (.int (nI x))) st w n P) : Run M d q1 q2 pc ls st w n P := x_iinc hd hl hi (by rw [show nI (x + 1) + Int32.ofInt (-1) = nI x from pk_m1 x]; exact kk)
theorem xn_iald {a N i : Nat} {f : Nat → Int32} (hd : decode M.2.1 pc = .ok (.iaload, 1)) (hw : w a = ai N f) (hi : i < N) (hN : Nat.blt N 2147483648 = true) (kk : Run M d q1 q2 (pc + 1) ls (.int (f i) :: st) w n P) : Run M d q1 q2 pc ls (.int (nI i) :: .ref a :: st) w n P := by
  have h2 : N < 2147483648 := by simpa using hN
  exact x_iald hd hw (n_in hi h2) (by rw [n_cl (by omega)]; exact kk)
theorem xn_bald {a N i : Nat} {f : Nat → Int32} (hd : decode M.2.1 pc = .ok (.baload, 1)) (hw : w a = ab N f) (hi : i < N) (hN : Nat.blt N 2147483648 = true) (kk : Run M d q1 q2 (pc + 1) ls (.int (f i) :: st) w n P) : Run M d q1 q2 pc ls (.int (nI i) :: .ref a :: st) w n P := by
  have h2 : N < 2147483648 := by simpa using hN
  exact x_bald hd hw (n_in hi h2) (by rw [n_cl (by omega)]; exact kk)
theorem xn_aald {a N i k : Nat} {f : Nat → Option Nat} (hd : decode M.2.1 pc = .ok (.aaload, 1)) (hw : w a = aq N f) (hi : i < N) (hN : Nat.blt N 2147483648 = true) (hk : f i = some k) (kk : Run M d q1 q2 (pc + 1) ls (.ref k :: st) w n P) : Run M d q1 q2 pc ls (.int (nI i) :: .ref a :: st) w n P := by
  have h2 : N < 2147483648 := by simpa using hN
  exact x_aald hd hw (n_in hi h2) (by rw [n_cl (by omega)]; exact hk) kk
/-! changes: the world behind them by what it holds -/
theorem xw_iast {a N i : Nat} {f : Nat → Int32} {x : Int32} (hd : decode M.2.1 pc = .ok (.iastore, 1)) (hw : w a = ai N f) (hi : i < N) (hN : Nat.blt N 2147483648 = true) (kk : ∀ w' : ax_W, w' a = ai N (upd f i x) → (∀ j, j ≠ a → w' j = w j) → Run M d q1 q2 (pc + 1) ls st w' n P) : Run M d q1 q2 pc ls (.int x :: .int (nI i) :: .ref a :: st) w n P := by
  have h2 : N < 2147483648 := by simpa using hN
  refine x_iast hd hw (n_in hi h2) ?_
  rw [n_cl (by omega)]
  exact kk _ (up_same _ _ _) fun j hj => up_ne _ _ hj
theorem xw_bast {a N i x : Nat} {f : Nat → Int32} (hd : decode M.2.1 pc = .ok (.bastore, 1)) (hw : w a = ab N f) (hi : i < N) (hN : Nat.blt N 2147483648 = true) (hx : x < 128) (kk : ∀ w' : ax_W, w' a = ab N (upd f i (nI x)) → (∀ j, j ≠ a → w' j = w j) → Run M d q1 q2 (pc + 1) ls st w' n P) : Run M d q1 q2 pc ls (.int (nI x) :: .int (nI i) :: .ref a :: st) w n P := by
  have h2 : N < 2147483648 := by simpa using hN
  have hn : ∀ x, x < 128 → vp_nar .byte (nI x) = nI x := by decide +kernel
  refine x_bast hd hw (n_in hi h2) ?_
  rw [n_cl (by omega), hn x hx]
  exact kk _ (up_same _ _ _) fun j hj => up_ne _ _ hj
theorem xw_puti {idx ci k a : Nat} {fs : List Value} {x : Int32} {C : String} {T : u_T} {N : Nat} (hd : decode M.2.1 pc = .ok (.putfield idx, 3)) (hl : LkF M.1.cls idx ci k) (hw : w a = ao ci fs) (hk : Nat.blt k fs.length = true) (hcl : vwCl[ci]? = some (C, T, N)) (hfin : (T k).2.2.2 = false) (hty : (T k).2.2.1 = "I") (kk : ∀ w' : ax_W, w' a = ao ci (fs.set k (.int x)) → (∀ j, j ≠ a → w' j = w j) → Run M d q1 q2 (pc + 3) ls st w' n P) : Run M d q1 q2 pc ls (.int x :: .ref a :: st) w n P :=
  x_putf hd hl hw hk hcl hfin (ty := .int) (by rw [hty]; decide +kernel) (fun _ => rfl) (fun _ => rfl) (kk _ (up_same _ _ _) fun j hj => up_ne _ _ hj)
theorem nar_z {x : Nat} (hx : x < 2) : narrow .boolean (.int (nI x)) = .int (nI x) ∧ fits .boolean (.int (nI x)) = true := by
  have : ∀ x, x < 2 → narrow .boolean (.int (nI x)) = .int (nI x) ∧ fits .boolean (.int (nI x)) = true := by decide +kernel
  exact this x hx
theorem xw_putz {idx ci k a x : Nat} {fs : List Value} {C : String} {T : u_T} {N : Nat} (hd : decode M.2.1 pc = .ok (.putfield idx, 3)) (hl : LkF M.1.cls idx ci k) (hw : w a = ao ci fs) (hk : Nat.blt k fs.length = true) (hcl : vwCl[ci]? = some (C, T, N)) (hfin : (T k).2.2.2 = false) (hty : (T k).2.2.1 = "Z") (hx : x < 2) (kk : ∀ w' : ax_W, w' a = ao ci (fs.set k (.int (nI x))) → (∀ j, j ≠ a → w' j = w j) → Run M d q1 q2 (pc + 3) ls st w' n P) : Run M d q1 q2 pc ls (.int (nI x) :: .ref a :: st) w n P :=
  x_putf hd hl hw hk hcl hfin (ty := .boolean) (by rw [hty]; decide +kernel) (fun _ => (nar_z hx).1) (fun _ => (nar_z hx).2) (kk _ (up_same _ _ _) fun j hj => up_ne _ _ hj)
theorem x_zret {x : Nat} (hd : decode M.2.1 pc = .ok (.ireturn, 1)) (hr : M.2.2.2 = some .boolean) (hx : x < 2) (hP : P (some (.int (nI x))) w n) : Run M d q1 q2 pc ls [.int (nI x)] w n P := x_iret hd hr (nar_z hx).1 hP
theorem pu_i {x y : Int32} (h : x = y) : Pu (.int y) w n (some (.int x)) w n := ⟨by rw [h], rfl, rfl⟩
theorem pu_n {x y : Nat} (h : x = y) : Pu (.int (nI y)) w n (some (.int (nI x))) w n := ⟨by rw [h], rfl, rfl⟩
theorem xw_copy {idx a0 a1 N0 N1 k : Nat} {f g : Nat → Int32} (hd : decode M.2.1 pc = .ok (.invokestatic idx, 3)) (h1 : Cond.methodLink M.1.cls idx arraycopyName ∈ TB) (hw0 : w a0 = ai N0 f) (hw1 : w a1 = ai N1 g) (hk0 : k ≤ N0) (hk1 : k ≤ N1) (hk : Nat.blt k 2147483648 = true) (hdd : 2 ≤ d) (hst : Nat.ble (st.map fun v => v.category).sum 8 = true)
    (kk : ∀ w' : ax_W, w' a1 = ai N1 (fun j => if j < k then f j else g j) → (∀ j, j ≠ a1 → w' j = w j) → Run M d q1 q2 (pc + 3) ls st w' n P) : Run M d q1 q2 pc ls (.int (nI k) :: .int (nI 0) :: .ref a1 :: .int (nI 0) :: .ref a0 :: st) w n P := by
  have h2 : k < 2147483648 := by simpa using hk
  refine x_copy hd h1 kn_copy ks_copy ki_copy hw0 hw1 (nI_pos (by omega)) (nI_pos (by omega)) (nI_pos h2) (by rw [n_cl h2, n_cl (by omega)]; omega) (by rw [n_cl h2, n_cl (by omega)]; omega) hdd hst ?_
  rw [n_cl h2, n_cl (by omega)]
  have e : va_cpy f g 0 0 k = fun j => if j < k then f j else g j := by
    funext j
    simp [va_cpy]
  rw [e]
  exact kk _ (up_same _ _ _) fun j hj => up_ne _ _ hj
/-- a method without an answer; one with an answer that changes the world -/
def Vo (F : ax_W → Prop) (n : Nat) : Option Value → ax_W → Nat → Prop := fun r w' n' => r = none ∧ n' = n ∧ F w'
def Va (F : Value → ax_W → Prop) (n : Nat) : Option Value → ax_W → Nat → Prop := fun r w' n' => ∃ v, r = some v ∧ n' = n ∧ F v w'
theorem vo_kk {F : ax_W → Prop} (kk : ∀ w', F w' → Run M d q1 q2 pc ls st w' n P) : ∀ r w' n', Vo F n r w' n' → Run M d q1 q2 pc ls (r.toList ++ st) w' n' P := by
  intro r w' n' hp
  obtain ⟨h1, h2, h3⟩ := hp
  subst h1 h2
  exact kk w' h3
theorem va_kk {F : Value → ax_W → Prop} (kk : ∀ v w', F v w' → Run M d q1 q2 pc ls (v :: st) w' n P) : ∀ r w' n', Va F n r w' n' → Run M d q1 q2 pc ls (r.toList ++ st) w' n' P := by
  intro r w' n' hp
  obtain ⟨v, h1, h2, h3⟩ := hp
  subst h1 h2
  exact kk v w' h3
theorem vo_i {F : ax_W → Prop} {w : ax_W} (h : F w) : Vo F n none w n := ⟨rfl, rfl, h⟩
theorem va_i {F : Value → ax_W → Prop} {v : Value} {w : ax_W} (h : F v w) : Va F n (some v) w n := ⟨v, rfl, rfl, h⟩
end NRULES
/-- one value of a row changed -/
def fup (f : Nat → Nat) (i v : Nat) : Nat → Nat := fun j => if j = i then v else f j
theorem fup_same (f : Nat → Nat) (i v : Nat) : fup f i v i = v := by simp [fup]
theorem fup_ne (f : Nat → Nat) {i j : Nat} (v : Nat) (h : j ≠ i) : fup f i v j = f j := by simp [fup, h]
theorem upd_same (f : Nat → Int32) (i : Nat) (v : Int32) : upd f i v i = v := by simp [upd]
theorem upd_ne (f : Nat → Int32) {i j : Nat} (v : Int32) (h : j ≠ i) : upd f i v j = f j := by simp [upd, h]
end
section
/-! the small methods of HeardBackward -/
theorem c_outside {w : ax_W} {n : Nat} (x y z : Int32) : Run m_X6_outside 0 0 0 0 (l_ent m_X6_outside [.int x, .int y, .int z]) [] w n (Pu (.int (nI (bN (decide (x < y ∨ z < x))))) w n) := by
  refine x_iload_n (pc := 0) dX6_outside_0 rfl ?_
  refine x_iload_n (pc := 1) dX6_outside_1 rfl ?_
  refine x_icmp_lt (pc := 2) dX6_outside_2 (tgt := 10) (by decide) (fun h_2 => ?_) (fun h_2 => ?_)
  · skip
    try first | rw [n_b1] at h_2 | rw [n_b00] at h_2 | rw [n_lt (by omega) (by omega)] at h_2
    have hh : decide (x < y ∨ z < x) = true := by simp [h_2]
    refine x_iconst (pc := 10) dX6_outside_10 (v := nI 1) (by decide) ?_
    refine x_goto (pc := 11) dX6_outside_11 (tgt := 15) (by decide) ?_
    refine x_zret (pc := 15) dX6_outside_15 rfl (by first | decide | exact bN_lt _ | omega) ?_
    exact pu_n (by rw [hh]; rfl)
  · skip
    try first | rw [n_b1] at h_2 | rw [n_b00] at h_2 | rw [n_lt (by omega) (by omega)] at h_2
    refine x_iload_n (pc := 5) dX6_outside_5 rfl ?_
    refine x_iload_n (pc := 6) dX6_outside_6 rfl ?_
    refine x_icmp_le (pc := 7) dX6_outside_7 (tgt := 14) (by decide) (fun h_7 => ?_) (fun h_7 => ?_)
    · skip
      try first | rw [n_b1] at h_7 | rw [n_b00] at h_7 | rw [n_le (by omega) (by omega)] at h_7
      have hh : decide (x < y ∨ z < x) = false := by have := Int32.not_lt.mpr h_7; simp [h_2, this]
      refine x_iconst (pc := 14) dX6_outside_14 (v := nI 0) (by decide) ?_
      refine x_zret (pc := 15) dX6_outside_15 rfl (by first | decide | exact bN_lt _ | omega) ?_
      exact pu_n (by rw [hh]; rfl)
    · skip
      try first | rw [n_b1] at h_7 | rw [n_b00] at h_7 | rw [n_le (by omega) (by omega)] at h_7
      have hh : decide (x < y ∨ z < x) = true := by have := Int32.not_le.mp h_7; simp [this]
      refine x_iconst (pc := 10) dX6_outside_10 (v := nI 1) (by decide) ?_
      refine x_goto (pc := 11) dX6_outside_11 (tgt := 15) (by decide) ?_
      refine x_zret (pc := 15) dX6_outside_15 rfl (by first | decide | exact bN_lt _ | omega) ?_
      exact pu_n (by rw [hh]; rfl)
theorem c_asNumber {w : ax_W} {n : Nat} (b : Bool) : Run m_X6_asNumber 0 0 0 0 (l_ent m_X6_asNumber [.int (nI (bN b))]) [] w n (Pu (.int (nI (bN b))) w n) := by
  refine x_iload_n (pc := 0) dX6_asNumber_0 rfl ?_
  refine x_if_eq (pc := 1) dX6_asNumber_1 (tgt := 8) (by decide) (fun h_1 => ?_) (fun h_1 => ?_)
  · skip
    try first | rw [n_b0] at h_1 | rw [n_eq0 (by omega)] at h_1
    refine x_iconst (pc := 8) dX6_asNumber_8 (v := nI 0) (by decide) ?_
    refine x_iret (pc := 9) dX6_asNumber_9 rfl rfl ?_
    exact pu_n (by simp [h_1, bN])
  · skip
    try first | rw [n_b0] at h_1 | rw [n_eq0 (by omega)] at h_1
    refine x_iconst (pc := 4) dX6_asNumber_4 (v := nI 1) (by decide) ?_
    refine x_goto (pc := 5) dX6_asNumber_5 (tgt := 9) (by decide) ?_
    refine x_iret (pc := 9) dX6_asNumber_9 rfl rfl ?_
    exact pu_n (by simp [h_1, bN])
theorem c_bit {w : ax_W} {n : Nat} {a : Nat} (ha : a < 10) : Run m_X6_bit 0 0 0 0 (l_ent m_X6_bit [.int (nI a)]) [] w n (Pu (.int (nI (2 ^ a))) w n) := by
  refine x_iload_n (pc := 0) dX6_bit_0 rfl ?_
  refine x_if_lt_f (pc := 1) dX6_bit_1 (tgt := 16) (by decide) (nI_pos (by omega)) ?_
  refine x_iload_n (pc := 4) dX6_bit_4 rfl ?_
  refine x_bipush (pc := 5) dX6_bit_5 (v := nI 10) (by decide) ?_
  refine x_icmp_ge_f (pc := 7) dX6_bit_7 (tgt := 16) (by decide) (nI_ge (by omega) (by omega)) ?_
  refine x_iconst (pc := 10) dX6_bit_10 (v := nI 1) (by decide) ?_
  refine x_iload_n (pc := 11) dX6_bit_11 rfl ?_
  first | refine xn_shl1 (pc := 12) dX6_bit_12 (by omega) ?_ | refine xn_ishl (pc := 12) dX6_bit_12 (by omega) (by omega) ?_ | refine x_ishl (pc := 12) dX6_bit_12 ?_
  refine x_goto (pc := 13) dX6_bit_13 (tgt := 17) (by decide) ?_
  refine x_iret (pc := 17) dX6_bit_17 rfl rfl ?_
  exact pu_n rfl
theorem c_has {w : ax_W} {n : Nat} {m a : Nat} (hm : m < 2147483648) (ha : a < 10) : Run m_X6_has 0 0 0 0 (l_ent m_X6_has [.int (nI m), .int (nI a)]) [] w n (Pu (.int (nI (bN (m.testBit a)))) w n) := by
  refine x_iload_n (pc := 0) dX6_has_0 rfl ?_
  refine x_if_lt_f (pc := 1) dX6_has_1 (tgt := 23) (by decide) (nI_pos (by omega)) ?_
  refine x_iload_n (pc := 4) dX6_has_4 rfl ?_
  refine x_bipush (pc := 5) dX6_has_5 (v := nI 10) (by decide) ?_
  refine x_icmp_ge_f (pc := 7) dX6_has_7 (tgt := 23) (by decide) (nI_ge (by omega) (by omega)) ?_
  refine x_iload_n (pc := 10) dX6_has_10 rfl ?_
  refine x_iload_n (pc := 11) dX6_has_11 rfl ?_
  first | refine xn_ishr (pc := 12) dX6_has_12 (by omega) (by omega) ?_ | refine x_ishr (pc := 12) dX6_has_12 ?_
  refine x_iconst (pc := 13) dX6_has_13 (v := nI 1) (by decide) ?_
  first | refine xn_bit (pc := 14) dX6_has_14 ?_ | refine xn_nd (pc := 14) dX6_has_14 ?_ | refine xn_iand (pc := 14) dX6_has_14 ?_ | refine x_iand (pc := 14) dX6_has_14 ?_
  refine x_iconst (pc := 15) dX6_has_15 (v := nI 1) (by decide) ?_
  refine x_icmp_ne (pc := 16) dX6_has_16 (tgt := 23) (by decide) (fun h_16 => ?_) (fun h_16 => ?_)
  · skip
    try first | rw [n_b1] at h_16 | rw [n_b00] at h_16 | rw [n_eq (by omega) (by omega)] at h_16
    have hh : m.testBit a = false := by simpa using h_16
    refine x_iconst (pc := 23) dX6_has_23 (v := nI 0) (by decide) ?_
    refine x_zret (pc := 24) dX6_has_24 rfl (by first | decide | exact bN_lt _ | omega) ?_
    exact pu_n (by rw [hh]; rfl)
  · replace h_16 := Classical.not_not.mp h_16
    try first | rw [n_b1] at h_16 | rw [n_b00] at h_16 | rw [n_eq (by omega) (by omega)] at h_16
    have hh : m.testBit a = true := by simpa using h_16
    refine x_iconst (pc := 19) dX6_has_19 (v := nI 1) (by decide) ?_
    refine x_goto (pc := 20) dX6_has_20 (tgt := 24) (by decide) ?_
    refine x_zret (pc := 24) dX6_has_24 rfl (by first | decide | exact bN_lt _ | omega) ?_
    exact pu_n (by rw [hh]; rfl)
theorem c_at {w : ax_W} {n : Nat} {k N i : Nat} {f : Nat → Int32} (hw : w k = ai N f) (hi : i < N) (hN : N < 100000) : Run m_X6_at 0 0 0 0 (l_ent m_X6_at [.ref k, .int (nI i)]) [] w n (Pu (.int (f i)) w n) := by
  refine x_iload_n (pc := 0) dX6_at_0 rfl ?_
  refine x_if_lt_f (pc := 1) dX6_at_1 (tgt := 16) (by decide) (nI_pos (by omega)) ?_
  refine x_iload_n (pc := 4) dX6_at_4 rfl ?_
  refine x_aload_n (pc := 5) dX6_at_5 rfl ?_
  first | refine x_alenI (pc := 6) dX6_at_6 (by assumption) ?_ | refine x_alenQ (pc := 6) dX6_at_6 (by assumption) ?_
  refine x_icmp_ge_f (pc := 7) dX6_at_7 (tgt := 16) (by decide) (nI_ge (by omega) (by omega)) ?_
  refine x_aload_n (pc := 10) dX6_at_10 rfl ?_
  refine x_iload_n (pc := 11) dX6_at_11 rfl ?_
  refine x_iald (pc := 12) dX6_at_12 hw (n_in hi (by omega)) ?_
  rw [n_cl (by omega)]
  refine x_goto (pc := 13) dX6_at_13 (tgt := 17) (by decide) ?_
  refine x_iret (pc := 17) dX6_at_17 rfl rfl ?_
  exact pu_i rfl
theorem c_put {w : ax_W} {n : Nat} {k N i : Nat} {f : Nat → Int32} {x : Int32} (hw : w k = ai N f) (hi : i < N) (hN : N < 100000) : Run m_X6_put 0 0 0 0 (l_ent m_X6_put [.ref k, .int (nI i), .int x]) [] w n (Vo (fun w' => w' k = ai N (upd f i x) ∧ ∀ j, j ≠ k → w' j = w j) n) := by
  refine x_iload_n (pc := 0) dX6_put_0 rfl ?_
  refine x_if_lt_f (pc := 1) dX6_put_1 (tgt := 14) (by decide) (nI_pos (by omega)) ?_
  refine x_iload_n (pc := 4) dX6_put_4 rfl ?_
  refine x_aload_n (pc := 5) dX6_put_5 rfl ?_
  first | refine x_alenI (pc := 6) dX6_put_6 (by assumption) ?_ | refine x_alenQ (pc := 6) dX6_put_6 (by assumption) ?_
  refine x_icmp_ge_f (pc := 7) dX6_put_7 (tgt := 14) (by decide) (nI_ge (by omega) (by omega)) ?_
  refine x_aload_n (pc := 10) dX6_put_10 rfl ?_
  refine x_iload_n (pc := 11) dX6_put_11 rfl ?_
  refine x_iload_n (pc := 12) dX6_put_12 rfl ?_
  refine x_iast (pc := 13) dX6_put_13 hw (n_in hi (by omega)) ?_
  rw [n_cl (by omega)]
  refine x_vret (pc := 14) dX6_put_14 rfl ?_
  exact vo_i ⟨up_same _ _ _, fun j hj => up_ne _ _ hj⟩
/-! how many bits are set -/
theorem bc_all : ∀ m, m < 1024 → (let x0 := nI m
  let x1 := x0 - ((x0.toUInt32 >>> ((nI 1).toUInt32 &&& Int32.toUInt32 31)).toInt32 &&& 1431655765)
  let x2 := (x1 &&& 858993459) + ((x1.toUInt32 >>> ((nI 2).toUInt32 &&& Int32.toUInt32 31)).toInt32 &&& 858993459)
  let x3 := (x2 + (x2.toUInt32 >>> ((nI 4).toUInt32 &&& Int32.toUInt32 31)).toInt32) &&& 252645135
  let x4 := x3 + (x3.toUInt32 >>> ((nI 8).toUInt32 &&& Int32.toUInt32 31)).toInt32
  let x5 := x4 + (x4.toUInt32 >>> ((nI 16).toUInt32 &&& Int32.toUInt32 31)).toInt32
  x5 &&& nI 63) = nI (cnt m 10) := by decide +kernel
section LDCW
variable {M : ax_M} {d q1 q2 pc : Nat} {ls : List (Option Value)} {st : List Value} {w : ax_W} {n : Nat} {P : Option Value → ax_W → Nat → Prop}
theorem x_ldcw {idx : Nat} {v : Int32} (hd : decode M.2.1 pc = .ok (.ldc_w idx, 3)) (h : Cond.constant M.1.cls idx v ∈ TB) (kk : Run M d q1 q2 (pc + 3) ls (.int v :: st) w n P) : Run M d q1 q2 pc ls st w n P := by
  intro B D cA p l e R s m args below meth c H locs ls' cells slots mc ms C hH hF hL h4 h5 h6 h7
  exact lv_ldcw C.1 C.2.1 C.2.2.2.2.2.1 (C.2.2.2.2.2.2.2.1 _ h) hd (kk B D cA p l e R s m args below meth c H locs ls' cells slots mc ms C hH hF hL h4 h5 h6 h7)
theorem xn_iinck {i x y : Nat} {k : Int} (hd : decode M.2.1 pc = .ok (.iinc i k, 3)) (hk : Int32.ofInt k = nI y) (hl : ls[i]? = some (some (.int (nI x)))) (hi : Nat.blt i ls.length = true) (kk : Run M d q1 q2 (pc + 3) (l_set ls i (.int (nI (x + y)))) st w n P) : Run M d q1 q2 pc ls st w n P := x_iinc hd hl hi (by rw [hk, nI_add]; exact kk)
end LDCW
theorem c_bitCount {w : ax_W} {n : Nat} {m : Nat} (hm : m < 1024) : Run m_J6_bitCount_0f7a4 0 0 0 0 (l_ent m_J6_bitCount_0f7a4 [.int (nI m)]) [] w n (Pu (.int (nI (cnt m 10))) w n) := by
  refine x_iload_n (pc := 0) dJ6_bitCount_0f7a4_0 rfl ?_
  refine x_iload_n (pc := 1) dJ6_bitCount_0f7a4_1 rfl ?_
  refine x_iconst (pc := 2) dJ6_bitCount_0f7a4_2 (v := nI 1) (by decide) ?_
  refine x_iushr (pc := 3) dJ6_bitCount_0f7a4_3 ?_
  refine x_ldcw (pc := 4) dJ6_bitCount_0f7a4_4 kK_J6_265 ?_
  refine x_iand (pc := 7) dJ6_bitCount_0f7a4_7 ?_
  refine x_isub (pc := 8) dJ6_bitCount_0f7a4_8 ?_
  refine x_istore_n (pc := 9) dJ6_bitCount_0f7a4_9 rfl ?_
  refine x_iload_n (pc := 10) dJ6_bitCount_0f7a4_10 rfl ?_
  refine x_ldcw (pc := 11) dJ6_bitCount_0f7a4_11 kK_J6_266 ?_
  refine x_iand (pc := 14) dJ6_bitCount_0f7a4_14 ?_
  refine x_iload_n (pc := 15) dJ6_bitCount_0f7a4_15 rfl ?_
  refine x_iconst (pc := 16) dJ6_bitCount_0f7a4_16 (v := nI 2) (by decide) ?_
  refine x_iushr (pc := 17) dJ6_bitCount_0f7a4_17 ?_
  refine x_ldcw (pc := 18) dJ6_bitCount_0f7a4_18 kK_J6_266 ?_
  refine x_iand (pc := 21) dJ6_bitCount_0f7a4_21 ?_
  refine x_iadd (pc := 22) dJ6_bitCount_0f7a4_22 ?_
  refine x_istore_n (pc := 23) dJ6_bitCount_0f7a4_23 rfl ?_
  refine x_iload_n (pc := 24) dJ6_bitCount_0f7a4_24 rfl ?_
  refine x_iload_n (pc := 25) dJ6_bitCount_0f7a4_25 rfl ?_
  refine x_iconst (pc := 26) dJ6_bitCount_0f7a4_26 (v := nI 4) (by decide) ?_
  refine x_iushr (pc := 27) dJ6_bitCount_0f7a4_27 ?_
  refine x_iadd (pc := 28) dJ6_bitCount_0f7a4_28 ?_
  refine x_ldcw (pc := 29) dJ6_bitCount_0f7a4_29 kK_J6_267 ?_
  refine x_iand (pc := 32) dJ6_bitCount_0f7a4_32 ?_
  refine x_istore_n (pc := 33) dJ6_bitCount_0f7a4_33 rfl ?_
  refine x_iload_n (pc := 34) dJ6_bitCount_0f7a4_34 rfl ?_
  refine x_iload_n (pc := 35) dJ6_bitCount_0f7a4_35 rfl ?_
  refine x_bipush (pc := 36) dJ6_bitCount_0f7a4_36 (v := nI 8) (by decide) ?_
  refine x_iushr (pc := 38) dJ6_bitCount_0f7a4_38 ?_
  refine x_iadd (pc := 39) dJ6_bitCount_0f7a4_39 ?_
  refine x_istore_n (pc := 40) dJ6_bitCount_0f7a4_40 rfl ?_
  refine x_iload_n (pc := 41) dJ6_bitCount_0f7a4_41 rfl ?_
  refine x_iload_n (pc := 42) dJ6_bitCount_0f7a4_42 rfl ?_
  refine x_bipush (pc := 43) dJ6_bitCount_0f7a4_43 (v := nI 16) (by decide) ?_
  refine x_iushr (pc := 45) dJ6_bitCount_0f7a4_45 ?_
  refine x_iadd (pc := 46) dJ6_bitCount_0f7a4_46 ?_
  refine x_istore_n (pc := 47) dJ6_bitCount_0f7a4_47 rfl ?_
  refine x_iload_n (pc := 48) dJ6_bitCount_0f7a4_48 rfl ?_
  refine x_bipush (pc := 49) dJ6_bitCount_0f7a4_49 (v := nI 63) (by decide) ?_
  refine x_iand (pc := 51) dJ6_bitCount_0f7a4_51 ?_
  refine x_iret (pc := 52) dJ6_bitCount_0f7a4_52 rfl rfl ?_
  exact pu_i (bc_all m hm)
/-- the a-th of the numbers below 10 in m, by how many are below it -/
theorem c_bitByRank {w : ax_W} {n : Nat} {m r a0 : Nat} (hm : m < 1024) (h0 : a0 < 10) (hb : m.testBit a0 = true) (hc : cnt m a0 = r) : Run m_X6_bitByRank 1 0 0 0 (l_ent m_X6_bitByRank [.int (nI m), .int (nI r)]) [] w n (Pu (.int (nI a0)) w n) := by
  have hmono : ∀ a b, a ≤ b → cnt m a ≤ cnt m b := by
    intro a b h
    induction h with
    | refl => exact Nat.le_refl _
    | step h ih => exact Nat.le_trans ih (Nat.le_add_right _ _)
  have hr : r ≤ 10 := by have := cnt_le m a0; omega
  have loop : ∀ k a, a + k = a0 → Run m_X6_bitByRank 1 0 0 4 [some (.int (nI m)), some (.int (nI r)), some (.int (nI (cnt m a))), some (.int (nI a))] [] w n (Pu (.int (nI a0)) w n) := by
    intro k
    induction k with
    | zero =>
      intro a ha
      have haa : a = a0 := by omega
      subst haa
      refine x_iload_n (pc := 4) dX6_bitByRank_4 rfl ?_
      refine x_bipush (pc := 5) dX6_bitByRank_5 (v := nI 10) (by decide) ?_
      refine x_icmp_ge_f (pc := 7) dX6_bitByRank_7 (tgt := 34) (by decide) (nI_ge (by omega) (by omega)) ?_
      refine x_iload_n (pc := 10) dX6_bitByRank_10 rfl ?_
      refine x_iload_n (pc := 11) dX6_bitByRank_11 rfl ?_
      refine x_cs2p (pc := 12) dX6_bitByRank_12 ks_X6_129 (by omega) (by rfl) (by rfl) (by rfl) (c_has (by omega) h0) ?_
      refine x_if_eq (pc := 15) dX6_bitByRank_15 (tgt := 28) (by decide) (fun h_15 => ?_) (fun h_15 => ?_)
      · skip
        try first | rw [n_b0] at h_15 | rw [n_eq0 (by omega)] at h_15
        rw [hb] at h_15; cases h_15
      · skip
        try first | rw [n_b0] at h_15 | rw [n_eq0 (by omega)] at h_15
        refine x_iload_n (pc := 18) dX6_bitByRank_18 rfl ?_
        refine x_iload_n (pc := 19) dX6_bitByRank_19 rfl ?_
        refine x_icmp_ne_f (pc := 20) dX6_bitByRank_20 (tgt := 25) (by decide) (by rw [hc]; simp) ?_
        refine x_iload_n (pc := 23) dX6_bitByRank_23 rfl ?_
        refine x_iret (pc := 24) dX6_bitByRank_24 rfl rfl ?_
        exact pu_n rfl
    | succ k ih =>
      intro a ha
      have hca := cnt_le m a
      refine x_iload_n (pc := 4) dX6_bitByRank_4 rfl ?_
      refine x_bipush (pc := 5) dX6_bitByRank_5 (v := nI 10) (by decide) ?_
      refine x_icmp_ge_f (pc := 7) dX6_bitByRank_7 (tgt := 34) (by decide) (nI_ge (by omega) (by omega)) ?_
      refine x_iload_n (pc := 10) dX6_bitByRank_10 rfl ?_
      refine x_iload_n (pc := 11) dX6_bitByRank_11 rfl ?_
      refine x_cs2p (pc := 12) dX6_bitByRank_12 ks_X6_129 (by omega) (by rfl) (by rfl) (by rfl) (c_has (by omega) (by omega)) ?_
      refine x_if_eq (pc := 15) dX6_bitByRank_15 (tgt := 28) (by decide) (fun h_15 => ?_) (fun h_15 => ?_)
      · skip
        try first | rw [n_b0] at h_15 | rw [n_eq0 (by omega)] at h_15
        have hcn : cnt m (a + 1) = cnt m a := by simp [cnt, h_15]
        refine xn_iinc (pc := 28) dX6_bitByRank_28 rfl rfl ?_
        refine x_goto (pc := 31) dX6_bitByRank_31 (tgt := 4) (by decide) ?_
        exact (by rw [← hcn]; exact ih (a + 1) (by omega))
      · skip
        try first | rw [n_b0] at h_15 | rw [n_eq0 (by omega)] at h_15
        have hcn : cnt m (a + 1) = cnt m a + 1 := by simp only [Bool.not_eq_false] at h_15; simp [cnt, h_15]
        have h2 := hmono (a + 1) a0 (by omega)
        refine x_iload_n (pc := 18) dX6_bitByRank_18 rfl ?_
        refine x_iload_n (pc := 19) dX6_bitByRank_19 rfl ?_
        refine x_icmp_ne_t (pc := 20) dX6_bitByRank_20 (tgt := 25) (by decide) (by rw [n_eq (by omega) (by omega)]; omega) ?_
        refine xn_iinc (pc := 25) dX6_bitByRank_25 rfl rfl ?_
        refine xn_iinc (pc := 28) dX6_bitByRank_28 rfl rfl ?_
        refine x_goto (pc := 31) dX6_bitByRank_31 (tgt := 4) (by decide) ?_
        exact (by rw [← hcn]; exact ih (a + 1) (by omega))
  refine x_iconst (pc := 0) dX6_bitByRank_0 (v := nI 0) (by decide) ?_
  refine x_istore_n (pc := 1) dX6_bitByRank_1 rfl ?_
  refine x_iconst (pc := 2) dX6_bitByRank_2 (v := nI 0) (by decide) ?_
  refine x_istore_n (pc := 3) dX6_bitByRank_3 rfl ?_
  exact loop a0 0 (by omega)
/-- as many divisions as the loop makes -/
def euS : Nat → Nat → Nat → Nat
  | 0, l, _ => l
  | k + 1, l, s => if s = 0 then l else euS k s (l % s)
theorem c_commonDivisor {w : ax_W} {n : Nat} {x y : Nat} (hx : x < 2147483648) (hy : y < 2147483648) : Run m_X6_commonDivisor 1 0 0 0 (l_ent m_X6_commonDivisor [.int (nI x), .int (nI y)]) [] w n (Pu (.int (nI (euS 100 (if x < y then y else x) (if y < x then y else x)))) w n) := by
  have loop : ∀ k i l s (z : Option Value), i + k = 100 → l < 2147483648 → s < 2147483648 → Run m_X6_commonDivisor 1 0 0 15 [some (.int (nI x)), some (.int (nI y)), some (.int (nI l)), some (.int (nI s)), some (.int (nI i)), z] [] w n (Pu (.int (nI (euS k l s))) w n) := by
    intro k
    induction k with
    | zero =>
      intro i l s z hi hl hs
      refine x_iload (pc := 15) dX6_commonDivisor_15 rfl ?_
      refine x_bipush (pc := 17) dX6_commonDivisor_17 (v := nI 100) (by decide) ?_
      refine x_icmp_ge_t (pc := 19) dX6_commonDivisor_19 (tgt := 42) (by decide) (nI_le (by omega) (by omega)) ?_
      refine x_iload_n (pc := 42) dX6_commonDivisor_42 rfl ?_
      refine x_iret (pc := 43) dX6_commonDivisor_43 rfl rfl ?_
      exact pu_n rfl
    | succ k ih =>
      intro i l s z hi hl hs
      refine x_iload (pc := 15) dX6_commonDivisor_15 rfl ?_
      refine x_bipush (pc := 17) dX6_commonDivisor_17 (v := nI 100) (by decide) ?_
      refine x_icmp_ge_f (pc := 19) dX6_commonDivisor_19 (tgt := 42) (by decide) (nI_ge (by omega) (by omega)) ?_
      refine x_iload_n (pc := 22) dX6_commonDivisor_22 rfl ?_
      refine x_if_le (pc := 23) dX6_commonDivisor_23 (tgt := 42) (by decide) (fun h_23 => ?_) (fun h_23 => ?_)
      · skip
        try first | rw [n_b0] at h_23 | rw [n_le0 (by omega)] at h_23
        subst h_23
        refine x_iload_n (pc := 42) dX6_commonDivisor_42 rfl ?_
        refine x_iret (pc := 43) dX6_commonDivisor_43 rfl rfl ?_
        exact pu_n (by simp [euS])
      · skip
        try first | rw [n_b0] at h_23 | rw [n_le0 (by omega)] at h_23
        have hm := Nat.mod_lt l (show 0 < s by omega)
        refine x_iload_n (pc := 26) dX6_commonDivisor_26 rfl ?_
        refine x_iload_n (pc := 27) dX6_commonDivisor_27 rfl ?_
        first | refine xn_irem (pc := 28) dX6_commonDivisor_28 (by omega) (by omega) (by omega) ?_ | refine x_irem (pc := 28) dX6_commonDivisor_28 (by assumption) ?_
        refine x_istore (pc := 29) dX6_commonDivisor_29 rfl ?_
        refine x_iload_n (pc := 31) dX6_commonDivisor_31 rfl ?_
        refine x_istore_n (pc := 32) dX6_commonDivisor_32 rfl ?_
        refine x_iload (pc := 33) dX6_commonDivisor_33 rfl ?_
        refine x_istore_n (pc := 35) dX6_commonDivisor_35 rfl ?_
        refine xn_iinc (pc := 36) dX6_commonDivisor_36 rfl rfl ?_
        refine x_goto (pc := 39) dX6_commonDivisor_39 (tgt := 15) (by decide) ?_
        refine (ih (i + 1) s (l % s) _ (by omega) hs (by omega)).mono ?_
        intro r w' n' hp
        rw [show euS (k + 1) l s = euS k s (l % s) by simp only [euS]; rw [if_neg h_23]]
        exact hp
  have e1 : (if nI x < nI y then nI y else nI x) = nI (if x < y then y else x) := by
    by_cases h : x < y
    · rw [if_pos h, if_pos ((n_lt hx hy).mpr h)]
    · rw [if_neg h, if_neg (fun q => h ((n_lt hx hy).mp q))]
  have e2 : (if nI y < nI x then nI y else nI x) = nI (if y < x then y else x) := by
    by_cases h : y < x
    · rw [if_pos h, if_pos ((n_lt hy hx).mpr h)]
    · rw [if_neg h, if_neg (fun q => h ((n_lt hy hx).mp q))]
  refine x_iload_n (pc := 0) dX6_commonDivisor_0 rfl ?_
  refine x_iload_n (pc := 1) dX6_commonDivisor_1 rfl ?_
  refine x_mmax (pc := 2) dX6_commonDivisor_2 kX_max_X6_252 kXs_max kI_J9 kXc_max (by omega) rfl ?_
  rw [e1]
  refine x_istore_n (pc := 5) dX6_commonDivisor_5 rfl ?_
  refine x_iload_n (pc := 6) dX6_commonDivisor_6 rfl ?_
  refine x_iload_n (pc := 7) dX6_commonDivisor_7 rfl ?_
  refine x_mmin (pc := 8) dX6_commonDivisor_8 kX_min_X6_257 kXs_min kI_J9 kXc_min (by omega) rfl ?_
  rw [e2]
  refine x_istore_n (pc := 11) dX6_commonDivisor_11 rfl ?_
  refine x_iconst (pc := 12) dX6_commonDivisor_12 (v := nI 0) (by decide) ?_
  refine x_istore (pc := 13) dX6_commonDivisor_13 rfl ?_
  exact loop 100 0 _ _ _ (by omega) (by split <;> omega) (by split <;> omega)
/-- the draw by z, of the k-th STATEMENT -/
def drawS (z k : Nat) : Nat := (7919 * z + 6151 * k + 1) * (7919 * z + 6151 * k + 1) % 65521 / 4
theorem drawS_lt (z k : Nat) : drawS z k < 16381 := by
  unfold drawS
  have := Nat.mod_lt ((7919 * z + 6151 * k + 1) * (7919 * z + 6151 * k + 1)) (show 0 < 65521 by decide)
  omega
theorem draw_eq {z k : Nat} (hz : z ≤ 9999) (hk : k ≤ 20) : (((7919 * (nI z).toInt64 + 6151 * (nI k).toInt64 + lN 1) * (7919 * (nI z).toInt64 + 6151 * (nI k).toInt64 + lN 1) - (7919 * (nI z).toInt64 + 6151 * (nI k).toInt64 + lN 1) * (7919 * (nI z).toInt64 + 6151 * (nI k).toInt64 + lN 1) / 65521 * 65521)) = lN ((7919 * z + 6151 * k + 1) * (7919 * z + 6151 * k + 1) % 65521) := by
  rw [nI_l (by omega), nI_l (by omega), show (7919 : Int64) = lN 7919 from rfl, show (6151 : Int64) = lN 6151 from rfl, show (65521 : Int64) = lN 65521 from rfl, lN_mul, lN_mul, lN_add, lN_add, lN_mul]
  refine pk_lRem ?_ (by decide) (by decide)
  have h1 : 7919 * z + 6151 * k + 1 ≤ 100000000 := by omega
  exact Nat.lt_of_le_of_lt (Nat.mul_le_mul h1 h1) (by decide)
theorem c_draw {w : ax_W} {n : Nat} {z k : Nat} (hz : z ≤ 9999) (hk : k ≤ 20) : Run m_X6_draw 0 0 0 0 (l_ent m_X6_draw [.int (nI z), .int (nI k)]) [] w n (Pu (.int (nI (drawS z k))) w n) := by
  refine x_ldc2 (pc := 0) dX6_draw_0 kK_X6_244 ?_
  refine x_iload_n (pc := 3) dX6_draw_3 rfl ?_
  refine x_i2l (pc := 4) dX6_draw_4 ?_
  refine x_lmul (pc := 5) dX6_draw_5 ?_
  refine x_ldc2 (pc := 6) dX6_draw_6 kK_X6_246 ?_
  refine x_iload_n (pc := 9) dX6_draw_9 rfl ?_
  refine x_i2l (pc := 10) dX6_draw_10 ?_
  refine x_lmul (pc := 11) dX6_draw_11 ?_
  refine x_ladd (pc := 12) dX6_draw_12 ?_
  refine x_lconst (pc := 13) dX6_draw_13 (v := lN 1) rfl ?_
  refine x_ladd (pc := 14) dX6_draw_14 ?_
  refine x_lstore_n (pc := 15) dX6_draw_15 rfl ?_
  refine x_lload_n (pc := 16) dX6_draw_16 rfl ?_
  refine x_lload_n (pc := 17) dX6_draw_17 rfl ?_
  refine x_lmul (pc := 18) dX6_draw_18 ?_
  refine x_ldc2 (pc := 19) dX6_draw_19 kK_X6_248 ?_
  refine x_lrem (pc := 22) dX6_draw_22 (by first | assumption | decide) ?_
  refine x_ldc2 (pc := 23) dX6_draw_23 kK_X6_250 ?_
  refine x_ldiv (pc := 26) dX6_draw_26 (by first | assumption | decide) ?_
  refine x_l2i (pc := 27) dX6_draw_27 ?_
  refine x_iret (pc := 28) dX6_draw_28 rfl rfl ?_
  refine pu_i ?_
  rw [draw_eq hz hk, show (4 : Int64) = lN 4 from rfl, pk_lDiv (Nat.lt_trans (Nat.mod_lt _ (by decide)) (by decide)) (by decide) (by decide), lN_i]
  rfl
end
section
/-! what a text tells: a court; its cells, from the k-th on -/
abbrev Crt : Type := Nat × (Nat → Nat) × (Nat → Nat) × (Nat → Nat) × (Nat → Nat) × Nat × Nat × (Nat → Nat)
def cn (C : Crt) : Nat := C.1
def kd (C : Crt) : Nat → Nat := C.2.1
def co (C : Crt) : Nat → Nat := C.2.2.1
def sp (C : Crt) : Nat → Nat := C.2.2.2.1
def hg (C : Crt) : Nat → Nat := C.2.2.2.2.1
def vd (C : Crt) : Nat := C.2.2.2.2.2.1
def np (C : Crt) : Nat := C.2.2.2.2.2.2.1
def de (C : Crt) : Nat → Nat := C.2.2.2.2.2.2.2
/-- a court as the document lets it be -/
def okC (C : Crt) : Prop := cn C ≤ 10 ∧ np C ≤ 5 ∧ vd C < 2 ^ cn C ∧ (∀ a, a < cn C → kd C a ≤ 4 ∧ co C a ≤ 20 ∧ sp C a ≤ 20 ∧ hg C a < 2 ^ cn C) ∧ ∀ p, p < np C → de C p < 2 ^ cn C
theorem okC.lt {C : Crt} (h : okC C) : 2 ^ cn C ≤ 1024 := pow_le_10 h.1
theorem okC.vd {C : Crt} (h : okC C) : vd C < 1024 := Nat.lt_of_lt_of_le h.2.2.1 h.lt
theorem okC.hg {C : Crt} (h : okC C) {a : Nat} (ha : a < cn C) : hg C a < 1024 := Nat.lt_of_lt_of_le (h.2.2.2.1 a ha).2.2.2 h.lt
theorem okC.de {C : Crt} (h : okC C) {p : Nat} (hp : p < np C) : de C p < 1024 := Nat.lt_of_lt_of_le (h.2.2.2.2 p hp) h.lt
def isC (w : ax_W) (k : Nat) (C : Crt) : Prop := w k = ao 0 [.ref (k + 1), .ref (k + 2), .ref (k + 3), .ref (k + 4), .ref (k + 5), .int (nI (cn C)), .int (nI (vd C)), .int (nI (np C))] ∧
  ∃ f1 f2 f3 f4 f5 : Nat → Int32, w (k + 1) = ai 10 f1 ∧ w (k + 2) = ai 10 f2 ∧ w (k + 3) = ai 10 f3 ∧ w (k + 4) = ai 10 f4 ∧ w (k + 5) = ai 5 f5 ∧
    (∀ a, a < cn C → f1 a = nI (kd C a) ∧ f2 a = nI (co C a) ∧ f3 a = nI (sp C a) ∧ f4 a = nI (hg C a)) ∧ ∀ p, p < np C → f5 p = nI (de C p)
theorem isC.go {w w' : ax_W} {k : Nat} {C : Crt} (h : isC w k C) (hq : ∀ j, k ≤ j → j < k + 6 → w' j = w j) : isC w' k C := by
  obtain ⟨h0, f1, f2, f3, f4, f5, h1, h2, h3, h4, h5, h6⟩ := h
  exact ⟨by rw [hq _ (by omega) (by omega)]; exact h0, f1, f2, f3, f4, f5, by rw [hq _ (by omega) (by omega)]; exact h1, by rw [hq _ (by omega) (by omega)]; exact h2, by rw [hq _ (by omega) (by omega)]; exact h3, by rw [hq _ (by omega) (by omega)]; exact h4, by rw [hq _ (by omega) (by omega)]; exact h5, h6⟩
/-- x is one of the first n numbers -/
def inB (x : Int32) (n : Nat) : Bool := decide (¬ x < 0 ∧ x < nI n)
theorem inB_n {a n : Nat} (ha : a < 2147483648) (hn : n < 2147483648) : inB (nI a) n = decide (a < n) := by
  unfold inB
  congr 1
  exact propext ⟨fun h => (n_lt ha hn).mp h.2, fun h => ⟨nI_pos ha, (n_lt ha hn).mpr h⟩⟩
theorem inB_of {x : Int32} {n : Nat} (h : inB x n = true) (hn : n < 2147483648) : ∃ a, a < n ∧ x = nI a := by
  have h2 := of_decide_eq_true h
  obtain ⟨j, hj, rfl⟩ := nI_of h2.1
  exact ⟨j, (n_lt hj hn).mp h2.2, rfl⟩
/-- a number's two cases -/
theorem inB_cases (x : Int32) {n : Nat} (hn : n < 2147483648) : inB x n = false ∨ ∃ a, a < n ∧ x = nI a := by
  cases h : inB x n with
  | false => exact Or.inl rfl
  | true => exact Or.inr (inB_of h hn)
theorem c_isStatement {w : ax_W} {n k : Nat} {C : Crt} (hC : isC w k C) (x : Int32) : Run m_X0_isStatement 0 0 0 0 (l_ent m_X0_isStatement [.ref k, .int x]) [] w n (Pu (.int (nI (bN (inB x (cn C))))) w n) := by
  obtain ⟨hK, -⟩ := hC
  refine x_iload_n (pc := 0) dX0_isStatement_0 rfl ?_
  refine x_if_lt (pc := 1) dX0_isStatement_1 (tgt := 16) (by decide) (fun h_1 => ?_) (fun h_1 => ?_)
  · skip
    try first | rw [n_b0] at h_1 | rw [n_lt0 (by omega)] at h_1
    have hh : inB x (cn C) = false := by simp [inB, h_1]
    refine x_iconst (pc := 16) dX0_isStatement_16 (v := nI 0) (by decide) ?_
    refine x_zret (pc := 17) dX0_isStatement_17 rfl (by first | decide | exact bN_lt _ | omega) ?_
    exact pu_n (by rw [hh]; rfl)
  · skip
    try first | rw [n_b0] at h_1 | rw [n_lt0 (by omega)] at h_1
    refine x_iload_n (pc := 4) dX0_isStatement_4 rfl ?_
    refine x_aload_n (pc := 5) dX0_isStatement_5 rfl ?_
    refine x_getf (pc := 6) dX0_isStatement_6 kf_X0_27 (by assumption) (by rfl) ?_
    refine x_icmp_ge (pc := 9) dX0_isStatement_9 (tgt := 16) (by decide) (fun h_9 => ?_) (fun h_9 => ?_)
    · skip
      try first | rw [n_b1] at h_9 | rw [n_b00] at h_9 | rw [n_le (by omega) (by omega)] at h_9
      have hh : inB x (cn C) = false := by have := Int32.not_lt.mpr h_9; simp [inB, this]
      refine x_iconst (pc := 16) dX0_isStatement_16 (v := nI 0) (by decide) ?_
      refine x_zret (pc := 17) dX0_isStatement_17 rfl (by first | decide | exact bN_lt _ | omega) ?_
      exact pu_n (by rw [hh]; rfl)
    · skip
      try first | rw [n_b1] at h_9 | rw [n_b00] at h_9 | rw [n_le (by omega) (by omega)] at h_9
      have hh : inB x (cn C) = true := by have := Int32.not_le.mp h_9; simp [inB, this, h_1]
      refine x_iconst (pc := 12) dX0_isStatement_12 (v := nI 1) (by decide) ?_
      refine x_goto (pc := 13) dX0_isStatement_13 (tgt := 17) (by decide) ?_
      refine x_zret (pc := 17) dX0_isStatement_17 rfl (by first | decide | exact bN_lt _ | omega) ?_
      exact pu_n (by rw [hh]; rfl)
/-- is it a NIGHT -/
def ntB (C : Crt) (x : Int32) : Bool := inB x (cn C) && decide (kd C x.toNatClampNeg = 4)
theorem ntB_n {C : Crt} {a : Nat} (h : okC C) (ha : a < cn C) : ntB C (nI a) = decide (kd C a = 4) := by
  have := h.1
  unfold ntB
  rw [inB_n (by omega) (by omega), n_cl (by omega)]
  simp [ha]
theorem c_isNight {w : ax_W} {n k : Nat} {C : Crt} (hC : isC w k C) (ok : okC C) (x : Int32) : Run m_X0_isNight 1 0 0 0 (l_ent m_X0_isNight [.ref k, .int x]) [] w n (Pu (.int (nI (bN (ntB C x)))) w n) := by
  have hC0 := hC
  obtain ⟨hK, f1, f2, f3, f4, f5, g1, g2, g3, g4, g5, g6, g7⟩ := hC
  have hn := ok.1
  rcases inB_cases x (n := cn C) (by omega) with hx | ⟨a, ha, rfl⟩
  · refine x_aload_n (pc := 0) dX0_isNight_0 rfl ?_
    refine x_iload_n (pc := 1) dX0_isNight_1 rfl ?_
    refine x_cv1p (ci := 0) (pc := 2) dX0_isNight_2 ks_X0_51 (by assumption) (by rfl) (by omega) (by rfl) (by rfl) (by rfl) (c_isStatement hC0 _) ?_
    refine x_if_eq (pc := 5) dX0_isNight_5 (tgt := 24) (by decide) (fun h_5 => ?_) (fun h_5 => ?_)
    · skip
      try first | rw [n_b0] at h_5 | rw [n_eq0 (by omega)] at h_5
      refine x_iconst (pc := 24) dX0_isNight_24 (v := nI 0) (by decide) ?_
      refine x_zret (pc := 25) dX0_isNight_25 rfl (by first | decide | exact bN_lt _ | omega) ?_
      exact pu_n (by simp [ntB, hx, bN])
    · skip
      try first | rw [n_b0] at h_5 | rw [n_eq0 (by omega)] at h_5
      rw [hx] at h_5; exact absurd rfl h_5
  · have hx : inB (nI a) (cn C) = true := by rw [inB_n (by omega) (by omega)]; simpa using ha
    have hkd := (ok.2.2.2.1 a ha).1
    refine x_aload_n (pc := 0) dX0_isNight_0 rfl ?_
    refine x_iload_n (pc := 1) dX0_isNight_1 rfl ?_
    refine x_cv1p (ci := 0) (pc := 2) dX0_isNight_2 ks_X0_51 (by assumption) (by rfl) (by omega) (by rfl) (by rfl) (by rfl) (c_isStatement hC0 _) ?_
    refine x_if_eq (pc := 5) dX0_isNight_5 (tgt := 24) (by decide) (fun h_5 => ?_) (fun h_5 => ?_)
    · skip
      try first | rw [n_b0] at h_5 | rw [n_eq0 (by omega)] at h_5
      rw [hx] at h_5; cases h_5
    · skip
      try first | rw [n_b0] at h_5 | rw [n_eq0 (by omega)] at h_5
      refine x_aload_n (pc := 8) dX0_isNight_8 rfl ?_
      refine x_getf (pc := 9) dX0_isNight_9 kf_X0_9 (by assumption) (by rfl) ?_
      refine x_iload_n (pc := 12) dX0_isNight_12 rfl ?_
      refine x_cs2p (pc := 13) dX0_isNight_13 ks_X0_62 (by omega) (by rfl) (by rfl) (by rfl) (c_at (by assumption) (by omega) (by omega)) ?_
      rw [(g6 a ha).1]
      refine x_iconst (pc := 16) dX0_isNight_16 (v := nI 4) (by decide) ?_
      refine x_icmp_ne (pc := 17) dX0_isNight_17 (tgt := 24) (by decide) (fun h_17 => ?_) (fun h_17 => ?_)
      · skip
        try first | rw [n_b1] at h_17 | rw [n_b00] at h_17 | rw [n_eq (by omega) (by omega)] at h_17
        refine x_iconst (pc := 24) dX0_isNight_24 (v := nI 0) (by decide) ?_
        refine x_zret (pc := 25) dX0_isNight_25 rfl (by first | decide | exact bN_lt _ | omega) ?_
        exact pu_n (by rw [ntB_n ok ha]; simp [h_17, bN])
      · replace h_17 := Classical.not_not.mp h_17
        try first | rw [n_b1] at h_17 | rw [n_b00] at h_17 | rw [n_eq (by omega) (by omega)] at h_17
        refine x_iconst (pc := 20) dX0_isNight_20 (v := nI 1) (by decide) ?_
        refine x_goto (pc := 21) dX0_isNight_21 (tgt := 25) (by decide) ?_
        refine x_zret (pc := 25) dX0_isNight_25 rfl (by first | decide | exact bN_lt _ | omega) ?_
        exact pu_n (by rw [ntB_n ok ha]; simp [h_17, bN])
/-- is it a VERDICT -/
def vtB (C : Crt) (x : Int32) : Bool := inB x (cn C) && (vd C).testBit x.toNatClampNeg
theorem vtB_n {C : Crt} {a : Nat} (h : okC C) (ha : a < cn C) : vtB C (nI a) = (vd C).testBit a := by
  have := h.1
  unfold vtB
  rw [inB_n (by omega) (by omega), n_cl (by omega)]
  simp [ha]
theorem c_isVerdict {w : ax_W} {n k : Nat} {C : Crt} (hC : isC w k C) (ok : okC C) (x : Int32) : Run m_X0_isVerdict 1 0 0 0 (l_ent m_X0_isVerdict [.ref k, .int x]) [] w n (Pu (.int (nI (bN (vtB C x)))) w n) := by
  have hC0 := hC
  obtain ⟨hK, f1, f2, f3, f4, f5, g1, g2, g3, g4, g5, g6, g7⟩ := hC
  have hn := ok.1
  have hv := ok.vd
  rcases inB_cases x (n := cn C) (by omega) with hx | ⟨a, ha, rfl⟩
  · refine x_aload_n (pc := 0) dX0_isVerdict_0 rfl ?_
    refine x_iload_n (pc := 1) dX0_isVerdict_1 rfl ?_
    refine x_cv1p (ci := 0) (pc := 2) dX0_isVerdict_2 ks_X0_51 (by assumption) (by rfl) (by omega) (by rfl) (by rfl) (by rfl) (c_isStatement hC0 _) ?_
    refine x_if_eq (pc := 5) dX0_isVerdict_5 (tgt := 23) (by decide) (fun h_5 => ?_) (fun h_5 => ?_)
    · skip
      try first | rw [n_b0] at h_5 | rw [n_eq0 (by omega)] at h_5
      refine x_iconst (pc := 23) dX0_isVerdict_23 (v := nI 0) (by decide) ?_
      refine x_zret (pc := 24) dX0_isVerdict_24 rfl (by first | decide | exact bN_lt _ | omega) ?_
      exact pu_n (by simp [vtB, hx, bN])
    · skip
      try first | rw [n_b0] at h_5 | rw [n_eq0 (by omega)] at h_5
      rw [hx] at h_5; exact absurd rfl h_5
  · have hx : inB (nI a) (cn C) = true := by rw [inB_n (by omega) (by omega)]; simpa using ha
    refine x_aload_n (pc := 0) dX0_isVerdict_0 rfl ?_
    refine x_iload_n (pc := 1) dX0_isVerdict_1 rfl ?_
    refine x_cv1p (ci := 0) (pc := 2) dX0_isVerdict_2 ks_X0_51 (by assumption) (by rfl) (by omega) (by rfl) (by rfl) (by rfl) (c_isStatement hC0 _) ?_
    refine x_if_eq (pc := 5) dX0_isVerdict_5 (tgt := 23) (by decide) (fun h_5 => ?_) (fun h_5 => ?_)
    · skip
      try first | rw [n_b0] at h_5 | rw [n_eq0 (by omega)] at h_5
      rw [hx] at h_5; cases h_5
    · skip
      try first | rw [n_b0] at h_5 | rw [n_eq0 (by omega)] at h_5
      refine x_aload_n (pc := 8) dX0_isVerdict_8 rfl ?_
      refine x_getf (pc := 9) dX0_isVerdict_9 kf_X0_31 (by assumption) (by rfl) ?_
      refine x_iload_n (pc := 12) dX0_isVerdict_12 rfl ?_
      refine x_cs2p (pc := 13) dX0_isVerdict_13 ks_X0_66 (by omega) (by rfl) (by rfl) (by rfl) (c_has (by omega) (by omega)) ?_
      refine x_if_eq (pc := 16) dX0_isVerdict_16 (tgt := 23) (by decide) (fun h_16 => ?_) (fun h_16 => ?_)
      · skip
        try first | rw [n_b0] at h_16 | rw [n_eq0 (by omega)] at h_16
        have hh : (vd C).testBit a = false := h_16
        refine x_iconst (pc := 23) dX0_isVerdict_23 (v := nI 0) (by decide) ?_
        refine x_zret (pc := 24) dX0_isVerdict_24 rfl (by first | decide | exact bN_lt _ | omega) ?_
        exact pu_n (by rw [vtB_n ok ha, hh]; rfl)
      · skip
        try first | rw [n_b0] at h_16 | rw [n_eq0 (by omega)] at h_16
        have hh : (vd C).testBit a = true := by simpa using h_16
        refine x_iconst (pc := 19) dX0_isVerdict_19 (v := nI 1) (by decide) ?_
        refine x_goto (pc := 20) dX0_isVerdict_20 (tgt := 24) (by decide) ?_
        refine x_zret (pc := 24) dX0_isVerdict_24 rfl (by first | decide | exact bN_lt _ | omega) ?_
        exact pu_n (by rw [vtB_n ok ha, hh]; rfl)
theorem c_all {w : ax_W} {n k : Nat} {C : Crt} (hC : isC w k C) (ok : okC C) : Run m_X0_all 0 0 0 0 (l_ent m_X0_all [.ref k]) [] w n (Pu (.int (nI (2 ^ cn C - 1))) w n) := by
  obtain ⟨hK, -⟩ := hC
  have hn := ok.1
  have hp : 1 ≤ 2 ^ cn C := Nat.one_le_two_pow
  refine x_iconst (pc := 0) dX0_all_0 (v := nI 1) (by decide) ?_
  refine x_aload_n (pc := 1) dX0_all_1 rfl ?_
  refine x_getf (pc := 2) dX0_all_2 kf_X0_27 (by assumption) (by rfl) ?_
  first | refine xn_shl1 (pc := 5) dX0_all_5 (by omega) ?_ | refine xn_ishl (pc := 5) dX0_all_5 (by omega) (by omega) ?_ | refine x_ishl (pc := 5) dX0_all_5 ?_
  refine x_iconst (pc := 6) dX0_all_6 (v := nI 1) (by decide) ?_
  first | refine xn_isub (pc := 7) dX0_all_7 (by omega) ?_ | refine x_isub (pc := 7) dX0_all_7 ?_
  refine x_iret (pc := 8) dX0_all_8 rfl rfl ?_
  exact pu_n rfl
/-- those of the first n numbers of which f is true, as bits -/
def mkM (f : Nat → Bool) : Nat → Nat
  | 0 => 0
  | n + 1 => mkM f n ||| (if f n then 2 ^ n else 0)
theorem mkM_lt (f : Nat → Bool) : ∀ n, mkM f n < 2 ^ n
  | 0 => by simp [mkM]
  | n + 1 => by
    have h := mkM_lt f n
    have h2 : 2 ^ n < 2 ^ (n + 1) := pow_lt (by omega)
    simp only [mkM]
    refine Nat.or_lt_two_pow (by omega) ?_
    split <;> omega
theorem mkM_bit (f : Nat → Bool) (a : Nat) : ∀ n, (mkM f n).testBit a = (decide (a < n) && f a)
  | 0 => by simp [mkM]
  | n + 1 => by
    simp only [mkM]
    rw [Nat.testBit_or, mkM_bit f a n]
    by_cases hf : f n
    · rw [if_pos hf, b_pow]
      by_cases ha : n = a
      · subst ha; simp [hf]
      · have : (a < n + 1) ↔ a < n := by omega
        simp [ha, this]
    · rw [if_neg hf]
      by_cases ha : n = a
      · subst ha; simp [hf]
      · have : (a < n + 1) ↔ a < n := by omega
        simp [this]
/-- WHO could have done the NIGHT a -/
def whoS (C : Crt) (a : Nat) : Nat := mkM (fun p => (de C p).testBit a) (np C)
theorem whoS_lt {C : Crt} (ok : okC C) (a : Nat) : whoS C a < 32 := Nat.lt_of_lt_of_le (mkM_lt _ _) (Nat.pow_le_pow_right (by decide : 0 < 2) (show np C ≤ 5 from ok.2.1))
theorem c_doers {w : ax_W} {n k : Nat} {C : Crt} (hC : isC w k C) (ok : okC C) {a : Nat} (ha : a < 10) : Run m_X0_doers 1 0 0 0 (l_ent m_X0_doers [.ref k, .int (nI a)]) [] w n (Pu (.int (nI (whoS C a))) w n) := by
  obtain ⟨hK, f1, f2, f3, f4, f5, g1, g2, g3, g4, g5, g6, g7⟩ := hC
  have hn := ok.1
  have hp5 := ok.2.1
  have loop : ∀ m p, p + m = np C → Run m_X0_doers 1 0 0 4 [some (.ref k), some (.int (nI a)), some (.int (nI (mkM (fun p => (de C p).testBit a) p))), some (.int (nI p))] [] w n (Pu (.int (nI (whoS C a))) w n) := by
    intro m
    induction m with
    | zero =>
      intro p hp
      have hpp : p = np C := by omega
      subst hpp
      refine x_iload_n (pc := 4) dX0_doers_4 rfl ?_
      refine x_aload_n (pc := 5) dX0_doers_5 rfl ?_
      refine x_getf (pc := 6) dX0_doers_6 kf_X0_34 (by assumption) (by rfl) ?_
      refine x_icmp_ge_t (pc := 9) dX0_doers_9 (tgt := 39) (by decide) (nI_le (by omega) (by omega)) ?_
      refine x_iload_n (pc := 39) dX0_doers_39 rfl ?_
      refine x_iret (pc := 40) dX0_doers_40 rfl rfl ?_
      exact pu_n rfl
    | succ m ih =>
      intro p hp
      have hd := ok.de (show p < np C by omega)
      refine x_iload_n (pc := 4) dX0_doers_4 rfl ?_
      refine x_aload_n (pc := 5) dX0_doers_5 rfl ?_
      refine x_getf (pc := 6) dX0_doers_6 kf_X0_34 (by assumption) (by rfl) ?_
      refine x_icmp_ge_f (pc := 9) dX0_doers_9 (tgt := 39) (by decide) (nI_ge (by omega) (by omega)) ?_
      refine x_aload_n (pc := 12) dX0_doers_12 rfl ?_
      refine x_getf (pc := 13) dX0_doers_13 kf_X0_24 (by assumption) (by rfl) ?_
      refine x_iload_n (pc := 16) dX0_doers_16 rfl ?_
      refine x_cs2p (pc := 17) dX0_doers_17 ks_X0_62 (by omega) (by rfl) (by rfl) (by rfl) (c_at (by assumption) (by omega) (by omega)) ?_
      rw [g7 p (by omega)]
      refine x_iload_n (pc := 20) dX0_doers_20 rfl ?_
      refine x_cs2p (pc := 21) dX0_doers_21 ks_X0_66 (by omega) (by rfl) (by rfl) (by rfl) (c_has (by omega) (by omega)) ?_
      refine x_if_eq (pc := 24) dX0_doers_24 (tgt := 33) (by decide) (fun h_24 => ?_) (fun h_24 => ?_)
      · skip
        try first | rw [n_b0] at h_24 | rw [n_eq0 (by omega)] at h_24
        have hs : mkM (fun p => (de C p).testBit a) (p + 1) = mkM (fun p => (de C p).testBit a) p := by simp [mkM, h_24]
        refine xn_iinc (pc := 33) dX0_doers_33 rfl rfl ?_
        refine x_goto (pc := 36) dX0_doers_36 (tgt := 4) (by decide) ?_
        exact (by rw [← hs]; exact ih (p + 1) (by omega))
      · skip
        try first | rw [n_b0] at h_24 | rw [n_eq0 (by omega)] at h_24
        have hs : mkM (fun p => (de C p).testBit a) (p + 1) = mkM (fun p => (de C p).testBit a) p ||| 2 ^ p := by simp only [Bool.not_eq_false] at h_24; simp [mkM, h_24]
        refine x_iload_n (pc := 27) dX0_doers_27 rfl ?_
        refine x_iconst (pc := 28) dX0_doers_28 (v := nI 1) (by decide) ?_
        refine x_iload_n (pc := 29) dX0_doers_29 rfl ?_
        first | refine xn_shl1 (pc := 30) dX0_doers_30 (by omega) ?_ | refine xn_ishl (pc := 30) dX0_doers_30 (by omega) (by omega) ?_ | refine x_ishl (pc := 30) dX0_doers_30 ?_
        first | refine xn_ior (pc := 31) dX0_doers_31 ?_ | refine x_ior (pc := 31) dX0_doers_31 ?_
        refine x_istore_n (pc := 32) dX0_doers_32 rfl ?_
        refine xn_iinc (pc := 33) dX0_doers_33 rfl rfl ?_
        refine x_goto (pc := 36) dX0_doers_36 (tgt := 4) (by decide) ?_
        exact (by rw [← hs]; exact ih (p + 1) (by omega))
  refine x_iconst (pc := 0) dX0_doers_0 (v := nI 0) (by decide) ?_
  refine x_istore_n (pc := 1) dX0_doers_1 rfl ?_
  refine x_iconst (pc := 2) dX0_doers_2 (v := nI 0) (by decide) ?_
  refine x_istore_n (pc := 3) dX0_doers_3 rfl ?_
  exact loop (np C) 0 (by omega)
/-! COST and days of a row -/
/-- what the STATEMENT a costs, so far from the VERDICT, behind z -/
def cst (C : Crt) (z : Option Nat) (far a : Nat) : Nat := if kd C a = 1 then (if z.map (kd C) = some 1 then co C a + 2 else co C a) else if kd C a = 2 then 2 * co C a else if kd C a = 3 then co C a + far else co C a
theorem cst_le {C : Crt} (ok : okC C) {a : Nat} (ha : a < cn C) (z : Option Nat) (far : Nat) : cst C z far a ≤ 40 + far := by
  have h := (ok.2.2.2.1 a ha).2.1
  unfold cst
  split
  · split <;> omega
  · split
    · omega
    · split <;> omega
def prv (row : Nat → Nat) : Nat → Option Nat
  | 0 => none
  | k + 1 => some (row k)
/-- COST of the first k of a row -/
def cosA (C : Crt) (row : Nat → Nat) : Nat → Nat
  | 0 => 0
  | k + 1 => cosA C row k + cst C (prv row k) k (row k)
theorem cosA_le {C : Crt} (ok : okC C) {row : Nat → Nat} : ∀ {m}, (∀ j, j < m → row j < cn C) → m ≤ 10 → cosA C row m ≤ 50 * m
  | 0, _, _ => by simp [cosA]
  | m + 1, h, hm => by
    have h1 := cosA_le ok (row := row) (m := m) (fun j hj => h j (by omega)) (by omega)
    have h2 := cst_le ok (h m (by omega)) (prv row m) m
    simp only [cosA]
    omega
def dayA (C : Crt) (row : Nat → Nat) : Nat → Nat
  | 0 => 0
  | k + 1 => dayA C row k + sp C (row k)
theorem dayA_le {C : Crt} (ok : okC C) {row : Nat → Nat} : ∀ {m}, (∀ j, j < m → row j < cn C) → dayA C row m ≤ 20 * m
  | 0, _ => by simp [dayA]
  | m + 1, h => by
    have h1 := dayA_le ok (row := row) (m := m) (fun j hj => h j (by omega))
    have h2 := (ok.2.2.2.1 _ (h m (by omega))).2.2.1
    simp only [dayA]
    omega
theorem c_daysOf {w : ax_W} {n k : Nat} {C : Crt} (hC : isC w k C) (ok : okC C) {r : Nat} {fr : Nat → Int32} {row : Nat → Nat} {len : Nat} (hr : w r = ai 10 fr) (hlen : len ≤ 10) (hrow : ∀ j, j < len → fr j = nI (row j) ∧ row j < cn C) : Run m_X0_daysOf 1 0 0 0 (l_ent m_X0_daysOf [.ref k, .ref r, .int (nI len)]) [] w n (Pu (.int (nI (dayA C row len))) w n) := by
  obtain ⟨hK, f1, f2, f3, f4, f5, g1, g2, g3, g4, g5, g6, g7⟩ := hC
  have hn := ok.1
  have loop : ∀ m p, p + m = len → Run m_X0_daysOf 1 0 0 5 [some (.ref k), some (.ref r), some (.int (nI len)), some (.int (nI (dayA C row p))), some (.int (nI p))] [] w n (Pu (.int (nI (dayA C row len))) w n) := by
    intro m
    induction m with
    | zero =>
      intro p hp
      have hpp : p = len := by omega
      subst hpp
      refine x_iload (pc := 5) dX0_daysOf_5 rfl ?_
      refine x_iload_n (pc := 7) dX0_daysOf_7 rfl ?_
      refine x_icmp_ge_t (pc := 8) dX0_daysOf_8 (tgt := 33) (by decide) (nI_le (by omega) (by omega)) ?_
      refine x_iload_n (pc := 33) dX0_daysOf_33 rfl ?_
      refine x_iret (pc := 34) dX0_daysOf_34 rfl rfl ?_
      exact pu_n rfl
    | succ m ih =>
      intro p hp
      have hpr := hrow p (by omega)
      refine x_iload (pc := 5) dX0_daysOf_5 rfl ?_
      refine x_iload_n (pc := 7) dX0_daysOf_7 rfl ?_
      refine x_icmp_ge_f (pc := 8) dX0_daysOf_8 (tgt := 33) (by decide) (nI_ge (by omega) (by omega)) ?_
      refine x_iload_n (pc := 11) dX0_daysOf_11 rfl ?_
      refine x_aload_n (pc := 12) dX0_daysOf_12 rfl ?_
      refine x_getf (pc := 13) dX0_daysOf_13 kf_X0_18 (by assumption) (by rfl) ?_
      refine x_aload_n (pc := 16) dX0_daysOf_16 rfl ?_
      refine x_iload (pc := 17) dX0_daysOf_17 rfl ?_
      refine x_cs2p (pc := 19) dX0_daysOf_19 ks_X0_62 (by omega) (by rfl) (by rfl) (by rfl) (c_at (by assumption) (by omega) (by omega)) ?_
      rw [hpr.1]
      refine x_cs2p (pc := 22) dX0_daysOf_22 ks_X0_62 (by omega) (by rfl) (by rfl) (by rfl) (c_at (by assumption) (by omega) (by omega)) ?_
      rw [(g6 _ hpr.2).2.2.1]
      first | refine xn_iadd (pc := 25) dX0_daysOf_25 ?_ | refine x_iadd (pc := 25) dX0_daysOf_25 ?_
      refine x_istore_n (pc := 26) dX0_daysOf_26 rfl ?_
      refine xn_iinc (pc := 27) dX0_daysOf_27 rfl rfl ?_
      refine x_goto (pc := 30) dX0_daysOf_30 (tgt := 5) (by decide) ?_
      exact ih (p + 1) (by omega)
  refine x_iconst (pc := 0) dX0_daysOf_0 (v := nI 0) (by decide) ?_
  refine x_istore_n (pc := 1) dX0_daysOf_1 rfl ?_
  refine x_iconst (pc := 2) dX0_daysOf_2 (v := nI 0) (by decide) ?_
  refine x_istore (pc := 3) dX0_daysOf_3 rfl ?_
  exact loop len 0 (by omega)
def ahS (C : Crt) (row : Nat → Nat) : Nat → Int32
  | 0 => -4
  | q + 1 => nI (kd C (row q))
theorem ahS_1 {C : Crt} (ok : okC C) {row : Nat → Nat} {p : Nat} (h : ∀ j, j < p → row j < cn C) : ahS C row p = nI 1 ↔ (prv row p).map (kd C) = some 1 := by
  cases p with
  | zero => simp only [ahS, prv]; exact ⟨fun h => absurd h (by decide +kernel), fun h => by cases h⟩
  | succ q =>
    have h1 := (ok.2.2.2.1 _ (h q (by omega))).1
    simp only [ahS, prv, Option.map_some, Option.some.injEq]
    exact n_eq (by omega) (by omega)
theorem c_costOf {w : ax_W} {n k : Nat} {C : Crt} (hC : isC w k C) (ok : okC C) {r : Nat} {fr : Nat → Int32} {row : Nat → Nat} {len : Nat} (hr : w r = ai 10 fr) (hlen : len ≤ 10) (hrow : ∀ j, j < len → fr j = nI (row j) ∧ row j < cn C) : Run m_X0_costOf 1 0 0 0 (l_ent m_X0_costOf [.ref k, .ref r, .int (nI len)]) [] w n (Pu (.int (nI (cosA C row len))) w n) := by
  obtain ⟨hK, f1, f2, f3, f4, f5, g1, g2, g3, g4, g5, g6, g7⟩ := hC
  have hn := ok.1
  have loop : ∀ m p z6 z7, p + m = len → Run m_X0_costOf 1 0 0 9 [some (.ref k), some (.ref r), some (.int (nI len)), some (.int (nI (cosA C row p))), some (.int (ahS C row p)), some (.int (nI p)), z6, z7] [] w n (Pu (.int (nI (cosA C row len))) w n) := by
    intro m
    induction m with
    | zero =>
      intro p z6 z7 hp
      have hpp : p = len := by omega
      subst hpp
      refine x_iload (pc := 9) dX0_costOf_9 rfl ?_
      refine x_iload_n (pc := 11) dX0_costOf_11 rfl ?_
      refine x_icmp_ge_t (pc := 12) dX0_costOf_12 (tgt := 106) (by decide) (nI_le (by omega) (by omega)) ?_
      refine x_iload_n (pc := 106) dX0_costOf_106 rfl ?_
      refine x_iret (pc := 107) dX0_costOf_107 rfl rfl ?_
      exact pu_n rfl
    | succ m ih =>
      intro p z6 z7 hp
      have hpr := hrow p (by omega)
      have hkd := (ok.2.2.2.1 _ hpr.2).1
      have hah := ahS_1 ok (row := row) (p := p) (fun j hj => (hrow j (by omega)).2)
      refine x_iload (pc := 9) dX0_costOf_9 rfl ?_
      refine x_iload_n (pc := 11) dX0_costOf_11 rfl ?_
      refine x_icmp_ge_f (pc := 12) dX0_costOf_12 (tgt := 106) (by decide) (nI_ge (by omega) (by omega)) ?_
      refine x_aload_n (pc := 15) dX0_costOf_15 rfl ?_
      refine x_iload (pc := 16) dX0_costOf_16 rfl ?_
      refine x_cs2p (pc := 18) dX0_costOf_18 ks_X0_62 (by omega) (by rfl) (by rfl) (by rfl) (c_at (by assumption) (by omega) (by omega)) ?_
      rw [hpr.1]
      refine x_istore (pc := 21) dX0_costOf_21 rfl ?_
      refine x_aload_n (pc := 23) dX0_costOf_23 rfl ?_
      refine x_getf (pc := 24) dX0_costOf_24 kf_X0_9 (by assumption) (by rfl) ?_
      refine x_iload (pc := 27) dX0_costOf_27 rfl ?_
      refine x_cs2p (pc := 29) dX0_costOf_29 ks_X0_62 (by omega) (by rfl) (by rfl) (by rfl) (c_at (by assumption) (by omega) (by omega)) ?_
      rw [(g6 _ hpr.2).1]
      refine x_istore (pc := 32) dX0_costOf_32 rfl ?_
      refine x_iload_n (pc := 34) dX0_costOf_34 rfl ?_
      refine x_aload_n (pc := 35) dX0_costOf_35 rfl ?_
      refine x_getf (pc := 36) dX0_costOf_36 kf_X0_15 (by assumption) (by rfl) ?_
      refine x_iload (pc := 39) dX0_costOf_39 rfl ?_
      refine x_cs2p (pc := 41) dX0_costOf_41 ks_X0_62 (by omega) (by rfl) (by rfl) (by rfl) (c_at (by assumption) (by omega) (by omega)) ?_
      rw [(g6 _ hpr.2).2.1]
      first | refine xn_iadd (pc := 44) dX0_costOf_44 ?_ | refine x_iadd (pc := 44) dX0_costOf_44 ?_
      refine x_istore_n (pc := 45) dX0_costOf_45 rfl ?_
      refine x_iload (pc := 46) dX0_costOf_46 rfl ?_
      refine x_iconst (pc := 48) dX0_costOf_48 (v := nI 1) (by decide) ?_
      refine x_icmp_ne (pc := 49) dX0_costOf_49 (tgt := 64) (by decide) (fun h_49 => ?_) (fun h_49 => ?_)
      · skip
        try first | rw [n_b1] at h_49 | rw [n_b00] at h_49 | rw [n_eq (by omega) (by omega)] at h_49
        refine x_iload (pc := 64) dX0_costOf_64 rfl ?_
        refine x_iconst (pc := 66) dX0_costOf_66 (v := nI 2) (by decide) ?_
        refine x_icmp_ne (pc := 67) dX0_costOf_67 (tgt := 85) (by decide) (fun h_67 => ?_) (fun h_67 => ?_)
        · skip
          try first | rw [n_b1] at h_67 | rw [n_b00] at h_67 | rw [n_eq (by omega) (by omega)] at h_67
          refine x_iload (pc := 85) dX0_costOf_85 rfl ?_
          refine x_iconst (pc := 87) dX0_costOf_87 (v := nI 3) (by decide) ?_
          refine x_icmp_ne (pc := 88) dX0_costOf_88 (tgt := 96) (by decide) (fun h_88 => ?_) (fun h_88 => ?_)
          · skip
            try first | rw [n_b1] at h_88 | rw [n_b00] at h_88 | rw [n_eq (by omega) (by omega)] at h_88
            have e : cosA C row (p + 1) = cosA C row p + co C (row p) := by first | assumption | simp [cosA, cst, h_49, h_67, h_88]
            refine x_iload (pc := 96) dX0_costOf_96 rfl ?_
            refine x_istore (pc := 98) dX0_costOf_98 rfl ?_
            refine xn_iinc (pc := 100) dX0_costOf_100 rfl rfl ?_
            refine x_goto (pc := 103) dX0_costOf_103 (tgt := 9) (by decide) ?_
            exact (by rw [← e]; exact ih (p + 1) _ _ (by omega))
          · replace h_88 := Classical.not_not.mp h_88
            try first | rw [n_b1] at h_88 | rw [n_b00] at h_88 | rw [n_eq (by omega) (by omega)] at h_88
            have e : cosA C row (p + 1) = cosA C row p + co C (row p) + p := by simp only [cosA, cst]; rw [if_neg (by omega), if_neg (by omega), if_pos (by omega)]; omega
            refine x_iload_n (pc := 91) dX0_costOf_91 rfl ?_
            refine x_iload (pc := 92) dX0_costOf_92 rfl ?_
            first | refine xn_iadd (pc := 94) dX0_costOf_94 ?_ | refine x_iadd (pc := 94) dX0_costOf_94 ?_
            refine x_istore_n (pc := 95) dX0_costOf_95 rfl ?_
            refine x_iload (pc := 96) dX0_costOf_96 rfl ?_
            refine x_istore (pc := 98) dX0_costOf_98 rfl ?_
            refine xn_iinc (pc := 100) dX0_costOf_100 rfl rfl ?_
            refine x_goto (pc := 103) dX0_costOf_103 (tgt := 9) (by decide) ?_
            exact (by rw [← e]; exact ih (p + 1) _ _ (by omega))
        · replace h_67 := Classical.not_not.mp h_67
          try first | rw [n_b1] at h_67 | rw [n_b00] at h_67 | rw [n_eq (by omega) (by omega)] at h_67
          have e : cosA C row (p + 1) = cosA C row p + co C (row p) + co C (row p) := by simp only [cosA, cst]; rw [if_neg (by omega), if_pos (by omega)]; omega
          refine x_iload_n (pc := 70) dX0_costOf_70 rfl ?_
          refine x_aload_n (pc := 71) dX0_costOf_71 rfl ?_
          refine x_getf (pc := 72) dX0_costOf_72 kf_X0_15 (by assumption) (by rfl) ?_
          refine x_iload (pc := 75) dX0_costOf_75 rfl ?_
          refine x_cs2p (pc := 77) dX0_costOf_77 ks_X0_62 (by omega) (by rfl) (by rfl) (by rfl) (c_at (by assumption) (by omega) (by omega)) ?_
          rw [(g6 _ hpr.2).2.1]
          first | refine xn_iadd (pc := 80) dX0_costOf_80 ?_ | refine x_iadd (pc := 80) dX0_costOf_80 ?_
          refine x_istore_n (pc := 81) dX0_costOf_81 rfl ?_
          refine x_goto (pc := 82) dX0_costOf_82 (tgt := 96) (by decide) ?_
          refine x_iload (pc := 96) dX0_costOf_96 rfl ?_
          refine x_istore (pc := 98) dX0_costOf_98 rfl ?_
          refine xn_iinc (pc := 100) dX0_costOf_100 rfl rfl ?_
          refine x_goto (pc := 103) dX0_costOf_103 (tgt := 9) (by decide) ?_
          exact (by rw [← e]; exact ih (p + 1) _ _ (by omega))
      · replace h_49 := Classical.not_not.mp h_49
        try first | rw [n_b1] at h_49 | rw [n_b00] at h_49 | rw [n_eq (by omega) (by omega)] at h_49
        refine x_iload (pc := 52) dX0_costOf_52 rfl ?_
        refine x_iconst (pc := 54) dX0_costOf_54 (v := nI 1) (by decide) ?_
        refine x_icmp_ne (pc := 55) dX0_costOf_55 (tgt := 64) (by decide) (fun h_55 => ?_) (fun h_55 => ?_)
        · skip
          try first | rw [n_b1] at h_55 | rw [n_b00] at h_55 | rw [n_eq (by omega) (by omega)] at h_55
          rw [hah] at h_55
          have e : cosA C row (p + 1) = cosA C row p + co C (row p) := by simp [cosA, cst, h_49, h_55]
          refine x_iload (pc := 64) dX0_costOf_64 rfl ?_
          refine x_iconst (pc := 66) dX0_costOf_66 (v := nI 2) (by decide) ?_
          refine x_icmp_ne (pc := 67) dX0_costOf_67 (tgt := 85) (by decide) (fun h_67 => ?_) (fun h_67 => ?_)
          · skip
            try first | rw [n_b1] at h_67 | rw [n_b00] at h_67 | rw [n_eq (by omega) (by omega)] at h_67
            refine x_iload (pc := 85) dX0_costOf_85 rfl ?_
            refine x_iconst (pc := 87) dX0_costOf_87 (v := nI 3) (by decide) ?_
            refine x_icmp_ne (pc := 88) dX0_costOf_88 (tgt := 96) (by decide) (fun h_88 => ?_) (fun h_88 => ?_)
            · skip
              try first | rw [n_b1] at h_88 | rw [n_b00] at h_88 | rw [n_eq (by omega) (by omega)] at h_88
              have e : cosA C row (p + 1) = cosA C row p + co C (row p) := by first | assumption | simp [cosA, cst, h_49, h_67, h_88]
              refine x_iload (pc := 96) dX0_costOf_96 rfl ?_
              refine x_istore (pc := 98) dX0_costOf_98 rfl ?_
              refine xn_iinc (pc := 100) dX0_costOf_100 rfl rfl ?_
              refine x_goto (pc := 103) dX0_costOf_103 (tgt := 9) (by decide) ?_
              exact (by rw [← e]; exact ih (p + 1) _ _ (by omega))
            · replace h_88 := Classical.not_not.mp h_88
              try first | rw [n_b1] at h_88 | rw [n_b00] at h_88 | rw [n_eq (by omega) (by omega)] at h_88
              have e : cosA C row (p + 1) = cosA C row p + co C (row p) + p := by simp only [cosA, cst]; rw [if_neg (by omega), if_neg (by omega), if_pos (by omega)]; omega
              refine x_iload_n (pc := 91) dX0_costOf_91 rfl ?_
              refine x_iload (pc := 92) dX0_costOf_92 rfl ?_
              first | refine xn_iadd (pc := 94) dX0_costOf_94 ?_ | refine x_iadd (pc := 94) dX0_costOf_94 ?_
              refine x_istore_n (pc := 95) dX0_costOf_95 rfl ?_
              refine x_iload (pc := 96) dX0_costOf_96 rfl ?_
              refine x_istore (pc := 98) dX0_costOf_98 rfl ?_
              refine xn_iinc (pc := 100) dX0_costOf_100 rfl rfl ?_
              refine x_goto (pc := 103) dX0_costOf_103 (tgt := 9) (by decide) ?_
              exact (by rw [← e]; exact ih (p + 1) _ _ (by omega))
          · replace h_67 := Classical.not_not.mp h_67
            try first | rw [n_b1] at h_67 | rw [n_b00] at h_67 | rw [n_eq (by omega) (by omega)] at h_67
            have e : cosA C row (p + 1) = cosA C row p + co C (row p) + co C (row p) := by simp only [cosA, cst]; rw [if_neg (by omega), if_pos (by omega)]; omega
            refine x_iload_n (pc := 70) dX0_costOf_70 rfl ?_
            refine x_aload_n (pc := 71) dX0_costOf_71 rfl ?_
            refine x_getf (pc := 72) dX0_costOf_72 kf_X0_15 (by assumption) (by rfl) ?_
            refine x_iload (pc := 75) dX0_costOf_75 rfl ?_
            refine x_cs2p (pc := 77) dX0_costOf_77 ks_X0_62 (by omega) (by rfl) (by rfl) (by rfl) (c_at (by assumption) (by omega) (by omega)) ?_
            rw [(g6 _ hpr.2).2.1]
            first | refine xn_iadd (pc := 80) dX0_costOf_80 ?_ | refine x_iadd (pc := 80) dX0_costOf_80 ?_
            refine x_istore_n (pc := 81) dX0_costOf_81 rfl ?_
            refine x_goto (pc := 82) dX0_costOf_82 (tgt := 96) (by decide) ?_
            refine x_iload (pc := 96) dX0_costOf_96 rfl ?_
            refine x_istore (pc := 98) dX0_costOf_98 rfl ?_
            refine xn_iinc (pc := 100) dX0_costOf_100 rfl rfl ?_
            refine x_goto (pc := 103) dX0_costOf_103 (tgt := 9) (by decide) ?_
            exact (by rw [← e]; exact ih (p + 1) _ _ (by omega))
        · replace h_55 := Classical.not_not.mp h_55
          try first | rw [n_b1] at h_55 | rw [n_b00] at h_55 | rw [n_eq (by omega) (by omega)] at h_55
          rw [hah] at h_55
          have e : cosA C row (p + 1) = cosA C row p + co C (row p) + 2 := by simp only [cosA, cst]; rw [if_pos (by omega), if_pos (by simpa using h_55)]; omega
          refine xn_iinck (pc := 58) dX0_costOf_58 (y := 2) (by decide) rfl rfl ?_
          refine x_goto (pc := 61) dX0_costOf_61 (tgt := 96) (by decide) ?_
          refine x_iload (pc := 96) dX0_costOf_96 rfl ?_
          refine x_istore (pc := 98) dX0_costOf_98 rfl ?_
          refine xn_iinc (pc := 100) dX0_costOf_100 rfl rfl ?_
          refine x_goto (pc := 103) dX0_costOf_103 (tgt := 9) (by decide) ?_
          exact (by rw [← e]; exact ih (p + 1) _ _ (by omega))
  refine x_iconst (pc := 0) dX0_costOf_0 (v := nI 0) (by decide) ?_
  refine x_istore_n (pc := 1) dX0_costOf_1 rfl ?_
  refine x_bipush (pc := 2) dX0_costOf_2 (v := -4) (by decide) ?_
  refine x_istore (pc := 4) dX0_costOf_4 rfl ?_
  refine x_iconst (pc := 6) dX0_costOf_6 (v := nI 0) (by decide) ?_
  refine x_istore (pc := 7) dX0_costOf_7 rfl ?_
  exact loop len 0 _ _ (by omega)
end
section
/-! a court told: the empty one, one more STATEMENT, VERDICT, HANG, PERSON; a copy -/
def noC : Crt := (0, fun _ => 0, fun _ => 0, fun _ => 0, fun _ => 0, 0, 0, fun _ => 0)
theorem okC_no : okC noC := ⟨by decide, by decide, by decide, fun a h => absurd h (Nat.not_lt_zero a), fun a h => absurd h (Nat.not_lt_zero a)⟩
/-- the same cells but those from k on, so many -/
abbrev sameW (w w' : ax_W) (k len : Nat) : Prop := ∀ j, (j < k ∨ k + len ≤ j) → w' j = w j
theorem c_clearC {w : ax_W} {n k : Nat} {C : Crt} (hC : isC w k C) : Run m_X0_clear 0 0 0 0 (l_ent m_X0_clear [.ref k]) [] w n (Vo (fun w' => isC w' k noC ∧ sameW w w' k 6) n) := by
  obtain ⟨hK, f1, f2, f3, f4, f5, g1, g2, g3, g4, g5, g6, g7⟩ := hC
  have hfr : ∀ j, (j < k ∨ k + 6 ≤ j) → w j = w j := fun _ _ => rfl
  refine x_aload_n (pc := 0) dX0_clear_0 rfl ?_
  refine x_iconst (pc := 1) dX0_clear_1 (v := nI 0) (by decide) ?_
  refine xw_puti (pc := 2) dX0_clear_2 kf_X0_27 (by assumption) (by rfl) (by rfl) rfl rfl (fun w hnew hne => ?_)
  replace hK := hnew
  replace g1 := (hne _ (by omega)).trans g1
  replace g2 := (hne _ (by omega)).trans g2
  replace g3 := (hne _ (by omega)).trans g3
  replace g4 := (hne _ (by omega)).trans g4
  replace g5 := (hne _ (by omega)).trans g5
  replace hfr := fun j (hj : j < k ∨ k + 6 ≤ j) => (hne j (by omega)).trans (hfr j hj)
  clear hne
  refine x_aload_n (pc := 5) dX0_clear_5 rfl ?_
  refine x_iconst (pc := 6) dX0_clear_6 (v := nI 0) (by decide) ?_
  refine xw_puti (pc := 7) dX0_clear_7 kf_X0_31 (by assumption) (by rfl) (by rfl) rfl rfl (fun w hnew hne => ?_)
  replace hK := hnew
  replace g1 := (hne _ (by omega)).trans g1
  replace g2 := (hne _ (by omega)).trans g2
  replace g3 := (hne _ (by omega)).trans g3
  replace g4 := (hne _ (by omega)).trans g4
  replace g5 := (hne _ (by omega)).trans g5
  replace hfr := fun j (hj : j < k ∨ k + 6 ≤ j) => (hne j (by omega)).trans (hfr j hj)
  clear hne
  refine x_aload_n (pc := 10) dX0_clear_10 rfl ?_
  refine x_iconst (pc := 11) dX0_clear_11 (v := nI 0) (by decide) ?_
  refine xw_puti (pc := 12) dX0_clear_12 kf_X0_34 (by assumption) (by rfl) (by rfl) rfl rfl (fun w hnew hne => ?_)
  replace hK := hnew
  replace g1 := (hne _ (by omega)).trans g1
  replace g2 := (hne _ (by omega)).trans g2
  replace g3 := (hne _ (by omega)).trans g3
  replace g4 := (hne _ (by omega)).trans g4
  replace g5 := (hne _ (by omega)).trans g5
  replace hfr := fun j (hj : j < k ∨ k + 6 ≤ j) => (hne j (by omega)).trans (hfr j hj)
  clear hne
  refine x_vret (pc := 15) dX0_clear_15 rfl ?_
  exact vo_i ⟨⟨hK, f1, f2, f3, f4, f5, g1, g2, g3, g4, g5, fun a h => absurd h (Nat.not_lt_zero a), fun a h => absurd h (Nat.not_lt_zero a)⟩, hfr⟩
/-- a copy of the court at s, made at k -/
theorem c_copyC {w : ax_W} {n k s : Nat} {C C0 : Crt} (hC : isC w k C0) (hs : isC w s C) (ok : okC C) (hks : k + 6 ≤ s ∨ s + 6 ≤ k) : Run m_X0_copyFrom 2 0 0 0 (l_ent m_X0_copyFrom [.ref k, .ref s]) [] w n (Vo (fun w' => isC w' k C ∧ sameW w w' k 6) n) := by
  obtain ⟨hK, f1, f2, f3, f4, f5, g1, g2, g3, g4, g5, -⟩ := hC
  obtain ⟨hS, e1, e2, e3, e4, e5, s1, s2, s3, s4, s5, s6, s7⟩ := hs
  have hn := ok.1
  have hp := ok.2.1
  have hfr : ∀ j, (j < k ∨ k + 6 ≤ j) → w j = w j := fun _ _ => rfl
  refine x_aload_n (pc := 0) dX0_copyFrom_0 rfl ?_
  refine x_getf (pc := 1) dX0_copyFrom_1 kf_X0_9 (by assumption) (by rfl) ?_
  refine x_iconst (pc := 4) dX0_copyFrom_4 (v := nI 0) (by decide) ?_
  refine x_aload_n (pc := 5) dX0_copyFrom_5 rfl ?_
  refine x_getf (pc := 6) dX0_copyFrom_6 kf_X0_9 (by assumption) (by rfl) ?_
  refine x_iconst (pc := 9) dX0_copyFrom_9 (v := nI 0) (by decide) ?_
  refine x_bipush (pc := 10) dX0_copyFrom_10 (v := nI 10) (by decide) ?_
  refine xw_copy (pc := 12) dX0_copyFrom_12 kA_X0_37 (by assumption) (by assumption) (by omega) (by omega) rfl (by omega) rfl (fun w hnew hne => ?_)
  replace hK := (hne _ (by omega)).trans hK
  replace g1 := hnew
  replace g2 := (hne _ (by omega)).trans g2
  replace g3 := (hne _ (by omega)).trans g3
  replace g4 := (hne _ (by omega)).trans g4
  replace g5 := (hne _ (by omega)).trans g5
  replace hS := (hne _ (by omega)).trans hS
  replace s1 := (hne _ (by omega)).trans s1
  replace s2 := (hne _ (by omega)).trans s2
  replace s3 := (hne _ (by omega)).trans s3
  replace s4 := (hne _ (by omega)).trans s4
  replace s5 := (hne _ (by omega)).trans s5
  replace hfr := fun j (hj : j < k ∨ k + 6 ≤ j) => (hne j (by omega)).trans (hfr j hj)
  clear hne
  refine x_aload_n (pc := 15) dX0_copyFrom_15 rfl ?_
  refine x_getf (pc := 16) dX0_copyFrom_16 kf_X0_15 (by assumption) (by rfl) ?_
  refine x_iconst (pc := 19) dX0_copyFrom_19 (v := nI 0) (by decide) ?_
  refine x_aload_n (pc := 20) dX0_copyFrom_20 rfl ?_
  refine x_getf (pc := 21) dX0_copyFrom_21 kf_X0_15 (by assumption) (by rfl) ?_
  refine x_iconst (pc := 24) dX0_copyFrom_24 (v := nI 0) (by decide) ?_
  refine x_bipush (pc := 25) dX0_copyFrom_25 (v := nI 10) (by decide) ?_
  refine xw_copy (pc := 27) dX0_copyFrom_27 kA_X0_37 (by assumption) (by assumption) (by omega) (by omega) rfl (by omega) rfl (fun w hnew hne => ?_)
  replace hK := (hne _ (by omega)).trans hK
  replace g1 := (hne _ (by omega)).trans g1
  replace g2 := hnew
  replace g3 := (hne _ (by omega)).trans g3
  replace g4 := (hne _ (by omega)).trans g4
  replace g5 := (hne _ (by omega)).trans g5
  replace hS := (hne _ (by omega)).trans hS
  replace s1 := (hne _ (by omega)).trans s1
  replace s2 := (hne _ (by omega)).trans s2
  replace s3 := (hne _ (by omega)).trans s3
  replace s4 := (hne _ (by omega)).trans s4
  replace s5 := (hne _ (by omega)).trans s5
  replace hfr := fun j (hj : j < k ∨ k + 6 ≤ j) => (hne j (by omega)).trans (hfr j hj)
  clear hne
  refine x_aload_n (pc := 30) dX0_copyFrom_30 rfl ?_
  refine x_getf (pc := 31) dX0_copyFrom_31 kf_X0_18 (by assumption) (by rfl) ?_
  refine x_iconst (pc := 34) dX0_copyFrom_34 (v := nI 0) (by decide) ?_
  refine x_aload_n (pc := 35) dX0_copyFrom_35 rfl ?_
  refine x_getf (pc := 36) dX0_copyFrom_36 kf_X0_18 (by assumption) (by rfl) ?_
  refine x_iconst (pc := 39) dX0_copyFrom_39 (v := nI 0) (by decide) ?_
  refine x_bipush (pc := 40) dX0_copyFrom_40 (v := nI 10) (by decide) ?_
  refine xw_copy (pc := 42) dX0_copyFrom_42 kA_X0_37 (by assumption) (by assumption) (by omega) (by omega) rfl (by omega) rfl (fun w hnew hne => ?_)
  replace hK := (hne _ (by omega)).trans hK
  replace g1 := (hne _ (by omega)).trans g1
  replace g2 := (hne _ (by omega)).trans g2
  replace g3 := hnew
  replace g4 := (hne _ (by omega)).trans g4
  replace g5 := (hne _ (by omega)).trans g5
  replace hS := (hne _ (by omega)).trans hS
  replace s1 := (hne _ (by omega)).trans s1
  replace s2 := (hne _ (by omega)).trans s2
  replace s3 := (hne _ (by omega)).trans s3
  replace s4 := (hne _ (by omega)).trans s4
  replace s5 := (hne _ (by omega)).trans s5
  replace hfr := fun j (hj : j < k ∨ k + 6 ≤ j) => (hne j (by omega)).trans (hfr j hj)
  clear hne
  refine x_aload_n (pc := 45) dX0_copyFrom_45 rfl ?_
  refine x_getf (pc := 46) dX0_copyFrom_46 kf_X0_21 (by assumption) (by rfl) ?_
  refine x_iconst (pc := 49) dX0_copyFrom_49 (v := nI 0) (by decide) ?_
  refine x_aload_n (pc := 50) dX0_copyFrom_50 rfl ?_
  refine x_getf (pc := 51) dX0_copyFrom_51 kf_X0_21 (by assumption) (by rfl) ?_
  refine x_iconst (pc := 54) dX0_copyFrom_54 (v := nI 0) (by decide) ?_
  refine x_bipush (pc := 55) dX0_copyFrom_55 (v := nI 10) (by decide) ?_
  refine xw_copy (pc := 57) dX0_copyFrom_57 kA_X0_37 (by assumption) (by assumption) (by omega) (by omega) rfl (by omega) rfl (fun w hnew hne => ?_)
  replace hK := (hne _ (by omega)).trans hK
  replace g1 := (hne _ (by omega)).trans g1
  replace g2 := (hne _ (by omega)).trans g2
  replace g3 := (hne _ (by omega)).trans g3
  replace g4 := hnew
  replace g5 := (hne _ (by omega)).trans g5
  replace hS := (hne _ (by omega)).trans hS
  replace s1 := (hne _ (by omega)).trans s1
  replace s2 := (hne _ (by omega)).trans s2
  replace s3 := (hne _ (by omega)).trans s3
  replace s4 := (hne _ (by omega)).trans s4
  replace s5 := (hne _ (by omega)).trans s5
  replace hfr := fun j (hj : j < k ∨ k + 6 ≤ j) => (hne j (by omega)).trans (hfr j hj)
  clear hne
  refine x_aload_n (pc := 60) dX0_copyFrom_60 rfl ?_
  refine x_getf (pc := 61) dX0_copyFrom_61 kf_X0_24 (by assumption) (by rfl) ?_
  refine x_iconst (pc := 64) dX0_copyFrom_64 (v := nI 0) (by decide) ?_
  refine x_aload_n (pc := 65) dX0_copyFrom_65 rfl ?_
  refine x_getf (pc := 66) dX0_copyFrom_66 kf_X0_24 (by assumption) (by rfl) ?_
  refine x_iconst (pc := 69) dX0_copyFrom_69 (v := nI 0) (by decide) ?_
  refine x_iconst (pc := 70) dX0_copyFrom_70 (v := nI 5) (by decide) ?_
  refine xw_copy (pc := 71) dX0_copyFrom_71 kA_X0_37 (by assumption) (by assumption) (by omega) (by omega) rfl (by omega) rfl (fun w hnew hne => ?_)
  replace hK := (hne _ (by omega)).trans hK
  replace g1 := (hne _ (by omega)).trans g1
  replace g2 := (hne _ (by omega)).trans g2
  replace g3 := (hne _ (by omega)).trans g3
  replace g4 := (hne _ (by omega)).trans g4
  replace g5 := hnew
  replace hS := (hne _ (by omega)).trans hS
  replace s1 := (hne _ (by omega)).trans s1
  replace s2 := (hne _ (by omega)).trans s2
  replace s3 := (hne _ (by omega)).trans s3
  replace s4 := (hne _ (by omega)).trans s4
  replace s5 := (hne _ (by omega)).trans s5
  replace hfr := fun j (hj : j < k ∨ k + 6 ≤ j) => (hne j (by omega)).trans (hfr j hj)
  clear hne
  refine x_aload_n (pc := 74) dX0_copyFrom_74 rfl ?_
  refine x_aload_n (pc := 75) dX0_copyFrom_75 rfl ?_
  refine x_getf (pc := 76) dX0_copyFrom_76 kf_X0_27 (by assumption) (by rfl) ?_
  refine xw_puti (pc := 79) dX0_copyFrom_79 kf_X0_27 (by assumption) (by rfl) (by rfl) rfl rfl (fun w hnew hne => ?_)
  replace hK := hnew
  replace g1 := (hne _ (by omega)).trans g1
  replace g2 := (hne _ (by omega)).trans g2
  replace g3 := (hne _ (by omega)).trans g3
  replace g4 := (hne _ (by omega)).trans g4
  replace g5 := (hne _ (by omega)).trans g5
  replace hS := (hne _ (by omega)).trans hS
  replace s1 := (hne _ (by omega)).trans s1
  replace s2 := (hne _ (by omega)).trans s2
  replace s3 := (hne _ (by omega)).trans s3
  replace s4 := (hne _ (by omega)).trans s4
  replace s5 := (hne _ (by omega)).trans s5
  replace hfr := fun j (hj : j < k ∨ k + 6 ≤ j) => (hne j (by omega)).trans (hfr j hj)
  clear hne
  refine x_aload_n (pc := 82) dX0_copyFrom_82 rfl ?_
  refine x_aload_n (pc := 83) dX0_copyFrom_83 rfl ?_
  refine x_getf (pc := 84) dX0_copyFrom_84 kf_X0_31 (by assumption) (by rfl) ?_
  refine xw_puti (pc := 87) dX0_copyFrom_87 kf_X0_31 (by assumption) (by rfl) (by rfl) rfl rfl (fun w hnew hne => ?_)
  replace hK := hnew
  replace g1 := (hne _ (by omega)).trans g1
  replace g2 := (hne _ (by omega)).trans g2
  replace g3 := (hne _ (by omega)).trans g3
  replace g4 := (hne _ (by omega)).trans g4
  replace g5 := (hne _ (by omega)).trans g5
  replace hS := (hne _ (by omega)).trans hS
  replace s1 := (hne _ (by omega)).trans s1
  replace s2 := (hne _ (by omega)).trans s2
  replace s3 := (hne _ (by omega)).trans s3
  replace s4 := (hne _ (by omega)).trans s4
  replace s5 := (hne _ (by omega)).trans s5
  replace hfr := fun j (hj : j < k ∨ k + 6 ≤ j) => (hne j (by omega)).trans (hfr j hj)
  clear hne
  refine x_aload_n (pc := 90) dX0_copyFrom_90 rfl ?_
  refine x_aload_n (pc := 91) dX0_copyFrom_91 rfl ?_
  refine x_getf (pc := 92) dX0_copyFrom_92 kf_X0_34 (by assumption) (by rfl) ?_
  refine xw_puti (pc := 95) dX0_copyFrom_95 kf_X0_34 (by assumption) (by rfl) (by rfl) rfl rfl (fun w hnew hne => ?_)
  replace hK := hnew
  replace g1 := (hne _ (by omega)).trans g1
  replace g2 := (hne _ (by omega)).trans g2
  replace g3 := (hne _ (by omega)).trans g3
  replace g4 := (hne _ (by omega)).trans g4
  replace g5 := (hne _ (by omega)).trans g5
  replace hS := (hne _ (by omega)).trans hS
  replace s1 := (hne _ (by omega)).trans s1
  replace s2 := (hne _ (by omega)).trans s2
  replace s3 := (hne _ (by omega)).trans s3
  replace s4 := (hne _ (by omega)).trans s4
  replace s5 := (hne _ (by omega)).trans s5
  replace hfr := fun j (hj : j < k ∨ k + 6 ≤ j) => (hne j (by omega)).trans (hfr j hj)
  clear hne
  refine x_vret (pc := 98) dX0_copyFrom_98 rfl ?_
  refine vo_i ⟨⟨hK, _, _, _, _, _, g1, g2, g3, g4, g5, fun a ha => ?_, fun p hp => ?_⟩, hfr⟩
  · have ha' : a < 10 := by omega
    simp only [if_pos ha']
    exact s6 a ha
  · have hp' : p < 5 := by omega
    simp only [if_pos hp']
    exact s7 p hp
/-- one more STATEMENT -/
def adS (C : Crt) (x y z : Nat) : Crt := (cn C + 1, fup (kd C) (cn C) x, fup (co C) (cn C) y, fup (sp C) (cn C) z, fup (hg C) (cn C) 0, vd C, np C, de C)
def okSt (C : Crt) (x y z : Nat) : Bool := decide (cn C < 10 ∧ x ≤ 4 ∧ y ≤ 20 ∧ z ≤ 20)
theorem okC_adS {C : Crt} (ok : okC C) {x y z : Nat} (h : okSt C x y z = true) : okC (adS C x y z) := by
  obtain ⟨h1, h2, h3, h4⟩ := of_decide_eq_true h
  have hpw : 2 ^ cn C < 2 ^ (cn C + 1) := pow_lt (by omega)
  obtain ⟨o1, o2, o3, o4, o5⟩ := ok
  refine ⟨?_, o2, ?_, fun a ha => ?_, fun p hp => ?_⟩
  · show cn C + 1 ≤ 10
    omega
  · show vd C < 2 ^ (cn C + 1)
    omega
  · have ha : a < cn C + 1 := ha
    show fup (kd C) (cn C) x a ≤ 4 ∧ fup (co C) (cn C) y a ≤ 20 ∧ fup (sp C) (cn C) z a ≤ 20 ∧ fup (hg C) (cn C) 0 a < 2 ^ (cn C + 1)
    by_cases hac : a = cn C
    · subst hac
      simp only [fup_same]
      exact ⟨h2, h3, h4, by omega⟩
    · simp only [fup_ne _ _ hac]
      have := o4 a (by omega)
      exact ⟨this.1, this.2.1, this.2.2.1, by omega⟩
  · show de C p < 2 ^ (cn C + 1)
    have := o5 p hp
    omega
theorem c_addStatement {w : ax_W} {n k : Nat} {C : Crt} (hC : isC w k C) (ok : okC C) {x y z : Nat} (hx : x < 100) (hy : y < 100) (hz : z < 100) : Run m_X0_addStatement 1 0 0 0 (l_ent m_X0_addStatement [.ref k, .int (nI x), .int (nI y), .int (nI z)]) [] w n (Va (fun v w' => v = .int (nI (bN (okSt C x y z))) ∧ isC w' k (if okSt C x y z then adS C x y z else C) ∧ sameW w w' k 6) n) := by
  have hC0 := hC
  obtain ⟨hK, f1, f2, f3, f4, f5, g1, g2, g3, g4, g5, g6, g7⟩ := hC
  have hn := ok.1
  have hfr : ∀ j, (j < k ∨ k + 6 ≤ j) → w j = w j := fun _ _ => rfl
  have ho : ∀ a b c : Nat, a < 100 → b < 100 → c < 100 → decide (nI a < nI b ∨ nI c < nI a) = decide (a < b ∨ c < a) := by
    intro a b c ha hb hc
    congr 1
    rw [n_lt (by omega) (by omega), n_lt (by omega) (by omega)]
  refine x_aload_n (pc := 0) dX0_addStatement_0 rfl ?_
  refine x_getf (pc := 1) dX0_addStatement_1 kf_X0_27 (by assumption) (by rfl) ?_
  refine x_bipush (pc := 4) dX0_addStatement_4 (v := nI 10) (by decide) ?_
  refine x_icmp_ge (pc := 6) dX0_addStatement_6 (tgt := 38) (by decide) (fun h_6 => ?_) (fun h_6 => ?_)
  · skip
    try first | rw [n_b1] at h_6 | rw [n_b00] at h_6 | rw [n_le (by omega) (by omega)] at h_6
    have hh : okSt C x y z = false := by simp [okSt]; omega
    refine x_iconst (pc := 38) dX0_addStatement_38 (v := nI 0) (by decide) ?_
    refine x_zret (pc := 39) dX0_addStatement_39 rfl (by first | decide | exact bN_lt _ | omega) ?_
    exact va_i ⟨by rw [hh]; rfl, by rw [hh]; exact hC0, fun _ _ => rfl⟩
  · skip
    try first | rw [n_b1] at h_6 | rw [n_b00] at h_6 | rw [n_le (by omega) (by omega)] at h_6
    refine x_iload_n (pc := 9) dX0_addStatement_9 rfl ?_
    refine x_iconst (pc := 10) dX0_addStatement_10 (v := nI 0) (by decide) ?_
    refine x_iconst (pc := 11) dX0_addStatement_11 (v := nI 4) (by decide) ?_
    refine x_cs3p (pc := 12) dX0_addStatement_12 ks_X0_43 (by omega) (by rfl) (by rfl) (by rfl) (c_outside _ _ _) ?_
    rw [ho _ _ _ hx (by decide) (by decide)]
    refine x_if_ne (pc := 15) dX0_addStatement_15 (tgt := 38) (by decide) (fun h_15 => ?_) (fun h_15 => ?_)
    · skip
      try first | rw [n_b0] at h_15 | rw [n_eq0 (by omega)] at h_15
      simp at h_15
      have hh : okSt C x y z = false := by simp [okSt]; omega
      refine x_iconst (pc := 38) dX0_addStatement_38 (v := nI 0) (by decide) ?_
      refine x_zret (pc := 39) dX0_addStatement_39 rfl (by first | decide | exact bN_lt _ | omega) ?_
      exact va_i ⟨by rw [hh]; rfl, by rw [hh]; exact hC0, fun _ _ => rfl⟩
    · replace h_15 := Classical.not_not.mp h_15
      try first | rw [n_b0] at h_15 | rw [n_eq0 (by omega)] at h_15
      simp at h_15
      refine x_iload_n (pc := 18) dX0_addStatement_18 rfl ?_
      refine x_iconst (pc := 19) dX0_addStatement_19 (v := nI 0) (by decide) ?_
      refine x_bipush (pc := 20) dX0_addStatement_20 (v := nI 20) (by decide) ?_
      refine x_cs3p (pc := 22) dX0_addStatement_22 ks_X0_43 (by omega) (by rfl) (by rfl) (by rfl) (c_outside _ _ _) ?_
      rw [ho _ _ _ hy (by decide) (by decide)]
      refine x_if_ne (pc := 25) dX0_addStatement_25 (tgt := 38) (by decide) (fun h_25 => ?_) (fun h_25 => ?_)
      · skip
        try first | rw [n_b0] at h_25 | rw [n_eq0 (by omega)] at h_25
        simp at h_25
        have hh : okSt C x y z = false := by simp [okSt]; omega
        refine x_iconst (pc := 38) dX0_addStatement_38 (v := nI 0) (by decide) ?_
        refine x_zret (pc := 39) dX0_addStatement_39 rfl (by first | decide | exact bN_lt _ | omega) ?_
        exact va_i ⟨by rw [hh]; rfl, by rw [hh]; exact hC0, fun _ _ => rfl⟩
      · replace h_25 := Classical.not_not.mp h_25
        try first | rw [n_b0] at h_25 | rw [n_eq0 (by omega)] at h_25
        simp at h_25
        refine x_iload_n (pc := 28) dX0_addStatement_28 rfl ?_
        refine x_iconst (pc := 29) dX0_addStatement_29 (v := nI 0) (by decide) ?_
        refine x_bipush (pc := 30) dX0_addStatement_30 (v := nI 20) (by decide) ?_
        refine x_cs3p (pc := 32) dX0_addStatement_32 ks_X0_43 (by omega) (by rfl) (by rfl) (by rfl) (c_outside _ _ _) ?_
        rw [ho _ _ _ hz (by decide) (by decide)]
        refine x_if_eq (pc := 35) dX0_addStatement_35 (tgt := 40) (by decide) (fun h_35 => ?_) (fun h_35 => ?_)
        · skip
          try first | rw [n_b0] at h_35 | rw [n_eq0 (by omega)] at h_35
          simp at h_35
          have hh : okSt C x y z = true := by simp [okSt]; omega
          refine x_aload_n (pc := 40) dX0_addStatement_40 rfl ?_
          refine x_getf (pc := 41) dX0_addStatement_41 kf_X0_9 (by assumption) (by rfl) ?_
          refine x_aload_n (pc := 44) dX0_addStatement_44 rfl ?_
          refine x_getf (pc := 45) dX0_addStatement_45 kf_X0_27 (by assumption) (by rfl) ?_
          refine x_iload_n (pc := 48) dX0_addStatement_48 rfl ?_
          refine x_cs3 (q1 := 0) (q2 := 0) (pc := 49) dX0_addStatement_49 ks_X0_47 (by omega) (by rfl) (by rfl) (by rfl) (c_put (by assumption) (by omega) (by omega)) (vo_kk fun w hP => ?_)
          obtain ⟨hnew, hne⟩ := hP
          replace hK := (hne _ (by omega)).trans hK
          replace g1 := hnew
          replace g2 := (hne _ (by omega)).trans g2
          replace g3 := (hne _ (by omega)).trans g3
          replace g4 := (hne _ (by omega)).trans g4
          replace g5 := (hne _ (by omega)).trans g5
          replace hfr := fun j (hj : j < k ∨ k + 6 ≤ j) => (hne j (by omega)).trans (hfr j hj)
          clear hne
          refine x_aload_n (pc := 52) dX0_addStatement_52 rfl ?_
          refine x_getf (pc := 53) dX0_addStatement_53 kf_X0_15 (by assumption) (by rfl) ?_
          refine x_aload_n (pc := 56) dX0_addStatement_56 rfl ?_
          refine x_getf (pc := 57) dX0_addStatement_57 kf_X0_27 (by assumption) (by rfl) ?_
          refine x_iload_n (pc := 60) dX0_addStatement_60 rfl ?_
          refine x_cs3 (q1 := 0) (q2 := 0) (pc := 61) dX0_addStatement_61 ks_X0_47 (by omega) (by rfl) (by rfl) (by rfl) (c_put (by assumption) (by omega) (by omega)) (vo_kk fun w hP => ?_)
          obtain ⟨hnew, hne⟩ := hP
          replace hK := (hne _ (by omega)).trans hK
          replace g1 := (hne _ (by omega)).trans g1
          replace g2 := hnew
          replace g3 := (hne _ (by omega)).trans g3
          replace g4 := (hne _ (by omega)).trans g4
          replace g5 := (hne _ (by omega)).trans g5
          replace hfr := fun j (hj : j < k ∨ k + 6 ≤ j) => (hne j (by omega)).trans (hfr j hj)
          clear hne
          refine x_aload_n (pc := 64) dX0_addStatement_64 rfl ?_
          refine x_getf (pc := 65) dX0_addStatement_65 kf_X0_18 (by assumption) (by rfl) ?_
          refine x_aload_n (pc := 68) dX0_addStatement_68 rfl ?_
          refine x_getf (pc := 69) dX0_addStatement_69 kf_X0_27 (by assumption) (by rfl) ?_
          refine x_iload_n (pc := 72) dX0_addStatement_72 rfl ?_
          refine x_cs3 (q1 := 0) (q2 := 0) (pc := 73) dX0_addStatement_73 ks_X0_47 (by omega) (by rfl) (by rfl) (by rfl) (c_put (by assumption) (by omega) (by omega)) (vo_kk fun w hP => ?_)
          obtain ⟨hnew, hne⟩ := hP
          replace hK := (hne _ (by omega)).trans hK
          replace g1 := (hne _ (by omega)).trans g1
          replace g2 := (hne _ (by omega)).trans g2
          replace g3 := hnew
          replace g4 := (hne _ (by omega)).trans g4
          replace g5 := (hne _ (by omega)).trans g5
          replace hfr := fun j (hj : j < k ∨ k + 6 ≤ j) => (hne j (by omega)).trans (hfr j hj)
          clear hne
          refine x_aload_n (pc := 76) dX0_addStatement_76 rfl ?_
          refine x_getf (pc := 77) dX0_addStatement_77 kf_X0_21 (by assumption) (by rfl) ?_
          refine x_aload_n (pc := 80) dX0_addStatement_80 rfl ?_
          refine x_getf (pc := 81) dX0_addStatement_81 kf_X0_27 (by assumption) (by rfl) ?_
          refine x_iconst (pc := 84) dX0_addStatement_84 (v := nI 0) (by decide) ?_
          refine x_cs3 (q1 := 0) (q2 := 0) (pc := 85) dX0_addStatement_85 ks_X0_47 (by omega) (by rfl) (by rfl) (by rfl) (c_put (by assumption) (by omega) (by omega)) (vo_kk fun w hP => ?_)
          obtain ⟨hnew, hne⟩ := hP
          replace hK := (hne _ (by omega)).trans hK
          replace g1 := (hne _ (by omega)).trans g1
          replace g2 := (hne _ (by omega)).trans g2
          replace g3 := (hne _ (by omega)).trans g3
          replace g4 := hnew
          replace g5 := (hne _ (by omega)).trans g5
          replace hfr := fun j (hj : j < k ∨ k + 6 ≤ j) => (hne j (by omega)).trans (hfr j hj)
          clear hne
          refine x_aload_n (pc := 88) dX0_addStatement_88 rfl ?_
          refine x_dup (pc := 89) dX0_addStatement_89 rfl ?_
          refine x_getf (pc := 90) dX0_addStatement_90 kf_X0_27 (by assumption) (by rfl) ?_
          refine x_iconst (pc := 93) dX0_addStatement_93 (v := nI 1) (by decide) ?_
          first | refine xn_iadd (pc := 94) dX0_addStatement_94 ?_ | refine x_iadd (pc := 94) dX0_addStatement_94 ?_
          refine xw_puti (pc := 95) dX0_addStatement_95 kf_X0_27 (by assumption) (by rfl) (by rfl) rfl rfl (fun w hnew hne => ?_)
          replace hK := hnew
          replace g1 := (hne _ (by omega)).trans g1
          replace g2 := (hne _ (by omega)).trans g2
          replace g3 := (hne _ (by omega)).trans g3
          replace g4 := (hne _ (by omega)).trans g4
          replace g5 := (hne _ (by omega)).trans g5
          replace hfr := fun j (hj : j < k ∨ k + 6 ≤ j) => (hne j (by omega)).trans (hfr j hj)
          clear hne
          refine x_iconst (pc := 98) dX0_addStatement_98 (v := nI 1) (by decide) ?_
          refine x_zret (pc := 99) dX0_addStatement_99 rfl (by first | decide | exact bN_lt _ | omega) ?_
          refine va_i ⟨by rw [hh]; rfl, ?_, hfr⟩
          rw [hh, if_pos rfl]
          refine ⟨hK, _, _, _, _, _, g1, g2, g3, g4, g5, fun a ha => ?_, g7⟩
          have ha : a < cn C + 1 := ha
          show upd f1 (cn C) (nI x) a = nI (fup (kd C) (cn C) x a) ∧ upd f2 (cn C) (nI y) a = nI (fup (co C) (cn C) y a) ∧ upd f3 (cn C) (nI z) a = nI (fup (sp C) (cn C) z a) ∧ upd f4 (cn C) (nI 0) a = nI (fup (hg C) (cn C) 0 a)
          by_cases hac : a = cn C
          · subst hac
            simp only [fup_same, upd_same, and_self]
          · simp only [fup_ne _ _ hac, upd_ne _ _ hac]
            exact g6 a (by omega)
        · skip
          try first | rw [n_b0] at h_35 | rw [n_eq0 (by omega)] at h_35
          simp at h_35
          have hh : okSt C x y z = false := by simp [okSt]; omega
          refine x_iconst (pc := 38) dX0_addStatement_38 (v := nI 0) (by decide) ?_
          refine x_zret (pc := 39) dX0_addStatement_39 rfl (by first | decide | exact bN_lt _ | omega) ?_
          exact va_i ⟨by rw [hh]; rfl, by rw [hh]; exact hC0, fun _ _ => rfl⟩
/-- one more VERDICT -/
def adV (C : Crt) (x : Nat) : Crt := (cn C, kd C, co C, sp C, hg C, vd C ||| 2 ^ x, np C, de C)
def okVd (C : Crt) (x : Nat) : Bool := decide (x < cn C ∧ ¬ kd C x = 4)
theorem okC_adV {C : Crt} (ok : okC C) {x : Nat} (h : okVd C x = true) : okC (adV C x) := by
  obtain ⟨h1, h2⟩ := of_decide_eq_true h
  obtain ⟨o1, o2, o3, o4, o5⟩ := ok
  exact ⟨o1, o2, Nat.or_lt_two_pow o3 (pow_lt h1), o4, o5⟩
theorem c_addVerdict {w : ax_W} {n k : Nat} {C : Crt} (hC : isC w k C) (ok : okC C) {x : Nat} (hx : x < 100) : Run m_X0_addVerdict 2 0 0 0 (l_ent m_X0_addVerdict [.ref k, .int (nI x)]) [] w n (Va (fun v w' => v = .int (nI (bN (okVd C x))) ∧ isC w' k (if okVd C x then adV C x else C) ∧ sameW w w' k 6) n) := by
  have hC0 := hC
  obtain ⟨hK, f1, f2, f3, f4, f5, g1, g2, g3, g4, g5, g6, g7⟩ := hC
  have hn := ok.1
  have hfr : ∀ j, (j < k ∨ k + 6 ≤ j) → w j = w j := fun _ _ => rfl
  refine x_aload_n (pc := 0) dX0_addVerdict_0 rfl ?_
  refine x_iload_n (pc := 1) dX0_addVerdict_1 rfl ?_
  refine x_cv1p (ci := 0) (pc := 2) dX0_addVerdict_2 ks_X0_51 (by assumption) (by rfl) (by omega) (by rfl) (by rfl) (by rfl) (c_isStatement hC0 _) ?_
  rw [inB_n (by omega) (by omega)]
  refine x_if_eq (pc := 5) dX0_addVerdict_5 (tgt := 16) (by decide) (fun h_5 => ?_) (fun h_5 => ?_)
  · skip
    try first | rw [n_b0] at h_5 | rw [n_eq0 (by omega)] at h_5
    simp at h_5
    have hh : okVd C x = false := by simp [okVd]; omega
    refine x_iconst (pc := 16) dX0_addVerdict_16 (v := nI 0) (by decide) ?_
    refine x_zret (pc := 17) dX0_addVerdict_17 rfl (by first | decide | exact bN_lt _ | omega) ?_
    exact va_i ⟨by rw [hh]; rfl, by rw [hh]; exact hC0, fun _ _ => rfl⟩
  · skip
    try first | rw [n_b0] at h_5 | rw [n_eq0 (by omega)] at h_5
    simp at h_5
    refine x_aload_n (pc := 8) dX0_addVerdict_8 rfl ?_
    refine x_iload_n (pc := 9) dX0_addVerdict_9 rfl ?_
    refine x_cv1p (ci := 0) (pc := 10) dX0_addVerdict_10 ks_X0_55 (by assumption) (by rfl) (by omega) (by rfl) (by rfl) (by rfl) (c_isNight hC0 ok _) ?_
    rw [ntB_n ok h_5]
    refine x_if_eq (pc := 13) dX0_addVerdict_13 (tgt := 18) (by decide) (fun h_13 => ?_) (fun h_13 => ?_)
    · skip
      try first | rw [n_b0] at h_13 | rw [n_eq0 (by omega)] at h_13
      simp at h_13
      have hh : okVd C x = true := by simp [okVd]; omega
      refine x_aload_n (pc := 18) dX0_addVerdict_18 rfl ?_
      refine x_dup (pc := 19) dX0_addVerdict_19 rfl ?_
      refine x_getf (pc := 20) dX0_addVerdict_20 kf_X0_31 (by assumption) (by rfl) ?_
      refine x_iload_n (pc := 23) dX0_addVerdict_23 rfl ?_
      refine x_cs1p (pc := 24) dX0_addVerdict_24 ks_X0_58 (by omega) (by rfl) (by rfl) (by rfl) (c_bit (by omega)) ?_
      first | refine xn_ior (pc := 27) dX0_addVerdict_27 ?_ | refine x_ior (pc := 27) dX0_addVerdict_27 ?_
      refine xw_puti (pc := 28) dX0_addVerdict_28 kf_X0_31 (by assumption) (by rfl) (by rfl) rfl rfl (fun w hnew hne => ?_)
      replace hK := hnew
      replace g1 := (hne _ (by omega)).trans g1
      replace g2 := (hne _ (by omega)).trans g2
      replace g3 := (hne _ (by omega)).trans g3
      replace g4 := (hne _ (by omega)).trans g4
      replace g5 := (hne _ (by omega)).trans g5
      replace hfr := fun j (hj : j < k ∨ k + 6 ≤ j) => (hne j (by omega)).trans (hfr j hj)
      clear hne
      refine x_iconst (pc := 31) dX0_addVerdict_31 (v := nI 1) (by decide) ?_
      refine x_zret (pc := 32) dX0_addVerdict_32 rfl (by first | decide | exact bN_lt _ | omega) ?_
      refine va_i ⟨by rw [hh]; rfl, ?_, hfr⟩
      rw [hh, if_pos rfl]
      exact ⟨hK, _, _, _, _, _, g1, g2, g3, g4, g5, g6, g7⟩
    · skip
      try first | rw [n_b0] at h_13 | rw [n_eq0 (by omega)] at h_13
      simp at h_13
      have hh : okVd C x = false := by simp [okVd]; omega
      refine x_iconst (pc := 16) dX0_addVerdict_16 (v := nI 0) (by decide) ?_
      refine x_zret (pc := 17) dX0_addVerdict_17 rfl (by first | decide | exact bN_lt _ | omega) ?_
      exact va_i ⟨by rw [hh]; rfl, by rw [hh]; exact hC0, fun _ _ => rfl⟩
/-- A HANGS ON B -/
def adH (C : Crt) (x y : Nat) : Crt := (cn C, kd C, co C, sp C, fup (hg C) x (hg C x ||| 2 ^ y), vd C, np C, de C)
def okHg (C : Crt) (x y : Nat) : Bool := decide (x < cn C ∧ y < cn C ∧ ¬ x = y ∧ ¬ kd C x = 4)
theorem okC_adH {C : Crt} (ok : okC C) {x y : Nat} (h : okHg C x y = true) : okC (adH C x y) := by
  obtain ⟨h1, h2, h3, h4⟩ := of_decide_eq_true h
  obtain ⟨o1, o2, o3, o4, o5⟩ := ok
  refine ⟨o1, o2, o3, fun a ha => ⟨(o4 a ha).1, (o4 a ha).2.1, (o4 a ha).2.2.1, ?_⟩, o5⟩
  show fup (hg C) x (hg C x ||| 2 ^ y) a < 2 ^ cn C
  by_cases hax : a = x
  · subst hax
    rw [fup_same]
    exact Nat.or_lt_two_pow (o4 a ha).2.2.2 (pow_lt h2)
  · rw [fup_ne _ _ hax]
    exact (o4 a ha).2.2.2
theorem c_addHang {w : ax_W} {n k : Nat} {C : Crt} (hC : isC w k C) (ok : okC C) {x y : Nat} (hx : x < 100) (hy : y < 100) : Run m_X0_addHang 2 0 0 0 (l_ent m_X0_addHang [.ref k, .int (nI x), .int (nI y)]) [] w n (Va (fun v w' => v = .int (nI (bN (okHg C x y))) ∧ isC w' k (if okHg C x y then adH C x y else C) ∧ sameW w w' k 6) n) := by
  have hC0 := hC
  obtain ⟨hK, f1, f2, f3, f4, f5, g1, g2, g3, g4, g5, g6, g7⟩ := hC
  have hn := ok.1
  have hfr : ∀ j, (j < k ∨ k + 6 ≤ j) → w j = w j := fun _ _ => rfl
  refine x_aload_n (pc := 0) dX0_addHang_0 rfl ?_
  refine x_iload_n (pc := 1) dX0_addHang_1 rfl ?_
  refine x_cv1p (ci := 0) (pc := 2) dX0_addHang_2 ks_X0_51 (by assumption) (by rfl) (by omega) (by rfl) (by rfl) (by rfl) (c_isStatement hC0 _) ?_
  rw [inB_n (by omega) (by omega)]
  refine x_if_eq (pc := 5) dX0_addHang_5 (tgt := 29) (by decide) (fun h_5 => ?_) (fun h_5 => ?_)
  · skip
    try first | rw [n_b0] at h_5 | rw [n_eq0 (by omega)] at h_5
    simp at h_5
    have hh : okHg C x y = false := by simp [okHg]; omega
    refine x_iconst (pc := 29) dX0_addHang_29 (v := nI 0) (by decide) ?_
    refine x_zret (pc := 30) dX0_addHang_30 rfl (by first | decide | exact bN_lt _ | omega) ?_
    exact va_i ⟨by rw [hh]; rfl, by rw [hh]; exact hC0, fun _ _ => rfl⟩
  · skip
    try first | rw [n_b0] at h_5 | rw [n_eq0 (by omega)] at h_5
    simp at h_5
    refine x_aload_n (pc := 8) dX0_addHang_8 rfl ?_
    refine x_iload_n (pc := 9) dX0_addHang_9 rfl ?_
    refine x_cv1p (ci := 0) (pc := 10) dX0_addHang_10 ks_X0_51 (by assumption) (by rfl) (by omega) (by rfl) (by rfl) (by rfl) (c_isStatement hC0 _) ?_
    rw [inB_n (by omega) (by omega)]
    refine x_if_eq (pc := 13) dX0_addHang_13 (tgt := 29) (by decide) (fun h_13 => ?_) (fun h_13 => ?_)
    · skip
      try first | rw [n_b0] at h_13 | rw [n_eq0 (by omega)] at h_13
      simp at h_13
      have hh : okHg C x y = false := by simp [okHg]; omega
      refine x_iconst (pc := 29) dX0_addHang_29 (v := nI 0) (by decide) ?_
      refine x_zret (pc := 30) dX0_addHang_30 rfl (by first | decide | exact bN_lt _ | omega) ?_
      exact va_i ⟨by rw [hh]; rfl, by rw [hh]; exact hC0, fun _ _ => rfl⟩
    · skip
      try first | rw [n_b0] at h_13 | rw [n_eq0 (by omega)] at h_13
      simp at h_13
      refine x_iload_n (pc := 16) dX0_addHang_16 rfl ?_
      refine x_iload_n (pc := 17) dX0_addHang_17 rfl ?_
      refine x_icmp_eq (pc := 18) dX0_addHang_18 (tgt := 29) (by decide) (fun h_18 => ?_) (fun h_18 => ?_)
      · skip
        try first | rw [n_b1] at h_18 | rw [n_b00] at h_18 | rw [n_eq (by omega) (by omega)] at h_18
        have hh : okHg C x y = false := by simp [okHg]; omega
        refine x_iconst (pc := 29) dX0_addHang_29 (v := nI 0) (by decide) ?_
        refine x_zret (pc := 30) dX0_addHang_30 rfl (by first | decide | exact bN_lt _ | omega) ?_
        exact va_i ⟨by rw [hh]; rfl, by rw [hh]; exact hC0, fun _ _ => rfl⟩
      · skip
        try first | rw [n_b1] at h_18 | rw [n_b00] at h_18 | rw [n_eq (by omega) (by omega)] at h_18
        refine x_aload_n (pc := 21) dX0_addHang_21 rfl ?_
        refine x_iload_n (pc := 22) dX0_addHang_22 rfl ?_
        refine x_cv1p (ci := 0) (pc := 23) dX0_addHang_23 ks_X0_55 (by assumption) (by rfl) (by omega) (by rfl) (by rfl) (by rfl) (c_isNight hC0 ok _) ?_
        rw [ntB_n ok h_5]
        refine x_if_eq (pc := 26) dX0_addHang_26 (tgt := 31) (by decide) (fun h_26 => ?_) (fun h_26 => ?_)
        · skip
          try first | rw [n_b0] at h_26 | rw [n_eq0 (by omega)] at h_26
          simp at h_26
          have hh : okHg C x y = true := by simp [okHg]; omega
          refine x_aload_n (pc := 31) dX0_addHang_31 rfl ?_
          refine x_getf (pc := 32) dX0_addHang_32 kf_X0_21 (by assumption) (by rfl) ?_
          refine x_iload_n (pc := 35) dX0_addHang_35 rfl ?_
          refine x_aload_n (pc := 36) dX0_addHang_36 rfl ?_
          refine x_getf (pc := 37) dX0_addHang_37 kf_X0_21 (by assumption) (by rfl) ?_
          refine x_iload_n (pc := 40) dX0_addHang_40 rfl ?_
          refine x_cs2p (pc := 41) dX0_addHang_41 ks_X0_62 (by omega) (by rfl) (by rfl) (by rfl) (c_at (by assumption) (by omega) (by omega)) ?_
          rw [(g6 x h_5).2.2.2]
          refine x_iload_n (pc := 44) dX0_addHang_44 rfl ?_
          refine x_cs1p (pc := 45) dX0_addHang_45 ks_X0_58 (by omega) (by rfl) (by rfl) (by rfl) (c_bit (by omega)) ?_
          first | refine xn_ior (pc := 48) dX0_addHang_48 ?_ | refine x_ior (pc := 48) dX0_addHang_48 ?_
          refine x_cs3 (q1 := 0) (q2 := 0) (pc := 49) dX0_addHang_49 ks_X0_47 (by omega) (by rfl) (by rfl) (by rfl) (c_put (by assumption) (by omega) (by omega)) (vo_kk fun w hP => ?_)
          obtain ⟨hnew, hne⟩ := hP
          replace hK := (hne _ (by omega)).trans hK
          replace g1 := (hne _ (by omega)).trans g1
          replace g2 := (hne _ (by omega)).trans g2
          replace g3 := (hne _ (by omega)).trans g3
          replace g4 := hnew
          replace g5 := (hne _ (by omega)).trans g5
          replace hfr := fun j (hj : j < k ∨ k + 6 ≤ j) => (hne j (by omega)).trans (hfr j hj)
          clear hne
          refine x_iconst (pc := 52) dX0_addHang_52 (v := nI 1) (by decide) ?_
          refine x_zret (pc := 53) dX0_addHang_53 rfl (by first | decide | exact bN_lt _ | omega) ?_
          refine va_i ⟨by rw [hh]; rfl, ?_, hfr⟩
          rw [hh, if_pos rfl]
          refine ⟨hK, _, _, _, _, _, g1, g2, g3, g4, g5, fun a ha => ⟨(g6 a ha).1, (g6 a ha).2.1, (g6 a ha).2.2.1, ?_⟩, g7⟩
          show upd f4 x (nI (hg C x ||| 2 ^ y)) a = nI (fup (hg C) x (hg C x ||| 2 ^ y) a)
          by_cases hax : a = x
          · subst hax
            rw [fup_same, upd_same]
          · rw [fup_ne _ _ hax, upd_ne _ _ hax]
            exact (g6 a ha).2.2.2
        · skip
          try first | rw [n_b0] at h_26 | rw [n_eq0 (by omega)] at h_26
          simp at h_26
          have hh : okHg C x y = false := by simp [okHg]; omega
          refine x_iconst (pc := 29) dX0_addHang_29 (v := nI 0) (by decide) ?_
          refine x_zret (pc := 30) dX0_addHang_30 rfl (by first | decide | exact bN_lt _ | omega) ?_
          exact va_i ⟨by rw [hh]; rfl, by rw [hh]; exact hC0, fun _ _ => rfl⟩
/-- one more PERSON -/
def adP (C : Crt) (x y : Nat) : Crt := (cn C, kd C, co C, sp C, hg C, vd C, np C + 1, fup (de C) (np C) (2 ^ x ||| 2 ^ y))
def okPn (C : Crt) (x y : Nat) : Bool := decide (np C < 5 ∧ x < cn C ∧ kd C x = 4 ∧ y < cn C ∧ kd C y = 4)
theorem okC_adP {C : Crt} (ok : okC C) {x y : Nat} (h : okPn C x y = true) : okC (adP C x y) := by
  obtain ⟨h1, h2, h3, h4, h5⟩ := of_decide_eq_true h
  obtain ⟨o1, o2, o3, o4, o5⟩ := ok
  refine ⟨o1, ?_, o3, o4, fun p hp => ?_⟩
  · show np C + 1 ≤ 5
    omega
  · have hp : p < np C + 1 := hp
    show fup (de C) (np C) (2 ^ x ||| 2 ^ y) p < 2 ^ cn C
    by_cases hpp : p = np C
    · subst hpp
      rw [fup_same]
      exact Nat.or_lt_two_pow (pow_lt h2) (pow_lt h4)
    · rw [fup_ne _ _ hpp]
      exact o5 p (by omega)
theorem ntB_nat {C : Crt} (ok : okC C) {x : Nat} (hx : x < 100) : ntB C (nI x) = decide (x < cn C ∧ kd C x = 4) := by
  have := ok.1
  unfold ntB
  rw [inB_n (by omega) (by omega), n_cl (by omega)]
  simp
theorem c_addPerson {w : ax_W} {n k : Nat} {C : Crt} (hC : isC w k C) (ok : okC C) {x y : Nat} (hx : x < 100) (hy : y < 100) : Run m_X0_addPerson 2 0 0 0 (l_ent m_X0_addPerson [.ref k, .int (nI x), .int (nI y)]) [] w n (Va (fun v w' => v = .int (nI (bN (okPn C x y))) ∧ isC w' k (if okPn C x y then adP C x y else C) ∧ sameW w w' k 6) n) := by
  have hC0 := hC
  obtain ⟨hK, f1, f2, f3, f4, f5, g1, g2, g3, g4, g5, g6, g7⟩ := hC
  have hn := ok.1
  have hp5 := ok.2.1
  have hfr : ∀ j, (j < k ∨ k + 6 ≤ j) → w j = w j := fun _ _ => rfl
  refine x_aload_n (pc := 0) dX0_addPerson_0 rfl ?_
  refine x_getf (pc := 1) dX0_addPerson_1 kf_X0_34 (by assumption) (by rfl) ?_
  refine x_iconst (pc := 4) dX0_addPerson_4 (v := nI 5) (by decide) ?_
  refine x_icmp_ge (pc := 5) dX0_addPerson_5 (tgt := 24) (by decide) (fun h_5 => ?_) (fun h_5 => ?_)
  · skip
    try first | rw [n_b1] at h_5 | rw [n_b00] at h_5 | rw [n_le (by omega) (by omega)] at h_5
    have hh : okPn C x y = false := by simp [okPn]; omega
    refine x_iconst (pc := 24) dX0_addPerson_24 (v := nI 0) (by decide) ?_
    refine x_zret (pc := 25) dX0_addPerson_25 rfl (by first | decide | exact bN_lt _ | omega) ?_
    exact va_i ⟨by rw [hh]; rfl, by rw [hh]; exact hC0, fun _ _ => rfl⟩
  · skip
    try first | rw [n_b1] at h_5 | rw [n_b00] at h_5 | rw [n_le (by omega) (by omega)] at h_5
    refine x_aload_n (pc := 8) dX0_addPerson_8 rfl ?_
    refine x_iload_n (pc := 9) dX0_addPerson_9 rfl ?_
    refine x_cv1p (ci := 0) (pc := 10) dX0_addPerson_10 ks_X0_55 (by assumption) (by rfl) (by omega) (by rfl) (by rfl) (by rfl) (c_isNight hC0 ok _) ?_
    rw [ntB_nat ok hx]
    refine x_if_eq (pc := 13) dX0_addPerson_13 (tgt := 24) (by decide) (fun h_13 => ?_) (fun h_13 => ?_)
    · skip
      try first | rw [n_b0] at h_13 | rw [n_eq0 (by omega)] at h_13
      simp at h_13
      have hh : okPn C x y = false := by simp [okPn]; omega
      refine x_iconst (pc := 24) dX0_addPerson_24 (v := nI 0) (by decide) ?_
      refine x_zret (pc := 25) dX0_addPerson_25 rfl (by first | decide | exact bN_lt _ | omega) ?_
      exact va_i ⟨by rw [hh]; rfl, by rw [hh]; exact hC0, fun _ _ => rfl⟩
    · skip
      try first | rw [n_b0] at h_13 | rw [n_eq0 (by omega)] at h_13
      simp at h_13
      refine x_aload_n (pc := 16) dX0_addPerson_16 rfl ?_
      refine x_iload_n (pc := 17) dX0_addPerson_17 rfl ?_
      refine x_cv1p (ci := 0) (pc := 18) dX0_addPerson_18 ks_X0_55 (by assumption) (by rfl) (by omega) (by rfl) (by rfl) (by rfl) (c_isNight hC0 ok _) ?_
      rw [ntB_nat ok hy]
      refine x_if_ne (pc := 21) dX0_addPerson_21 (tgt := 26) (by decide) (fun h_21 => ?_) (fun h_21 => ?_)
      · skip
        try first | rw [n_b0] at h_21 | rw [n_eq0 (by omega)] at h_21
        simp at h_21
        have hh : okPn C x y = true := by simp [okPn]; omega
        refine x_aload_n (pc := 26) dX0_addPerson_26 rfl ?_
        refine x_getf (pc := 27) dX0_addPerson_27 kf_X0_24 (by assumption) (by rfl) ?_
        refine x_aload_n (pc := 30) dX0_addPerson_30 rfl ?_
        refine x_getf (pc := 31) dX0_addPerson_31 kf_X0_34 (by assumption) (by rfl) ?_
        refine x_iload_n (pc := 34) dX0_addPerson_34 rfl ?_
        refine x_cs1p (pc := 35) dX0_addPerson_35 ks_X0_58 (by omega) (by rfl) (by rfl) (by rfl) (c_bit (by omega)) ?_
        refine x_iload_n (pc := 38) dX0_addPerson_38 rfl ?_
        refine x_cs1p (pc := 39) dX0_addPerson_39 ks_X0_58 (by omega) (by rfl) (by rfl) (by rfl) (c_bit (by omega)) ?_
        first | refine xn_ior (pc := 42) dX0_addPerson_42 ?_ | refine x_ior (pc := 42) dX0_addPerson_42 ?_
        refine x_cs3 (q1 := 0) (q2 := 0) (pc := 43) dX0_addPerson_43 ks_X0_47 (by omega) (by rfl) (by rfl) (by rfl) (c_put (by assumption) (by omega) (by omega)) (vo_kk fun w hP => ?_)
        obtain ⟨hnew, hne⟩ := hP
        replace hK := (hne _ (by omega)).trans hK
        replace g1 := (hne _ (by omega)).trans g1
        replace g2 := (hne _ (by omega)).trans g2
        replace g3 := (hne _ (by omega)).trans g3
        replace g4 := (hne _ (by omega)).trans g4
        replace g5 := hnew
        replace hfr := fun j (hj : j < k ∨ k + 6 ≤ j) => (hne j (by omega)).trans (hfr j hj)
        clear hne
        refine x_aload_n (pc := 46) dX0_addPerson_46 rfl ?_
        refine x_dup (pc := 47) dX0_addPerson_47 rfl ?_
        refine x_getf (pc := 48) dX0_addPerson_48 kf_X0_34 (by assumption) (by rfl) ?_
        refine x_iconst (pc := 51) dX0_addPerson_51 (v := nI 1) (by decide) ?_
        first | refine xn_iadd (pc := 52) dX0_addPerson_52 ?_ | refine x_iadd (pc := 52) dX0_addPerson_52 ?_
        refine xw_puti (pc := 53) dX0_addPerson_53 kf_X0_34 (by assumption) (by rfl) (by rfl) rfl rfl (fun w hnew hne => ?_)
        replace hK := hnew
        replace g1 := (hne _ (by omega)).trans g1
        replace g2 := (hne _ (by omega)).trans g2
        replace g3 := (hne _ (by omega)).trans g3
        replace g4 := (hne _ (by omega)).trans g4
        replace g5 := (hne _ (by omega)).trans g5
        replace hfr := fun j (hj : j < k ∨ k + 6 ≤ j) => (hne j (by omega)).trans (hfr j hj)
        clear hne
        refine x_iconst (pc := 56) dX0_addPerson_56 (v := nI 1) (by decide) ?_
        refine x_zret (pc := 57) dX0_addPerson_57 rfl (by first | decide | exact bN_lt _ | omega) ?_
        refine va_i ⟨by rw [hh]; rfl, ?_, hfr⟩
        rw [hh, if_pos rfl]
        refine ⟨hK, _, _, _, _, _, g1, g2, g3, g4, g5, g6, fun p hp => ?_⟩
        have hp : p < np C + 1 := hp
        show upd f5 (np C) (nI (2 ^ x ||| 2 ^ y)) p = nI (fup (de C) (np C) (2 ^ x ||| 2 ^ y) p)
        by_cases hpp : p = np C
        · subst hpp
          rw [fup_same, upd_same]
        · rw [fup_ne _ _ hpp, upd_ne _ _ hpp]
          exact g7 p (by omega)
      · replace h_21 := Classical.not_not.mp h_21
        try first | rw [n_b0] at h_21 | rw [n_eq0 (by omega)] at h_21
        simp at h_21
        have hh : okPn C x y = false := by simp [okPn]; omega
        refine x_iconst (pc := 24) dX0_addPerson_24 (v := nI 0) (by decide) ?_
        refine x_zret (pc := 25) dX0_addPerson_25 rfl (by first | decide | exact bN_lt _ | omega) ?_
        exact va_i ⟨by rw [hh]; rfl, by rw [hh]; exact hC0, fun _ _ => rfl⟩
/-- what can come behind 'last' in a row of the STATEMENTS 'ch', with 'sk' STRUCK OUT -/
def opn (C : Crt) (last ch sk : Nat) : Nat := nd (nd (hg C last) ch) sk
theorem opn_lt {C : Crt} (ok : okC C) {last ch sk : Nat} (h : last < cn C) : opn C last ch sk < 2 ^ cn C := nd_lt (nd_lt (ok.2.2.2.1 last h).2.2.2)
theorem opn_1024 {C : Crt} (ok : okC C) {last ch sk : Nat} (h : last < cn C) : opn C last ch sk < 1024 := nd_lt (nd_lt (ok.hg h))
theorem opn_bit {C : Crt} (ok : okC C) {last ch sk : Nat} (h : last < cn C) (a : Nat) : (opn C last ch sk).testBit a = ((hg C last).testBit a && !ch.testBit a && !sk.testBit a) := by
  have := ok.hg h
  unfold opn
  rw [nd_bit (nd_lt (by omega)), nd_bit (by omega)]
theorem c_openBehind {w : ax_W} {n k : Nat} {C : Crt} (hC : isC w k C) (ok : okC C) {last ch sk : Nat} (hl : last < cn C) : Run m_X6_openBehind 1 0 0 0 (l_ent m_X6_openBehind [.ref k, .int (nI last), .int (nI ch), .int (nI sk)]) [] w n (Pu (.int (nI (opn C last ch sk))) w n) := by
  obtain ⟨hK, f1, f2, f3, f4, f5, g1, g2, g3, g4, g5, g6, g7⟩ := hC
  have hn := ok.1
  refine x_aload_n (pc := 0) dX6_openBehind_0 rfl ?_
  refine x_getf (pc := 1) dX6_openBehind_1 kf_X6_123 (by assumption) (by rfl) ?_
  refine x_iload_n (pc := 4) dX6_openBehind_4 rfl ?_
  refine x_cs2p (pc := 5) dX6_openBehind_5 ks_X6_106 (by omega) (by rfl) (by rfl) (by rfl) (c_at (by assumption) (by omega) (by omega)) ?_
  rw [(g6 _ hl).2.2.2]
  refine x_iload_n (pc := 8) dX6_openBehind_8 rfl ?_
  refine x_iconst (pc := 9) dX6_openBehind_9 (v := nI 4294967295) (by decide) ?_
  first | refine xn_ixor (pc := 10) dX6_openBehind_10 ?_ | refine x_ixor (pc := 10) dX6_openBehind_10 ?_
  first | refine xn_bit (pc := 11) dX6_openBehind_11 ?_ | refine xn_nd (pc := 11) dX6_openBehind_11 ?_ | refine xn_iand (pc := 11) dX6_openBehind_11 ?_ | refine x_iand (pc := 11) dX6_openBehind_11 ?_
  refine x_iload_n (pc := 12) dX6_openBehind_12 rfl ?_
  refine x_iconst (pc := 13) dX6_openBehind_13 (v := nI 4294967295) (by decide) ?_
  first | refine xn_ixor (pc := 14) dX6_openBehind_14 ?_ | refine x_ixor (pc := 14) dX6_openBehind_14 ?_
  first | refine xn_bit (pc := 15) dX6_openBehind_15 ?_ | refine xn_nd (pc := 15) dX6_openBehind_15 ?_ | refine xn_iand (pc := 15) dX6_openBehind_15 ?_ | refine x_iand (pc := 15) dX6_openBehind_15 ?_
  refine x_iret (pc := 16) dX6_openBehind_16 rfl rfl ?_
  exact pu_n rfl
end
section
/-! THE TEXT, and how it is read -/
def isT (w : ax_W) (k : Nat) (T : List Nat) : Prop := w k = ao 3 [.ref (k + 1), .int (nI T.length)] ∧ ∃ f : Nat → Int32, w (k + 1) = ai 200 f ∧ ∀ i, i < T.length → f i = nI (T.getD i 0)
def okT (T : List Nat) : Prop := T.length ≤ 200 ∧ ∀ i, i < T.length → 32 ≤ T.getD i 0 ∧ T.getD i 0 ≤ 126
theorem isT.go {w w' : ax_W} {k : Nat} {T : List Nat} (h : isT w k T) (hq : ∀ j, k ≤ j → j < k + 2 → w' j = w j) : isT w' k T := by
  obtain ⟨h0, f, h1, h2⟩ := h
  exact ⟨by rw [hq _ (by omega) (by omega)]; exact h0, f, by rw [hq _ (by omega) (by omega)]; exact h1, h2⟩
/-- the letter at a place, as an int -/
def ltI (T : List Nat) (p : Nat) : Int32 := if p < T.length then nI (T.getD p 0) else -4
/-- is a figure there -/
def dgB (T : List Nat) (p : Nat) : Bool := decide (p < T.length ∧ 48 ≤ T.getD p 0 ∧ T.getD p 0 ≤ 57)
theorem ltI_dg {T : List Nat} {p : Nat} (h : dgB T p = true) : ltI T p = nI (T.getD p 0) := if_pos (of_decide_eq_true h).1
theorem c_letterAt {w : ax_W} {n k : Nat} {T : List Nat} (hT : isT w k T) (ok : okT T) {p : Nat} (hp : p < 100000) : Run m_X3_letterAt 1 0 0 0 (l_ent m_X3_letterAt [.ref k, .int (nI p)]) [] w n (Pu (.int (ltI T p)) w n) := by
  obtain ⟨hK, f, g1, g2⟩ := hT
  have hl := ok.1
  refine x_iload_n (pc := 0) dX3_letterAt_0 rfl ?_
  refine x_aload_n (pc := 1) dX3_letterAt_1 rfl ?_
  refine x_getf (pc := 2) dX3_letterAt_2 kf_X3_15 (by assumption) (by rfl) ?_
  refine x_icmp_ge (pc := 5) dX3_letterAt_5 (tgt := 19) (by decide) (fun h_5 => ?_) (fun h_5 => ?_)
  · skip
    try first | rw [n_b1] at h_5 | rw [n_b00] at h_5 | rw [n_le (by omega) (by omega)] at h_5
    refine x_bipush (pc := 19) dX3_letterAt_19 (v := -4) (by decide) ?_
    refine x_iret (pc := 21) dX3_letterAt_21 rfl rfl ?_
    first | exact pu_i (by rw [ltI, if_pos (by omega)]; exact g2 _ (by omega)) | exact pu_i (by rw [ltI, if_neg (by omega)])
  · skip
    try first | rw [n_b1] at h_5 | rw [n_b00] at h_5 | rw [n_le (by omega) (by omega)] at h_5
    refine x_aload_n (pc := 8) dX3_letterAt_8 rfl ?_
    refine x_getf (pc := 9) dX3_letterAt_9 kf_X3_9 (by assumption) (by rfl) ?_
    refine x_iload_n (pc := 12) dX3_letterAt_12 rfl ?_
    refine x_cs2p (pc := 13) dX3_letterAt_13 ks_X3_36 (by omega) (by rfl) (by rfl) (by rfl) (c_at (by assumption) (by omega) (by omega)) ?_
    refine x_goto (pc := 16) dX3_letterAt_16 (tgt := 21) (by decide) ?_
    refine x_iret (pc := 21) dX3_letterAt_21 rfl rfl ?_
    first | exact pu_i (by rw [ltI, if_pos (by omega)]; exact g2 _ (by omega)) | exact pu_i (by rw [ltI, if_neg (by omega)])
def figI (x : Int32) : Bool := decide (¬ x < nI 48 ∧ ¬ nI 57 < x)
theorem figI_lt {T : List Nat} (ok : okT T) (p : Nat) : figI (ltI T p) = dgB T p := by
  unfold figI dgB ltI
  by_cases hp : p < T.length
  · have := ok.2 p hp
    simp only [if_pos hp]
    refine decide_eq_decide.mpr ?_
    rw [n_lt (by omega) (by omega), n_lt (by omega) (by omega)]
    exact ⟨fun h => by omega, fun h => by omega⟩
  · simp only [if_neg hp]
    refine (decide_eq_decide.mpr ?_ : _ = decide (p < T.length ∧ 48 ≤ T.getD p 0 ∧ T.getD p 0 ≤ 57))
    exact ⟨fun h => absurd h.1 (by decide +kernel), fun h => absurd h.1 hp⟩
theorem c_isFigure {w : ax_W} {n : Nat} (x : Int32) : Run m_X2_isFigure 0 0 0 0 (l_ent m_X2_isFigure [.int x]) [] w n (Pu (.int (nI (bN (figI x)))) w n) := by
  refine x_iload_n (pc := 0) dX2_isFigure_0 rfl ?_
  refine x_bipush (pc := 1) dX2_isFigure_1 (v := nI 48) (by decide) ?_
  refine x_icmp_lt (pc := 3) dX2_isFigure_3 (tgt := 16) (by decide) (fun h_3 => ?_) (fun h_3 => ?_)
  · skip
    try first | rw [n_b1] at h_3 | rw [n_b00] at h_3 | rw [n_lt (by omega) (by omega)] at h_3
    have hh : figI x = false := by simp [figI, h_3]
    refine x_iconst (pc := 16) dX2_isFigure_16 (v := nI 0) (by decide) ?_
    refine x_zret (pc := 17) dX2_isFigure_17 rfl (by first | decide | exact bN_lt _ | omega) ?_
    exact pu_n (by rw [hh]; rfl)
  · skip
    try first | rw [n_b1] at h_3 | rw [n_b00] at h_3 | rw [n_lt (by omega) (by omega)] at h_3
    refine x_iload_n (pc := 6) dX2_isFigure_6 rfl ?_
    refine x_bipush (pc := 7) dX2_isFigure_7 (v := nI 57) (by decide) ?_
    refine x_icmp_gt (pc := 9) dX2_isFigure_9 (tgt := 16) (by decide) (fun h_9 => ?_) (fun h_9 => ?_)
    · skip
      try first | rw [n_b1] at h_9 | rw [n_b00] at h_9 | rw [n_lt (by omega) (by omega)] at h_9
      have hh : figI x = false := by simp [figI, h_9]
      refine x_iconst (pc := 16) dX2_isFigure_16 (v := nI 0) (by decide) ?_
      refine x_zret (pc := 17) dX2_isFigure_17 rfl (by first | decide | exact bN_lt _ | omega) ?_
      exact pu_n (by rw [hh]; rfl)
    · skip
      try first | rw [n_b1] at h_9 | rw [n_b00] at h_9 | rw [n_lt (by omega) (by omega)] at h_9
      have hh : figI x = true := by simp only [figI]; exact decide_eq_true ⟨h_3, h_9⟩
      refine x_iconst (pc := 12) dX2_isFigure_12 (v := nI 1) (by decide) ?_
      refine x_goto (pc := 13) dX2_isFigure_13 (tgt := 17) (by decide) ?_
      refine x_zret (pc := 17) dX2_isFigure_17 rfl (by first | decide | exact bN_lt _ | omega) ?_
      exact pu_n (by rw [hh]; rfl)
/-- how many figures of a number stand there -/
def fgS (T : List Nat) (p : Nat) : Nat := if dgB T p then (if dgB T (p + 1) then 2 else 1) else 0
theorem fgS_le (T : List Nat) (p : Nat) : fgS T p ≤ 2 := by unfold fgS; split <;> (try split) <;> omega
theorem fgS_dg {T : List Nat} {p i : Nat} (h : i < fgS T p) : dgB T (p + i) = true := by
  unfold fgS at h
  by_cases h1 : dgB T p
  · rw [if_pos h1] at h
    by_cases h2 : dgB T (p + 1)
    · rw [if_pos h2] at h
      rcases (by omega : i = 0 ∨ i = 1) with rfl | rfl
      · exact h1
      · exact h2
    · rw [if_neg h2] at h
      rw [show i = 0 by omega]
      exact h1
  · rw [if_neg h1] at h
    omega
theorem c_figuresFrom {w : ax_W} {n k : Nat} {T : List Nat} (hT : isT w k T) (ok : okT T) {p : Nat} (hp : p < 10000) : Run m_X2_figuresFrom 2 0 0 0 (l_ent m_X2_figuresFrom [.ref k, .int (nI p)]) [] w n (Pu (.int (nI (fgS T p))) w n) := by
  have hT0 := hT
  obtain ⟨hK, f, g1, g2⟩ := hT
  refine x_aload_n (pc := 0) dX2_figuresFrom_0 rfl ?_
  refine x_iload_n (pc := 1) dX2_figuresFrom_1 rfl ?_
  refine x_cv1p (ci := 3) (pc := 2) dX2_figuresFrom_2 ks_X2_30 (by assumption) (by rfl) (by omega) (by rfl) (by rfl) (by rfl) (c_letterAt hT0 ok (by omega)) ?_
  refine x_cs1p (pc := 5) dX2_figuresFrom_5 ks_X2_52 (by omega) (by rfl) (by rfl) (by rfl) (c_isFigure _) ?_
  rw [figI_lt ok]
  refine x_if_ne (pc := 8) dX2_figuresFrom_8 (tgt := 13) (by decide) (fun h_8 => ?_) (fun h_8 => ?_)
  · skip
    try first | rw [n_b0] at h_8 | rw [n_eq0 (by omega)] at h_8
    refine x_aload_n (pc := 13) dX2_figuresFrom_13 rfl ?_
    refine x_iload_n (pc := 14) dX2_figuresFrom_14 rfl ?_
    refine x_iconst (pc := 15) dX2_figuresFrom_15 (v := nI 1) (by decide) ?_
    first | refine xn_iadd (pc := 16) dX2_figuresFrom_16 ?_ | refine x_iadd (pc := 16) dX2_figuresFrom_16 ?_
    refine x_cv1p (ci := 3) (pc := 17) dX2_figuresFrom_17 ks_X2_30 (by assumption) (by rfl) (by omega) (by rfl) (by rfl) (by rfl) (c_letterAt hT0 ok (by omega)) ?_
    refine x_cs1p (pc := 20) dX2_figuresFrom_20 ks_X2_52 (by omega) (by rfl) (by rfl) (by rfl) (c_isFigure _) ?_
    rw [figI_lt ok]
    refine x_if_eq (pc := 23) dX2_figuresFrom_23 (tgt := 30) (by decide) (fun h_23 => ?_) (fun h_23 => ?_)
    · skip
      try first | rw [n_b0] at h_23 | rw [n_eq0 (by omega)] at h_23
      have hh : fgS T p = 1 := by simp [fgS, h_8, h_23]
      refine x_iconst (pc := 30) dX2_figuresFrom_30 (v := nI 1) (by decide) ?_
      refine x_iret (pc := 31) dX2_figuresFrom_31 rfl rfl ?_
      exact pu_n hh.symm
    · skip
      try first | rw [n_b0] at h_23 | rw [n_eq0 (by omega)] at h_23
      have hh : fgS T p = 2 := by simp [fgS, h_8, h_23]
      refine x_iconst (pc := 26) dX2_figuresFrom_26 (v := nI 2) (by decide) ?_
      refine x_goto (pc := 27) dX2_figuresFrom_27 (tgt := 31) (by decide) ?_
      refine x_iret (pc := 31) dX2_figuresFrom_31 rfl rfl ?_
      exact pu_n hh.symm
  · replace h_8 := Classical.not_not.mp h_8
    try first | rw [n_b0] at h_8 | rw [n_eq0 (by omega)] at h_8
    have hh : fgS T p = 0 := by simp [fgS, h_8]
    refine x_iconst (pc := 11) dX2_figuresFrom_11 (v := nI 0) (by decide) ?_
    refine x_iret (pc := 12) dX2_figuresFrom_12 rfl rfl ?_
    exact pu_n hh.symm
/-- the number that these figures are -/
def numS (T : List Nat) (p : Nat) : Nat → Nat
  | 0 => 0
  | i + 1 => numS T p i * 10 + (T.getD (p + i) 0 - 48)
theorem numS_lt {T : List Nat} {p : Nat} : ∀ {g}, (∀ i, i < g → dgB T (p + i) = true) → numS T p g < 10 ^ g
  | 0, _ => by simp [numS]
  | g + 1, h => by
    have h1 := numS_lt (T := T) (p := p) (g := g) (fun i hi => h i (by omega))
    have h2 := of_decide_eq_true (h g (by omega))
    simp only [numS, Nat.pow_succ]
    omega
theorem num_100 {T : List Nat} {p : Nat} : numS T p (fgS T p) < 100 := by
  have h := numS_lt (T := T) (p := p) (g := fgS T p) (fun i hi => fgS_dg hi)
  have h2 : 10 ^ fgS T p ≤ 10 ^ 2 := Nat.pow_le_pow_right (by decide : 0 < 10) (fgS_le T p)
  omega
theorem c_numberFrom {w : ax_W} {n k : Nat} {T : List Nat} (hT : isT w k T) (ok : okT T) {p g : Nat} (hp : p < 10000) (hg : g ≤ 2) (hd : ∀ i, i < g → dgB T (p + i) = true) : Run m_X2_numberFrom 2 0 0 0 (l_ent m_X2_numberFrom [.ref k, .int (nI p), .int (nI g)]) [] w n (Pu (.int (nI (numS T p g))) w n) := by
  have hT0 := hT
  obtain ⟨hK, f, g1, g2⟩ := hT
  have loop : ∀ m i, i + m = g → Run m_X2_numberFrom 2 0 0 5 [some (.ref k), some (.int (nI p)), some (.int (nI g)), some (.int (nI (numS T p i))), some (.int (nI i))] [] w n (Pu (.int (nI (numS T p g))) w n) := by
    intro m
    induction m with
    | zero =>
      intro i hi
      have hii : i = g := by omega
      subst hii
      refine x_iload (pc := 5) dX2_numberFrom_5 rfl ?_
      refine x_iload_n (pc := 7) dX2_numberFrom_7 rfl ?_
      refine x_icmp_ge_t (pc := 8) dX2_numberFrom_8 (tgt := 34) (by decide) (nI_le (by omega) (by omega)) ?_
      refine x_iload_n (pc := 34) dX2_numberFrom_34 rfl ?_
      refine x_iret (pc := 35) dX2_numberFrom_35 rfl rfl ?_
      exact pu_n rfl
    | succ m ih =>
      intro i hi
      have hdi := hd i (by omega)
      have hdd := of_decide_eq_true hdi
      refine x_iload (pc := 5) dX2_numberFrom_5 rfl ?_
      refine x_iload_n (pc := 7) dX2_numberFrom_7 rfl ?_
      refine x_icmp_ge_f (pc := 8) dX2_numberFrom_8 (tgt := 34) (by decide) (nI_ge (by omega) (by omega)) ?_
      refine x_iload_n (pc := 11) dX2_numberFrom_11 rfl ?_
      refine x_bipush (pc := 12) dX2_numberFrom_12 (v := nI 10) (by decide) ?_
      first | refine xn_imul (pc := 14) dX2_numberFrom_14 ?_ | refine x_imul (pc := 14) dX2_numberFrom_14 ?_
      refine x_aload_n (pc := 15) dX2_numberFrom_15 rfl ?_
      refine x_iload_n (pc := 16) dX2_numberFrom_16 rfl ?_
      refine x_iload (pc := 17) dX2_numberFrom_17 rfl ?_
      first | refine xn_iadd (pc := 19) dX2_numberFrom_19 ?_ | refine x_iadd (pc := 19) dX2_numberFrom_19 ?_
      refine x_cv1p (ci := 3) (pc := 20) dX2_numberFrom_20 ks_X2_30 (by assumption) (by rfl) (by omega) (by rfl) (by rfl) (by rfl) (c_letterAt hT0 ok (by omega)) ?_
      rw [ltI_dg hdi]
      first | refine xn_iadd (pc := 23) dX2_numberFrom_23 ?_ | refine x_iadd (pc := 23) dX2_numberFrom_23 ?_
      refine x_bipush (pc := 24) dX2_numberFrom_24 (v := nI 48) (by decide) ?_
      first | refine xn_isub (pc := 26) dX2_numberFrom_26 (by omega) ?_ | refine x_isub (pc := 26) dX2_numberFrom_26 ?_
      refine x_istore_n (pc := 27) dX2_numberFrom_27 rfl ?_
      refine xn_iinc (pc := 28) dX2_numberFrom_28 rfl rfl ?_
      refine x_goto (pc := 31) dX2_numberFrom_31 (tgt := 5) (by decide) ?_
      have e : numS T p (i + 1) = numS T p i * 10 + T.getD (p + i) 0 - 48 := by simp only [numS]; omega
      exact (by rw [← e]; exact ih (i + 1) (by omega))
  refine x_iconst (pc := 0) dX2_numberFrom_0 (v := nI 0) (by decide) ?_
  refine x_istore_n (pc := 1) dX2_numberFrom_1 rfl ?_
  refine x_iconst (pc := 2) dX2_numberFrom_2 (v := nI 0) (by decide) ?_
  refine x_istore (pc := 3) dX2_numberFrom_3 rfl ?_
  exact loop g 0 (by omega)
/-- numbers parted by , with a ; behind the last: the numbers, and the place behind -/
def rdF (T : List Nat) : Nat → Nat → Option (List Nat × Nat)
  | 0, _ => none
  | m + 1, p => if fgS T p = 0 then none else if ltI T (p + fgS T p) = nI 59 then some ([numS T p (fgS T p)], p + fgS T p + 1)
    else if ltI T (p + fgS T p) = nI 44 then (rdF T m (p + fgS T p + 1)).map (fun q => (numS T p (fgS T p) :: q.1, q.2)) else none
theorem rdF_lt {T : List Nat} : ∀ {m p l e}, rdF T m p = some (l, e) → l.length ≤ m ∧ p < e ∧ e ≤ p + 3 * m ∧ ∀ x ∈ l, x < 100
  | 0, _, _, _, h => by simp [rdF] at h
  | m + 1, p, l, e, h => by
    have hg := fgS_le T p
    simp only [rdF] at h
    split at h
    · cases h
    · split at h
      · cases h
        exact ⟨by simp, by omega, by omega, fun x hx => by rw [List.mem_singleton.mp hx]; exact num_100⟩
      · split at h
        · cases hr : rdF T m (p + fgS T p + 1) with
          | none => rw [hr] at h; cases h
          | some q =>
            obtain ⟨l2, e2⟩ := q
            rw [hr] at h
            cases h
            obtain ⟨a1, a2, a3, a4⟩ := rdF_lt hr
            refine ⟨by simp; omega, by omega, by omega, fun x hx => ?_⟩
            rcases List.mem_cons.mp hx with rfl | hx
            · exact num_100
            · exact a4 x hx
        · cases h
def isR (w : ax_W) (k : Nat) (l : List Nat) : Prop := ∃ f : Nat → Int32, w k = ao 2 [.ref (k + 1), .int (nI l.length)] ∧ w (k + 1) = ai 3 f ∧ ∀ i, i < l.length → f i = nI (l.getD i 0)
def anyR (w : ax_W) (k : Nat) : Prop := ∃ (a : Int32) (f : Nat → Int32), w k = ao 2 [.ref (k + 1), .int a] ∧ w (k + 1) = ai 3 f
theorem isR.any {w : ax_W} {k : Nat} {l : List Nat} (h : isR w k l) : anyR w k := by
  obtain ⟨f, h1, h2, -⟩ := h
  exact ⟨_, f, h1, h2⟩
theorem c_readNumbers {w : ax_W} {n k s : Nat} {T : List Nat} (hR : anyR w k) (hT : isT w s T) (ok : okT T) (hks : k + 2 ≤ s ∨ s + 2 ≤ k) {p : Nat} (hp : p < 1000) : Run m_X2_readNumbers 3 0 0 0 (l_ent m_X2_readNumbers [.ref k, .ref s, .int (nI p)]) [] w n (Va (fun v w' => v = .int (match rdF T 3 p with | some q => nI q.2 | none => -4) ∧ anyR w' k ∧ (∀ q, rdF T 3 p = some q → isR w' k q.1) ∧ sameW w w' k 2) n) := by
  obtain ⟨a0, f0, hR1, hR2⟩ := hR
  have loop : ∀ m i pre p0 z5 z6 (wi : ax_W) (a : Int32) (f : Nat → Int32), i + m = 3 → pre.length = i → p0 < 5000 - 10 * m → (∀ j, (j < k ∨ k + 2 ≤ j) → wi j = w j) → wi k = ao 2 [.ref (k + 1), .int a] → wi (k + 1) = ai 3 f → (∀ j, j < i → f j = nI (pre.getD j 0)) →
      Run m_X2_readNumbers 3 0 0 5 [some (.ref k), some (.ref s), some (.int (nI p)), some (.int (nI p0)), some (.int (nI i)), z5, z6] [] wi n (Va (fun v w' => v = .int (match rdF T m p0 with | some q => nI q.2 | none => -4) ∧ anyR w' k ∧ (∀ q, rdF T m p0 = some q → isR w' k (pre ++ q.1)) ∧ sameW w w' k 2) n) := by
    intro m
    induction m with
    | zero =>
      intro i pre p0 z5 z6 w a f hi hpre hp0 hfr hK g1 g2
      refine x_iload (pc := 5) dX2_readNumbers_5 rfl ?_
      refine x_iconst (pc := 7) dX2_readNumbers_7 (v := nI 3) (by decide) ?_
      refine x_icmp_ge_t (pc := 8) dX2_readNumbers_8 (tgt := 96) (by decide) (nI_le (by omega) (by omega)) ?_
      refine x_bipush (pc := 96) dX2_readNumbers_96 (v := -4) (by decide) ?_
      refine x_iret (pc := 98) dX2_readNumbers_98 rfl rfl ?_
      exact va_i ⟨rfl, ⟨a, f, hK, g1⟩, fun q hq => by simp [rdF] at hq, hfr⟩
    | succ m ih =>
      intro i pre p0 z5 z6 w a f hi hpre hp0 hfr hK g1 g2
      have hT0 : isT w s T := hT.go fun j h1 h2 => hfr j (by omega)
      have hgl := fgS_le T p0
      have hn100 := num_100 (T := T) (p := p0)
      refine x_iload (pc := 5) dX2_readNumbers_5 rfl ?_
      refine x_iconst (pc := 7) dX2_readNumbers_7 (v := nI 3) (by decide) ?_
      refine x_icmp_ge_f (pc := 8) dX2_readNumbers_8 (tgt := 96) (by decide) (nI_ge (by omega) (by omega)) ?_
      refine x_aload_n (pc := 11) dX2_readNumbers_11 rfl ?_
      refine x_iload_n (pc := 12) dX2_readNumbers_12 rfl ?_
      refine x_cs2p (pc := 13) dX2_readNumbers_13 ks_X2_38 (by omega) (by rfl) (by rfl) (by rfl) (c_figuresFrom hT0 ok (by omega)) ?_
      refine x_istore (pc := 16) dX2_readNumbers_16 rfl ?_
      refine x_aload_n (pc := 18) dX2_readNumbers_18 rfl ?_
      refine x_getf (pc := 19) dX2_readNumbers_19 kf_X2_9 (by assumption) (by rfl) ?_
      refine x_iload (pc := 22) dX2_readNumbers_22 rfl ?_
      refine x_aload_n (pc := 24) dX2_readNumbers_24 rfl ?_
      refine x_iload_n (pc := 25) dX2_readNumbers_25 rfl ?_
      refine x_iload (pc := 26) dX2_readNumbers_26 rfl ?_
      refine x_cs3p (pc := 28) dX2_readNumbers_28 ks_X2_41 (by omega) (by rfl) (by rfl) (by rfl) (c_numberFrom hT0 ok (by omega) hgl (fun i hi => fgS_dg hi)) ?_
      refine x_cs3 (q1 := 0) (q2 := 0) (pc := 31) dX2_readNumbers_31 ks_X2_45 (by omega) (by rfl) (by rfl) (by rfl) (c_put (by assumption) (by omega) (by omega)) (vo_kk fun w hP => ?_)
      obtain ⟨hnew, hne⟩ := hP
      replace hK := (hne _ (by omega)).trans hK
      replace g1 := hnew
      replace hfr := fun j (hj : j < k ∨ k + 2 ≤ j) => (hne j (by omega)).trans (hfr j hj)
      clear hne
      refine x_aload_n (pc := 34) dX2_readNumbers_34 rfl ?_
      refine x_iload (pc := 35) dX2_readNumbers_35 rfl ?_
      refine x_iconst (pc := 37) dX2_readNumbers_37 (v := nI 1) (by decide) ?_
      first | refine xn_iadd (pc := 38) dX2_readNumbers_38 ?_ | refine x_iadd (pc := 38) dX2_readNumbers_38 ?_
      refine xw_puti (pc := 39) dX2_readNumbers_39 kf_X2_49 (by assumption) (by rfl) (by rfl) rfl rfl (fun w hnew hne => ?_)
      replace hK := hnew
      replace g1 := (hne _ (by omega)).trans g1
      replace hfr := fun j (hj : j < k ∨ k + 2 ≤ j) => (hne j (by omega)).trans (hfr j hj)
      clear hne
      have hT0 : isT w s T := hT.go fun j h1 h2 => hfr j (by omega)
      refine x_aload_n (pc := 42) dX2_readNumbers_42 rfl ?_
      refine x_iload_n (pc := 43) dX2_readNumbers_43 rfl ?_
      refine x_iload (pc := 44) dX2_readNumbers_44 rfl ?_
      first | refine xn_iadd (pc := 46) dX2_readNumbers_46 ?_ | refine x_iadd (pc := 46) dX2_readNumbers_46 ?_
      refine x_cv1p (ci := 3) (pc := 47) dX2_readNumbers_47 ks_X2_30 hT0.1 (by rfl) (by omega) (by rfl) (by rfl) (by rfl) (c_letterAt hT0 ok (by omega)) ?_
      refine x_istore (pc := 50) dX2_readNumbers_50 rfl ?_
      refine x_iload (pc := 52) dX2_readNumbers_52 rfl ?_
      refine x_if_eq (pc := 54) dX2_readNumbers_54 (tgt := 71) (by decide) (fun h_54 => ?_) (fun h_54 => ?_)
      · skip
        try first | rw [n_b0] at h_54 | rw [n_eq0 (by omega)] at h_54
        have hh : rdF T (m + 1) p0 = none := by simp [rdF, h_54]
        refine x_bipush (pc := 71) dX2_readNumbers_71 (v := -4) (by decide) ?_
        refine x_iret (pc := 73) dX2_readNumbers_73 rfl rfl ?_
        exact va_i ⟨by rw [hh], ⟨_, _, hK, g1⟩, fun q hq => (by rw [hh] at hq; cases hq), hfr⟩
      · skip
        try first | rw [n_b0] at h_54 | rw [n_eq0 (by omega)] at h_54
        refine x_iload (pc := 57) dX2_readNumbers_57 rfl ?_
        refine x_bipush (pc := 59) dX2_readNumbers_59 (v := nI 44) (by decide) ?_
        refine x_icmp_eq (pc := 61) dX2_readNumbers_61 (tgt := 74) (by decide) (fun h_61 => ?_) (fun h_61 => ?_)
        · skip
          try first | rw [n_b1] at h_61 | rw [n_b00] at h_61 | rw [n_eq (by omega) (by omega)] at h_61
          have h59 : ¬ ltI T (p0 + fgS T p0) = nI 59 := by rw [h_61]; decide +kernel
          refine x_iload_n (pc := 74) dX2_readNumbers_74 rfl ?_
          refine x_iload (pc := 75) dX2_readNumbers_75 rfl ?_
          refine x_iconst (pc := 77) dX2_readNumbers_77 (v := nI 1) (by decide) ?_
          first | refine xn_iadd (pc := 78) dX2_readNumbers_78 ?_ | refine x_iadd (pc := 78) dX2_readNumbers_78 ?_
          first | refine xn_iadd (pc := 79) dX2_readNumbers_79 ?_ | refine x_iadd (pc := 79) dX2_readNumbers_79 ?_
          refine x_istore_n (pc := 80) dX2_readNumbers_80 rfl ?_
          refine x_iload (pc := 81) dX2_readNumbers_81 rfl ?_
          refine x_bipush (pc := 83) dX2_readNumbers_83 (v := nI 59) (by decide) ?_
          refine x_icmp_ne_t (pc := 85) dX2_readNumbers_85 (tgt := 90) (by decide) h59 ?_
          refine xn_iinc (pc := 90) dX2_readNumbers_90 rfl rfl ?_
          refine x_goto (pc := 93) dX2_readNumbers_93 (tgt := 5) (by decide) ?_
          refine (ih (i + 1) (pre ++ [numS T p0 (fgS T p0)]) _ _ _ w _ _ (by omega) (by simp [hpre]) (by omega) hfr hK g1 ?_).mono ?_
          · intro j hj
            by_cases hji : j = i
            · subst hji
              rw [upd_same, ← hpre]
              simp
            · rw [upd_ne _ _ hji, g2 j (by omega)]
              congr 1
              rw [List.getD_eq_getElem?_getD, List.getD_eq_getElem?_getD, List.getElem?_append_left (by omega)]
          · intro r w' n' hq
            obtain ⟨v, e1, e2, e3, e4, e5, e6⟩ := hq
            refine ⟨v, e1, e2, ?_, e4, ?_, e6⟩
            · rw [e3]
              simp only [rdF, h_54, if_false, if_neg h59, h_61, if_true]
              rw [show p0 + (fgS T p0 + 1) = p0 + fgS T p0 + 1 by omega]
              cases rdF T m (p0 + fgS T p0 + 1) <;> rfl
            · intro q hq
              simp only [rdF, h_54, if_false, if_neg h59, h_61, if_true] at hq
              rw [show p0 + fgS T p0 + 1 = p0 + (fgS T p0 + 1) by omega] at hq
              cases hr : rdF T m (p0 + (fgS T p0 + 1)) with
              | none => rw [hr] at hq; cases hq
              | some q2 =>
                rw [hr] at hq
                cases hq
                have := e5 q2 hr
                rw [List.append_assoc] at this
                exact this
        · skip
          try first | rw [n_b1] at h_61 | rw [n_b00] at h_61 | rw [n_eq (by omega) (by omega)] at h_61
          refine x_iload (pc := 64) dX2_readNumbers_64 rfl ?_
          refine x_bipush (pc := 66) dX2_readNumbers_66 (v := nI 59) (by decide) ?_
          refine x_icmp_eq (pc := 68) dX2_readNumbers_68 (tgt := 74) (by decide) (fun h_68 => ?_) (fun h_68 => ?_)
          · skip
            try first | rw [n_b1] at h_68 | rw [n_b00] at h_68 | rw [n_eq (by omega) (by omega)] at h_68
            have hh : rdF T (m + 1) p0 = some ([numS T p0 (fgS T p0)], p0 + (fgS T p0 + 1)) := by simp [rdF, h_54, h_68]; omega
            refine x_iload_n (pc := 74) dX2_readNumbers_74 rfl ?_
            refine x_iload (pc := 75) dX2_readNumbers_75 rfl ?_
            refine x_iconst (pc := 77) dX2_readNumbers_77 (v := nI 1) (by decide) ?_
            first | refine xn_iadd (pc := 78) dX2_readNumbers_78 ?_ | refine x_iadd (pc := 78) dX2_readNumbers_78 ?_
            first | refine xn_iadd (pc := 79) dX2_readNumbers_79 ?_ | refine x_iadd (pc := 79) dX2_readNumbers_79 ?_
            refine x_istore_n (pc := 80) dX2_readNumbers_80 rfl ?_
            refine x_iload (pc := 81) dX2_readNumbers_81 rfl ?_
            refine x_bipush (pc := 83) dX2_readNumbers_83 (v := nI 59) (by decide) ?_
            refine x_icmp_ne_f (pc := 85) dX2_readNumbers_85 (tgt := 90) (by decide) (fun q => q h_68) ?_
            refine x_iload_n (pc := 88) dX2_readNumbers_88 rfl ?_
            refine x_iret (pc := 89) dX2_readNumbers_89 rfl rfl ?_
            refine va_i ⟨by rw [hh], ⟨_, _, hK, g1⟩, fun q hq => ?_, hfr⟩
            rw [hh] at hq
            cases hq
            refine ⟨_, ?_, g1, fun j hj => ?_⟩
            · rw [show (pre ++ [numS T p0 (fgS T p0)]).length = i + 1 by simp [hpre]]
              exact hK
            · have hj' : j < i + 1 := by simpa [hpre] using hj
              by_cases hji : j = i
              · subst hji
                rw [upd_same, ← hpre]
                simp
              · rw [upd_ne _ _ hji, g2 j (by omega)]
                congr 1
                rw [List.getD_eq_getElem?_getD, List.getD_eq_getElem?_getD, List.getElem?_append_left (by omega)]
          · skip
            try first | rw [n_b1] at h_68 | rw [n_b00] at h_68 | rw [n_eq (by omega) (by omega)] at h_68
            have hh : rdF T (m + 1) p0 = none := by simp [rdF, h_54, h_61, h_68]
            refine x_bipush (pc := 71) dX2_readNumbers_71 (v := -4) (by decide) ?_
            refine x_iret (pc := 73) dX2_readNumbers_73 rfl rfl ?_
            exact va_i ⟨by rw [hh], ⟨_, _, hK, g1⟩, fun q hq => (by rw [hh] at hq; cases hq), hfr⟩
  refine x_iload_n (pc := 0) dX2_readNumbers_0 rfl ?_
  refine x_istore_n (pc := 1) dX2_readNumbers_1 rfl ?_
  refine x_iconst (pc := 2) dX2_readNumbers_2 (v := nI 0) (by decide) ?_
  refine x_istore (pc := 3) dX2_readNumbers_3 rfl ?_
  exact loop 3 0 [] p _ _ w _ _ (by omega) rfl (by omega) (fun _ _ => rfl) hR1 hR2 (fun j hj => absurd hj (Nat.not_lt_zero j))
/-- an ITEM told to a court: none, if it is not so -/
def tlS (C : Crt) (c : Int32) (l : List Nat) : Option Crt :=
  if c = nI 115 then (if l.length = 3 ∧ okSt C (l.getD 0 0) (l.getD 1 0) (l.getD 2 0) = true then some (adS C (l.getD 0 0) (l.getD 1 0) (l.getD 2 0)) else none)
  else if c = nI 118 then (if l.length = 1 ∧ okVd C (l.getD 0 0) = true then some (adV C (l.getD 0 0)) else none)
  else if c = nI 114 then (if l.length = 2 ∧ okHg C (l.getD 0 0) (l.getD 1 0) = true then some (adH C (l.getD 0 0) (l.getD 1 0)) else none)
  else if c = nI 112 then (if l.length = 2 ∧ okPn C (l.getD 0 0) (l.getD 1 0) = true then some (adP C (l.getD 0 0) (l.getD 1 0)) else none)
  else none
theorem okC_tlS {C C' : Crt} (ok : okC C) {c : Int32} {l : List Nat} (h : tlS C c l = some C') : okC C' := by
  unfold tlS at h
  split at h
  · split at h
    · next q => cases h; exact okC_adS ok q.2
    · cases h
  · split at h
    · split at h
      · next q => cases h; exact okC_adV ok q.2
      · cases h
    · split at h
      · split at h
        · next q => cases h; exact okC_adH ok q.2
        · cases h
      · split at h
        · split at h
          · next q => cases h; exact okC_adP ok q.2
          · cases h
        · cases h
theorem tl_s (C : Crt) (l : List Nat) : tlS C (nI 115) l = if l.length = 3 ∧ okSt C (l.getD 0 0) (l.getD 1 0) (l.getD 2 0) = true then some (adS C (l.getD 0 0) (l.getD 1 0) (l.getD 2 0)) else none := if_pos rfl
theorem tl_v (C : Crt) (l : List Nat) : tlS C (nI 118) l = if l.length = 1 ∧ okVd C (l.getD 0 0) = true then some (adV C (l.getD 0 0)) else none := by
  unfold tlS
  rw [if_neg (by decide +kernel), if_pos rfl]
theorem tl_r (C : Crt) (l : List Nat) : tlS C (nI 114) l = if l.length = 2 ∧ okHg C (l.getD 0 0) (l.getD 1 0) = true then some (adH C (l.getD 0 0) (l.getD 1 0)) else none := by
  unfold tlS
  rw [if_neg (by decide +kernel), if_neg (by decide +kernel), if_pos rfl]
theorem tl_p (C : Crt) (l : List Nat) : tlS C (nI 112) l = if l.length = 2 ∧ okPn C (l.getD 0 0) (l.getD 1 0) = true then some (adP C (l.getD 0 0) (l.getD 1 0)) else none := by
  unfold tlS
  rw [if_neg (by decide +kernel), if_neg (by decide +kernel), if_neg (by decide +kernel), if_pos rfl]
theorem tl_no {C : Crt} {l : List Nat} {c : Int32} (h1 : ¬ c = nI 115) (h2 : ¬ c = nI 118) (h3 : ¬ c = nI 114) (h4 : ¬ c = nI 112) : tlS C c l = none := by
  unfold tlS
  rw [if_neg h1, if_neg h2, if_neg h3, if_neg h4]
theorem c_tell {w : ax_W} {n k s : Nat} {C : Crt} {l : List Nat} (hR : isR w k l) (hC : isC w s C) (ok : okC C) (hl : ∀ x ∈ l, x < 100) (hl3 : l.length ≤ 3) (hks : k + 2 ≤ s ∨ s + 6 ≤ k) (c : Int32) : Run m_X2_tell 3 0 0 0 (l_ent m_X2_tell [.ref k, .int c, .ref s]) [] w n (Va (fun v w' => v = .int (nI (bN (tlS C c l).isSome)) ∧ isC w' s ((tlS C c l).getD C) ∧ sameW w w' s 6) n) := by
  obtain ⟨f, hK, g1, g2⟩ := hR
  have hC0 := hC
  obtain ⟨hKs, -⟩ := hC
  have hx : ∀ i, l.getD i 0 < 100 := by
    intro i
    by_cases hi : i < l.length
    · rw [List.getD_eq_getElem?_getD, List.getElem?_eq_getElem hi]
      exact hl _ (List.getElem_mem hi)
    · rw [List.getD_eq_getElem?_getD, List.getElem?_eq_none (by omega)]
      decide
  refine x_aload_n (pc := 0) dX2_tell_0 rfl ?_
  refine x_getf (pc := 1) dX2_tell_1 kf_X2_9 (by assumption) (by rfl) ?_
  refine x_iconst (pc := 4) dX2_tell_4 (v := nI 0) (by decide) ?_
  refine x_cs2p (pc := 5) dX2_tell_5 ks_X2_56 (by omega) (by rfl) (by rfl) (by rfl) (c_at (by assumption) (by omega) (by omega)) ?_
  refine x_istore_n (pc := 8) dX2_tell_8 rfl ?_
  refine x_aload_n (pc := 9) dX2_tell_9 rfl ?_
  refine x_getf (pc := 10) dX2_tell_10 kf_X2_9 (by assumption) (by rfl) ?_
  refine x_iconst (pc := 13) dX2_tell_13 (v := nI 1) (by decide) ?_
  refine x_cs2p (pc := 14) dX2_tell_14 ks_X2_56 (by omega) (by rfl) (by rfl) (by rfl) (c_at (by assumption) (by omega) (by omega)) ?_
  refine x_istore (pc := 17) dX2_tell_17 rfl ?_
  refine x_aload_n (pc := 19) dX2_tell_19 rfl ?_
  refine x_getf (pc := 20) dX2_tell_20 kf_X2_9 (by assumption) (by rfl) ?_
  refine x_iconst (pc := 23) dX2_tell_23 (v := nI 2) (by decide) ?_
  refine x_cs2p (pc := 24) dX2_tell_24 ks_X2_56 (by omega) (by rfl) (by rfl) (by rfl) (c_at (by assumption) (by omega) (by omega)) ?_
  refine x_istore (pc := 27) dX2_tell_27 rfl ?_
  refine x_iload_n (pc := 29) dX2_tell_29 rfl ?_
  by_cases h115 : c = nI 115
  · subst h115
    refine x_tableIn (pc := 30) dX2_tell_30 (tgt := 72) (off := 42) (by decide +kernel) (by decide +kernel) (by decide +kernel) (by decide) ?_
    refine x_aload_n (pc := 72) dX2_tell_72 rfl ?_
    refine x_getf (pc := 73) dX2_tell_73 kf_X2_49 (by assumption) (by rfl) ?_
    refine x_iconst (pc := 76) dX2_tell_76 (v := nI 3) (by decide) ?_
    refine x_icmp_ne (pc := 77) dX2_tell_77 (tgt := 96) (by decide) (fun h_77 => ?_) (fun h_77 => ?_)
    · skip
      try first | rw [n_b1] at h_77 | rw [n_b00] at h_77 | rw [n_eq (by omega) (by omega)] at h_77
      have hh : tlS C (nI 115) l = none := by rw [tl_s, if_neg (fun q => h_77 q.1)]
      refine x_iconst (pc := 96) dX2_tell_96 (v := nI 0) (by decide) ?_
      refine x_zret (pc := 97) dX2_tell_97 rfl (by first | decide | exact bN_lt _ | omega) ?_
      first | exact va_i ⟨by rw [hh]; rfl, by rw [hh]; exact hC2, hfr⟩ | exact va_i ⟨by rw [hh]; rfl, by rw [hh]; exact hC0, fun _ _ => rfl⟩
    · replace h_77 := Classical.not_not.mp h_77
      try first | rw [n_b1] at h_77 | rw [n_b00] at h_77 | rw [n_eq (by omega) (by omega)] at h_77
      rw [g2 0 (by omega), g2 1 (by omega), g2 2 (by omega)]
      refine x_aload_n (pc := 80) dX2_tell_80 rfl ?_
      refine x_iload_n (pc := 81) dX2_tell_81 rfl ?_
      refine x_iload (pc := 82) dX2_tell_82 rfl ?_
      refine x_iload (pc := 84) dX2_tell_84 rfl ?_
      refine x_cv3 (q1 := 0) (q2 := 0) (ci := 0) (pc := 86) dX2_tell_86 ks_X2_60 (by assumption) (by rfl) (by omega) (by rfl) (by rfl) (by rfl) (c_addStatement hC0 ok (hx 0) (hx 1) (hx 2)) (va_kk fun v w hP => ?_)
      obtain ⟨rfl, hC2, hfr⟩ := hP
      refine x_if_eq (pc := 89) dX2_tell_89 (tgt := 96) (by decide) (fun h_89 => ?_) (fun h_89 => ?_)
      · skip
        try first | rw [n_b0] at h_89 | rw [n_eq0 (by omega)] at h_89
        have hh : tlS C (nI 115) l = none := by rw [tl_s, if_neg (fun q => by rw [h_89] at q; cases q.2)]
        rw [h_89] at hC2
        refine x_iconst (pc := 96) dX2_tell_96 (v := nI 0) (by decide) ?_
        refine x_zret (pc := 97) dX2_tell_97 rfl (by first | decide | exact bN_lt _ | omega) ?_
        first | exact va_i ⟨by rw [hh]; rfl, by rw [hh]; exact hC2, hfr⟩ | exact va_i ⟨by rw [hh]; rfl, by rw [hh]; exact hC0, fun _ _ => rfl⟩
      · skip
        try first | rw [n_b0] at h_89 | rw [n_eq0 (by omega)] at h_89
        simp only [Bool.not_eq_false] at h_89
        have hh := tl_s C l
        rw [if_pos ⟨h_77, h_89⟩] at hh
        rw [h_89] at hC2
        refine x_iconst (pc := 92) dX2_tell_92 (v := nI 1) (by decide) ?_
        refine x_goto (pc := 93) dX2_tell_93 (tgt := 97) (by decide) ?_
        refine x_zret (pc := 97) dX2_tell_97 rfl (by first | decide | exact bN_lt _ | omega) ?_
        first | exact va_i ⟨by rw [hh]; rfl, by rw [hh]; exact hC2, hfr⟩ | exact va_i ⟨by rw [hh]; rfl, by rw [hh]; exact hC0, fun _ _ => rfl⟩
  by_cases h118 : c = nI 118
  · subst h118
    refine x_tableIn (pc := 30) dX2_tell_30 (tgt := 98) (off := 68) (by decide +kernel) (by decide +kernel) (by decide +kernel) (by decide) ?_
    refine x_aload_n (pc := 98) dX2_tell_98 rfl ?_
    refine x_getf (pc := 99) dX2_tell_99 kf_X2_49 (by assumption) (by rfl) ?_
    refine x_iconst (pc := 102) dX2_tell_102 (v := nI 1) (by decide) ?_
    refine x_icmp_ne (pc := 103) dX2_tell_103 (tgt := 118) (by decide) (fun h_103 => ?_) (fun h_103 => ?_)
    · skip
      try first | rw [n_b1] at h_103 | rw [n_b00] at h_103 | rw [n_eq (by omega) (by omega)] at h_103
      have hh : tlS C (nI 118) l = none := by rw [tl_v, if_neg (fun q => h_103 q.1)]
      refine x_iconst (pc := 118) dX2_tell_118 (v := nI 0) (by decide) ?_
      refine x_zret (pc := 119) dX2_tell_119 rfl (by first | decide | exact bN_lt _ | omega) ?_
      first | exact va_i ⟨by rw [hh]; rfl, by rw [hh]; exact hC2, hfr⟩ | exact va_i ⟨by rw [hh]; rfl, by rw [hh]; exact hC0, fun _ _ => rfl⟩
    · replace h_103 := Classical.not_not.mp h_103
      try first | rw [n_b1] at h_103 | rw [n_b00] at h_103 | rw [n_eq (by omega) (by omega)] at h_103
      rw [g2 0 (by omega)]
      refine x_aload_n (pc := 106) dX2_tell_106 rfl ?_
      refine x_iload_n (pc := 107) dX2_tell_107 rfl ?_
      refine x_cv1 (q1 := 0) (q2 := 0) (ci := 0) (pc := 108) dX2_tell_108 ks_X2_64 (by assumption) (by rfl) (by omega) (by rfl) (by rfl) (by rfl) (c_addVerdict hC0 ok (hx 0)) (va_kk fun v w hP => ?_)
      obtain ⟨rfl, hC2, hfr⟩ := hP
      refine x_if_eq (pc := 111) dX2_tell_111 (tgt := 118) (by decide) (fun h_111 => ?_) (fun h_111 => ?_)
      · skip
        try first | rw [n_b0] at h_111 | rw [n_eq0 (by omega)] at h_111
        have hh : tlS C (nI 118) l = none := by rw [tl_v, if_neg (fun q => by rw [h_111] at q; cases q.2)]
        rw [h_111] at hC2
        refine x_iconst (pc := 118) dX2_tell_118 (v := nI 0) (by decide) ?_
        refine x_zret (pc := 119) dX2_tell_119 rfl (by first | decide | exact bN_lt _ | omega) ?_
        first | exact va_i ⟨by rw [hh]; rfl, by rw [hh]; exact hC2, hfr⟩ | exact va_i ⟨by rw [hh]; rfl, by rw [hh]; exact hC0, fun _ _ => rfl⟩
      · skip
        try first | rw [n_b0] at h_111 | rw [n_eq0 (by omega)] at h_111
        simp only [Bool.not_eq_false] at h_111
        have hh := tl_v C l
        rw [if_pos ⟨h_103, h_111⟩] at hh
        rw [h_111] at hC2
        refine x_iconst (pc := 114) dX2_tell_114 (v := nI 1) (by decide) ?_
        refine x_goto (pc := 115) dX2_tell_115 (tgt := 119) (by decide) ?_
        refine x_zret (pc := 119) dX2_tell_119 rfl (by first | decide | exact bN_lt _ | omega) ?_
        first | exact va_i ⟨by rw [hh]; rfl, by rw [hh]; exact hC2, hfr⟩ | exact va_i ⟨by rw [hh]; rfl, by rw [hh]; exact hC0, fun _ _ => rfl⟩
  by_cases h114 : c = nI 114
  · subst h114
    refine x_tableIn (pc := 30) dX2_tell_30 (tgt := 120) (off := 90) (by decide +kernel) (by decide +kernel) (by decide +kernel) (by decide) ?_
    refine x_aload_n (pc := 120) dX2_tell_120 rfl ?_
    refine x_getf (pc := 121) dX2_tell_121 kf_X2_49 (by assumption) (by rfl) ?_
    refine x_iconst (pc := 124) dX2_tell_124 (v := nI 2) (by decide) ?_
    refine x_icmp_ne (pc := 125) dX2_tell_125 (tgt := 142) (by decide) (fun h_125 => ?_) (fun h_125 => ?_)
    · skip
      try first | rw [n_b1] at h_125 | rw [n_b00] at h_125 | rw [n_eq (by omega) (by omega)] at h_125
      have hh : tlS C (nI 114) l = none := by rw [tl_r, if_neg (fun q => h_125 q.1)]
      refine x_iconst (pc := 142) dX2_tell_142 (v := nI 0) (by decide) ?_
      refine x_zret (pc := 143) dX2_tell_143 rfl (by first | decide | exact bN_lt _ | omega) ?_
      first | exact va_i ⟨by rw [hh]; rfl, by rw [hh]; exact hC2, hfr⟩ | exact va_i ⟨by rw [hh]; rfl, by rw [hh]; exact hC0, fun _ _ => rfl⟩
    · replace h_125 := Classical.not_not.mp h_125
      try first | rw [n_b1] at h_125 | rw [n_b00] at h_125 | rw [n_eq (by omega) (by omega)] at h_125
      rw [g2 0 (by omega), g2 1 (by omega)]
      refine x_aload_n (pc := 128) dX2_tell_128 rfl ?_
      refine x_iload_n (pc := 129) dX2_tell_129 rfl ?_
      refine x_iload (pc := 130) dX2_tell_130 rfl ?_
      refine x_cv2 (q1 := 0) (q2 := 0) (ci := 0) (pc := 132) dX2_tell_132 ks_X2_67 (by assumption) (by rfl) (by omega) (by rfl) (by rfl) (by rfl) (c_addHang hC0 ok (hx 0) (hx 1)) (va_kk fun v w hP => ?_)
      obtain ⟨rfl, hC2, hfr⟩ := hP
      refine x_if_eq (pc := 135) dX2_tell_135 (tgt := 142) (by decide) (fun h_135 => ?_) (fun h_135 => ?_)
      · skip
        try first | rw [n_b0] at h_135 | rw [n_eq0 (by omega)] at h_135
        have hh : tlS C (nI 114) l = none := by rw [tl_r, if_neg (fun q => by rw [h_135] at q; cases q.2)]
        rw [h_135] at hC2
        refine x_iconst (pc := 142) dX2_tell_142 (v := nI 0) (by decide) ?_
        refine x_zret (pc := 143) dX2_tell_143 rfl (by first | decide | exact bN_lt _ | omega) ?_
        first | exact va_i ⟨by rw [hh]; rfl, by rw [hh]; exact hC2, hfr⟩ | exact va_i ⟨by rw [hh]; rfl, by rw [hh]; exact hC0, fun _ _ => rfl⟩
      · skip
        try first | rw [n_b0] at h_135 | rw [n_eq0 (by omega)] at h_135
        simp only [Bool.not_eq_false] at h_135
        have hh := tl_r C l
        rw [if_pos ⟨h_125, h_135⟩] at hh
        rw [h_135] at hC2
        refine x_iconst (pc := 138) dX2_tell_138 (v := nI 1) (by decide) ?_
        refine x_goto (pc := 139) dX2_tell_139 (tgt := 143) (by decide) ?_
        refine x_zret (pc := 143) dX2_tell_143 rfl (by first | decide | exact bN_lt _ | omega) ?_
        first | exact va_i ⟨by rw [hh]; rfl, by rw [hh]; exact hC2, hfr⟩ | exact va_i ⟨by rw [hh]; rfl, by rw [hh]; exact hC0, fun _ _ => rfl⟩
  by_cases h112 : c = nI 112
  · subst h112
    refine x_tableIn (pc := 30) dX2_tell_30 (tgt := 144) (off := 114) (by decide +kernel) (by decide +kernel) (by decide +kernel) (by decide) ?_
    refine x_aload_n (pc := 144) dX2_tell_144 rfl ?_
    refine x_getf (pc := 145) dX2_tell_145 kf_X2_49 (by assumption) (by rfl) ?_
    refine x_iconst (pc := 148) dX2_tell_148 (v := nI 2) (by decide) ?_
    refine x_icmp_ne (pc := 149) dX2_tell_149 (tgt := 166) (by decide) (fun h_149 => ?_) (fun h_149 => ?_)
    · skip
      try first | rw [n_b1] at h_149 | rw [n_b00] at h_149 | rw [n_eq (by omega) (by omega)] at h_149
      have hh : tlS C (nI 112) l = none := by rw [tl_p, if_neg (fun q => h_149 q.1)]
      refine x_iconst (pc := 166) dX2_tell_166 (v := nI 0) (by decide) ?_
      refine x_zret (pc := 167) dX2_tell_167 rfl (by first | decide | exact bN_lt _ | omega) ?_
      first | exact va_i ⟨by rw [hh]; rfl, by rw [hh]; exact hC2, hfr⟩ | exact va_i ⟨by rw [hh]; rfl, by rw [hh]; exact hC0, fun _ _ => rfl⟩
    · replace h_149 := Classical.not_not.mp h_149
      try first | rw [n_b1] at h_149 | rw [n_b00] at h_149 | rw [n_eq (by omega) (by omega)] at h_149
      rw [g2 0 (by omega), g2 1 (by omega)]
      refine x_aload_n (pc := 152) dX2_tell_152 rfl ?_
      refine x_iload_n (pc := 153) dX2_tell_153 rfl ?_
      refine x_iload (pc := 154) dX2_tell_154 rfl ?_
      refine x_cv2 (q1 := 0) (q2 := 0) (ci := 0) (pc := 156) dX2_tell_156 ks_X2_71 (by assumption) (by rfl) (by omega) (by rfl) (by rfl) (by rfl) (c_addPerson hC0 ok (hx 0) (hx 1)) (va_kk fun v w hP => ?_)
      obtain ⟨rfl, hC2, hfr⟩ := hP
      refine x_if_eq (pc := 159) dX2_tell_159 (tgt := 166) (by decide) (fun h_159 => ?_) (fun h_159 => ?_)
      · skip
        try first | rw [n_b0] at h_159 | rw [n_eq0 (by omega)] at h_159
        have hh : tlS C (nI 112) l = none := by rw [tl_p, if_neg (fun q => by rw [h_159] at q; cases q.2)]
        rw [h_159] at hC2
        refine x_iconst (pc := 166) dX2_tell_166 (v := nI 0) (by decide) ?_
        refine x_zret (pc := 167) dX2_tell_167 rfl (by first | decide | exact bN_lt _ | omega) ?_
        first | exact va_i ⟨by rw [hh]; rfl, by rw [hh]; exact hC2, hfr⟩ | exact va_i ⟨by rw [hh]; rfl, by rw [hh]; exact hC0, fun _ _ => rfl⟩
      · skip
        try first | rw [n_b0] at h_159 | rw [n_eq0 (by omega)] at h_159
        simp only [Bool.not_eq_false] at h_159
        have hh := tl_p C l
        rw [if_pos ⟨h_149, h_159⟩] at hh
        rw [h_159] at hC2
        refine x_iconst (pc := 162) dX2_tell_162 (v := nI 1) (by decide) ?_
        refine x_goto (pc := 163) dX2_tell_163 (tgt := 167) (by decide) ?_
        refine x_zret (pc := 167) dX2_tell_167 rfl (by first | decide | exact bN_lt _ | omega) ?_
        first | exact va_i ⟨by rw [hh]; rfl, by rw [hh]; exact hC2, hfr⟩ | exact va_i ⟨by rw [hh]; rfl, by rw [hh]; exact hC0, fun _ _ => rfl⟩
  have hh : tlS C c l = none := tl_no h115 h118 h114 h112
  have hret : Run m_X2_tell 3 0 0 168 [some (.ref k), some (.int c), some (.ref s), some (.int (f 0)), some (.int (f 1)), some (.int (f 2))] [] w n (Va (fun v w' => v = .int (nI (bN (tlS C c l).isSome)) ∧ isC w' s ((tlS C c l).getD C) ∧ sameW w w' s 6) n) := by
    refine x_iconst (pc := 168) dX2_tell_168 (v := nI 0) (by decide) ?_
    refine x_zret (pc := 169) dX2_tell_169 rfl (by first | decide | exact bN_lt _ | omega) ?_
    exact va_i ⟨by rw [hh]; rfl, by rw [hh]; exact hC0, fun _ _ => rfl⟩
  have key : ∀ v : Int, 112 ≤ v → v ≤ 118 → c.toInt = v → (v = 113 ∨ v = 116 ∨ v = 117) := by
    intro v v1 v2 hv
    have hne : ∀ m : Nat, m < 1000 → ¬ c = nI m → ¬ c.toInt = (m : Int) := fun m hm h q => h (Int32.toInt_inj.mp (q.trans (nI_toInt (by omega)).symm))
    have a1 := hne 115 (by decide) h115
    have a2 := hne 118 (by decide) h118
    have a3 := hne 114 (by decide) h114
    have a4 := hne 112 (by decide) h112
    omega
  by_cases hlo : c.toInt < 112 ∨ 118 < c.toInt
  · exact x_tableOut (pc := 30) dX2_tell_30 (tgt := 168) hlo (by decide) hret
  · have hv := key c.toInt (by omega) (by omega) rfl
    rcases hv with hv | hv | hv
    · exact x_tableIn (pc := 30) dX2_tell_30 (tgt := 168) (off := 138) (by omega) (by omega) (by rw [hv]; rfl) (by decide) hret
    · exact x_tableIn (pc := 30) dX2_tell_30 (tgt := 168) (off := 138) (by omega) (by omega) (by rw [hv]; rfl) (by decide) hret
    · exact x_tableIn (pc := 30) dX2_tell_30 (tgt := 168) (off := 138) (by omega) (by omega) (by rw [hv]; rfl) (by decide) hret
/-- reading on from a place: where the FAULT is, and what is told up to it -/
def raF (T : List Nat) : Nat → Crt → Nat → Option Nat × Crt
  | 0, C, _ => (none, C)
  | m + 1, C, p => if p < T.length then (match rdF T 3 (p + 1) with
    | none => (some p, C)
    | some q => match tlS C (ltI T p) q.1 with
      | none => (some p, C)
      | some C' => raF T m C' q.2) else (none, C)
def raS (T : List Nat) : Option Nat × Crt := raF T 200 noC 0
theorem okC_raF (T : List Nat) : ∀ m C p, okC C → okC (raF T m C p).2
  | 0, C, p, h => h
  | m + 1, C, p, h => by
    simp only [raF]
    split
    · split
      · exact h
      · split
        · exact h
        · next h2 => exact okC_raF T m _ _ (okC_tlS h h2)
    · exact h
theorem raF_lt (T : List Nat) : ∀ m C p a, (raF T m C p).1 = some a → a < T.length
  | 0, C, p, a, h => by simp [raF] at h
  | m + 1, C, p, a, h => by
    simp only [raF] at h
    split at h
    · next hp =>
      split at h
      · cases h; exact hp
      · split at h
        · cases h; exact hp
        · exact raF_lt T m _ _ a h
    · cases h
def rsI (o : Option Nat) : Int32 := match o with
  | some a => nI a
  | none => -4
theorem c_readAll {w : ax_W} {n k t s : Nat} {T : List Nat} {C0 : Crt} (hR : anyR w k) (hT : isT w t T) (okt : okT T) (hC : isC w s C0) (h1 : k + 2 ≤ t ∨ t + 2 ≤ k) (h2 : k + 2 ≤ s ∨ s + 6 ≤ k) (h3 : t + 2 ≤ s ∨ s + 6 ≤ t) : Run m_X2_readAll 4 0 0 0 (l_ent m_X2_readAll [.ref k, .ref t, .ref s]) [] w n (Va (fun v w' => v = .int (rsI (raS T).1) ∧ isC w' s (raS T).2 ∧ anyR w' k ∧ ∀ j, (j < k ∨ k + 2 ≤ j) → (j < s ∨ s + 6 ≤ j) → w' j = w j) n) := by
  have hT0 := hT
  have hlen := okt.1
  have loop : ∀ m i p C z5 (wi : ax_W), i + m = 200 → p < 1000 → okC C → anyR wi k → isC wi s C → (∀ j, (j < k ∨ k + 2 ≤ j) → (j < s ∨ s + 6 ≤ j) → wi j = w j) →
      Run m_X2_readAll 4 0 0 9 [some (.ref k), some (.ref t), some (.ref s), some (.int (nI p)), some (.int (nI i)), z5] [] wi n (Va (fun v w' => v = .int (rsI (raF T m C p).1) ∧ isC w' s (raF T m C p).2 ∧ anyR w' k ∧ ∀ j, (j < k ∨ k + 2 ≤ j) → (j < s ∨ s + 6 ≤ j) → w' j = w j) n) := by
    intro m
    induction m with
    | zero =>
      intro i p C z5 w hi hp ok hR hC hfr
      refine x_iload (pc := 9) dX2_readAll_9 rfl ?_
      refine x_sipush (pc := 11) dX2_readAll_11 (v := nI 200) (by decide) ?_
      refine x_icmp_ge_t (pc := 14) dX2_readAll_14 (tgt := 66) (by decide) (nI_le (by omega) (by omega)) ?_
      refine x_bipush (pc := 66) dX2_readAll_66 (v := -4) (by decide) ?_
      refine x_iret (pc := 68) dX2_readAll_68 rfl rfl ?_
      exact va_i ⟨rfl, hC, hR, hfr⟩
    | succ m ih =>
      intro i p C z5 w hi hp ok hR hC hfr
      have hT : isT w t T := hT0.go fun j g1 g2 => hfr j (by omega) (by omega)
      have hTk := hT.1
      obtain ⟨aR, fR, hRk, hRk1⟩ := id hR
      refine x_iload (pc := 9) dX2_readAll_9 rfl ?_
      refine x_sipush (pc := 11) dX2_readAll_11 (v := nI 200) (by decide) ?_
      refine x_icmp_ge_f (pc := 14) dX2_readAll_14 (tgt := 66) (by decide) (nI_ge (by omega) (by omega)) ?_
      refine x_iload_n (pc := 17) dX2_readAll_17 rfl ?_
      refine x_aload_n (pc := 18) dX2_readAll_18 rfl ?_
      refine x_getf (pc := 19) dX2_readAll_19 kf_X2_20 (by assumption) (by rfl) ?_
      refine x_icmp_ge (pc := 22) dX2_readAll_22 (tgt := 66) (by decide) (fun h_22 => ?_) (fun h_22 => ?_)
      · skip
        try first | rw [n_b1] at h_22 | rw [n_b00] at h_22 | rw [n_le (by omega) (by omega)] at h_22
        have hh : raF T (m + 1) C p = (none, C) := by simp only [raF]; rw [if_neg (by omega)]
        refine x_bipush (pc := 66) dX2_readAll_66 (v := -4) (by decide) ?_
        refine x_iret (pc := 68) dX2_readAll_68 rfl rfl ?_
        exact va_i ⟨by rw [hh]; rfl, by rw [hh]; exact hC, hR, hfr⟩
      · skip
        try first | rw [n_b1] at h_22 | rw [n_b00] at h_22 | rw [n_le (by omega) (by omega)] at h_22
        refine x_aload_n (pc := 25) dX2_readAll_25 rfl ?_
        refine x_aload_n (pc := 26) dX2_readAll_26 rfl ?_
        refine x_iload_n (pc := 27) dX2_readAll_27 rfl ?_
        refine x_iconst (pc := 28) dX2_readAll_28 (v := nI 1) (by decide) ?_
        first | refine xn_iadd (pc := 29) dX2_readAll_29 ?_ | refine x_iadd (pc := 29) dX2_readAll_29 ?_
        refine x_cv2 (q1 := 0) (q2 := 0) (ci := 2) (pc := 30) dX2_readAll_30 ks_X2_26 (by assumption) (by rfl) (by omega) (by rfl) (by rfl) (by rfl) (c_readNumbers hR hT okt h1 (by omega)) (va_kk fun v w hP => ?_)
        obtain ⟨rfl, hR1, hR2, hfr1⟩ := hP
        have hC : isC w s C := hC.go fun j g1 g2 => hfr1 j (by omega)
        have hT : isT w t T := hT.go fun j g1 g2 => hfr1 j (by omega)
        replace hfr := fun j (g1 : j < k ∨ k + 2 ≤ j) (g2 : j < s ∨ s + 6 ≤ j) => (hfr1 j (by omega)).trans (hfr j g1 g2)
        clear hR hRk hRk1 hTk hfr1
        cases hr : rdF T 3 (p + 1) with
        | none =>
          have hh : raF T (m + 1) C p = (some p, C) := by simp only [raF]; rw [if_pos (by omega), hr]
          refine x_istore (pc := 33) dX2_readAll_33 rfl ?_
          refine x_iload (pc := 35) dX2_readAll_35 rfl ?_
          refine x_bipush (pc := 37) dX2_readAll_37 (v := -4) (by decide) ?_
          refine x_icmp_eq_t (pc := 39) dX2_readAll_39 (tgt := 55) (by decide) rfl ?_
          refine x_iload_n (pc := 55) dX2_readAll_55 rfl ?_
          refine x_iret (pc := 56) dX2_readAll_56 rfl rfl ?_
          exact va_i ⟨by rw [hh]; rfl, by rw [hh]; exact hC, hR1, hfr⟩
        | some q =>
          obtain ⟨l, e⟩ := q
          obtain ⟨b1, b2, b3, b4⟩ := rdF_lt hr
          have hR3 := hR2 _ hr
          obtain ⟨fR, hRk, hRk1, -⟩ := id hR3
          have hTk := hT.1
          have hne : ¬ nI e = -4 := by rw [show (-4 : Int32) = nI 4294967292 from by decide +kernel]; intro q; have := congrArg (fun x : Int32 => x.toInt) q; rw [show (nI e).toInt = (e : Int) from nI_toInt (by omega)] at this; revert this; rw [show (nI 4294967292).toInt = -4 from by decide +kernel]; omega
          refine x_istore (pc := 33) dX2_readAll_33 rfl ?_
          refine x_iload (pc := 35) dX2_readAll_35 rfl ?_
          refine x_bipush (pc := 37) dX2_readAll_37 (v := -4) (by decide) ?_
          refine x_icmp_eq_f (pc := 39) dX2_readAll_39 (tgt := 55) (by decide) hne ?_
          refine x_aload_n (pc := 42) dX2_readAll_42 rfl ?_
          refine x_aload_n (pc := 43) dX2_readAll_43 rfl ?_
          refine x_iload_n (pc := 44) dX2_readAll_44 rfl ?_
          refine x_cv1p (ci := 3) (pc := 45) dX2_readAll_45 ks_X2_30 (by assumption) (by rfl) (by omega) (by rfl) (by rfl) (by rfl) (c_letterAt hT okt (by omega)) ?_
          refine x_aload_n (pc := 48) dX2_readAll_48 rfl ?_
          refine x_cv2 (q1 := 0) (q2 := 0) (ci := 2) (pc := 49) dX2_readAll_49 ks_X2_34 (by assumption) (by rfl) (by omega) (by rfl) (by rfl) (by rfl) (c_tell hR3 hC ok b4 b1 h2 _) (va_kk fun v w hP => ?_)
          obtain ⟨rfl, hC2, hfr2⟩ := hP
          refine x_if_ne (pc := 52) dX2_readAll_52 (tgt := 57) (by decide) (fun h_52 => ?_) (fun h_52 => ?_)
          · skip
            try first | rw [n_b0] at h_52 | rw [n_eq0 (by omega)] at h_52
            cases ht : tlS C (ltI T p) l with
            | none => rw [ht] at h_52; exact absurd rfl h_52
            | some C' =>
              rw [ht] at hC2
              have hh : raF T (m + 1) C p = raF T m C' e := by simp only [raF]; rw [if_pos (by omega), hr]; simp only [ht]
              rw [hh]
              refine x_iload (pc := 57) dX2_readAll_57 rfl ?_
              refine x_istore_n (pc := 59) dX2_readAll_59 rfl ?_
              refine xn_iinc (pc := 60) dX2_readAll_60 rfl rfl ?_
              refine x_goto (pc := 63) dX2_readAll_63 (tgt := 9) (by decide) ?_
              exact ih (i + 1) e C' _ _ (by omega) (by omega) (okC_tlS ok ht) ⟨_, fR, (hfr2 _ (by omega)).trans hRk, (hfr2 _ (by omega)).trans hRk1⟩ hC2 (fun j g1 g2 => (hfr2 j g2).trans (hfr j g1 g2))
          · replace h_52 := Classical.not_not.mp h_52
            try first | rw [n_b0] at h_52 | rw [n_eq0 (by omega)] at h_52
            have ht : tlS C (ltI T p) l = none := by cases ht : tlS C (ltI T p) l with
              | none => rfl
              | some C' => rw [ht] at h_52; cases h_52
            rw [ht] at hC2
            have hh : raF T (m + 1) C p = (some p, C) := by simp only [raF]; rw [if_pos (by omega), hr]; simp only [ht]
            refine x_iload_n (pc := 55) dX2_readAll_55 rfl ?_
            refine x_iret (pc := 56) dX2_readAll_56 rfl rfl ?_
            exact va_i ⟨by rw [hh]; rfl, by rw [hh]; exact hC2, ⟨_, fR, (hfr2 _ (by omega)).trans hRk, (hfr2 _ (by omega)).trans hRk1⟩, fun j g1 g2 => (hfr2 j g2).trans (hfr j g1 g2)⟩
  obtain ⟨hCk, -⟩ := id hC
  refine x_aload_n (pc := 0) dX2_readAll_0 rfl ?_
  refine x_cv0 (q1 := 0) (q2 := 0) (ci := 0) (pc := 1) dX2_readAll_1 ks_X2_15 (by assumption) (by rfl) (by omega) (by rfl) (by rfl) (by rfl) (c_clearC hC) (vo_kk fun w hP => ?_)
  obtain ⟨hC1, hfr1⟩ := hP
  obtain ⟨aR, fR, hRk, hRk1⟩ := hR
  refine x_iconst (pc := 4) dX2_readAll_4 (v := nI 0) (by decide) ?_
  refine x_istore_n (pc := 5) dX2_readAll_5 rfl ?_
  refine x_iconst (pc := 6) dX2_readAll_6 (v := nI 0) (by decide) ?_
  refine x_istore (pc := 7) dX2_readAll_7 rfl ?_
  exact loop 200 0 0 noC _ w (by omega) (by omega) okC_no ⟨aR, fR, (hfr1 _ (by omega)).trans hRk, (hfr1 _ (by omega)).trans hRk1⟩ hC1 (fun j _ g2 => hfr1 j g2)
theorem c_scriptAdd {w : ax_W} {n k : Nat} {T : List Nat} (hT : isT w k T) (ok : okT T) {c : Nat} (hc : c < 200) : Run m_X3_add 1 0 0 0 (l_ent m_X3_add [.ref k, .int (nI c)]) [] w n (Va (fun v w' => v = .int (nI (bN (decide (T.length < 200)))) ∧ isT w' k (if T.length < 200 then T ++ [c] else T) ∧ sameW w w' k 2) n) := by
  have hT0 := hT
  obtain ⟨hK, f, g1, g2⟩ := hT
  have hl := ok.1
  have hfr : ∀ j, (j < k ∨ k + 2 ≤ j) → w j = w j := fun _ _ => rfl
  refine x_aload_n (pc := 0) dX3_add_0 rfl ?_
  refine x_getf (pc := 1) dX3_add_1 kf_X3_15 (by assumption) (by rfl) ?_
  refine x_sipush (pc := 4) dX3_add_4 (v := nI 200) (by decide) ?_
  refine x_icmp_lt (pc := 7) dX3_add_7 (tgt := 12) (by decide) (fun h_7 => ?_) (fun h_7 => ?_)
  · skip
    try first | rw [n_b1] at h_7 | rw [n_b00] at h_7 | rw [n_lt (by omega) (by omega)] at h_7
    refine x_aload_n (pc := 12) dX3_add_12 rfl ?_
    refine x_getf (pc := 13) dX3_add_13 kf_X3_9 (by assumption) (by rfl) ?_
    refine x_aload_n (pc := 16) dX3_add_16 rfl ?_
    refine x_getf (pc := 17) dX3_add_17 kf_X3_15 (by assumption) (by rfl) ?_
    refine x_iload_n (pc := 20) dX3_add_20 rfl ?_
    refine x_cs3 (q1 := 0) (q2 := 0) (pc := 21) dX3_add_21 ks_X3_19 (by omega) (by rfl) (by rfl) (by rfl) (c_put (by assumption) (by omega) (by omega)) (vo_kk fun w hP => ?_)
    obtain ⟨hnew, hne⟩ := hP
    replace hK := (hne _ (by omega)).trans hK
    replace g1 := hnew
    replace hfr := fun j (hj : j < k ∨ k + 2 ≤ j) => (hne j (by omega)).trans (hfr j hj)
    clear hne
    refine x_aload_n (pc := 24) dX3_add_24 rfl ?_
    refine x_dup (pc := 25) dX3_add_25 rfl ?_
    refine x_getf (pc := 26) dX3_add_26 kf_X3_15 (by assumption) (by rfl) ?_
    refine x_iconst (pc := 29) dX3_add_29 (v := nI 1) (by decide) ?_
    first | refine xn_iadd (pc := 30) dX3_add_30 ?_ | refine x_iadd (pc := 30) dX3_add_30 ?_
    refine xw_puti (pc := 31) dX3_add_31 kf_X3_15 (by assumption) (by rfl) (by rfl) rfl rfl (fun w hnew hne => ?_)
    replace hK := hnew
    replace g1 := (hne _ (by omega)).trans g1
    replace hfr := fun j (hj : j < k ∨ k + 2 ≤ j) => (hne j (by omega)).trans (hfr j hj)
    clear hne
    refine x_iconst (pc := 34) dX3_add_34 (v := nI 1) (by decide) ?_
    refine x_zret (pc := 35) dX3_add_35 rfl (by first | decide | exact bN_lt _ | omega) ?_
    refine va_i ⟨by rw [decide_eq_true h_7]; rfl, ?_, hfr⟩
    rw [if_pos h_7]
    refine ⟨?_, _, g1, fun i hi => ?_⟩
    · rw [show (T ++ [c]).length = T.length + 1 by simp]
      exact hK
    · have hi' : i < T.length + 1 := by simpa using hi
      by_cases hit : i = T.length
      · subst hit
        rw [upd_same]
        simp
      · rw [upd_ne _ _ hit, g2 i (by omega), List.getD_eq_getElem?_getD, List.getD_eq_getElem?_getD, List.getElem?_append_left (by omega)]
  · skip
    try first | rw [n_b1] at h_7 | rw [n_b00] at h_7 | rw [n_lt (by omega) (by omega)] at h_7
    refine x_iconst (pc := 10) dX3_add_10 (v := nI 0) (by decide) ?_
    refine x_zret (pc := 11) dX3_add_11 rfl (by first | decide | exact bN_lt _ | omega) ?_
    exact va_i ⟨by rw [decide_eq_false h_7]; rfl, by rw [if_neg h_7]; exact hT0, fun _ _ => rfl⟩
theorem c_scriptClear {w : ax_W} {n k : Nat} {T : List Nat} (hT : isT w k T) : Run m_X3_clear 0 0 0 0 (l_ent m_X3_clear [.ref k]) [] w n (Vo (fun w' => isT w' k [] ∧ sameW w w' k 2) n) := by
  obtain ⟨hK, f, g1, g2⟩ := hT
  have hfr : ∀ j, (j < k ∨ k + 2 ≤ j) → w j = w j := fun _ _ => rfl
  refine x_aload_n (pc := 0) dX3_clear_0 rfl ?_
  refine x_iconst (pc := 1) dX3_clear_1 (v := nI 0) (by decide) ?_
  refine xw_puti (pc := 2) dX3_clear_2 kf_X3_15 (by assumption) (by rfl) (by rfl) rfl rfl (fun w hnew hne => ?_)
  replace hK := hnew
  replace g1 := (hne _ (by omega)).trans g1
  replace hfr := fun j (hj : j < k ∨ k + 2 ≤ j) => (hne j (by omega)).trans (hfr j hj)
  clear hne
  refine x_vret (pc := 5) dX3_clear_5 rfl ?_
  exact vo_i ⟨⟨hK, f, g1, fun i hi => absurd hi (Nat.not_lt_zero i)⟩, hfr⟩
end
