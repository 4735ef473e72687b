section
-- ===== PART A: goes FIRST, ahead of the names: the tables' words, and 'selects' of the private methods out of them =====
/-- a private method of a class that the tables say can be made, by its rows of tables_1 -/
def lw_okq (q : MethodName × Nat) : Prop := (q.1.cls ≠ "java/lang/invoke/MethodHandle" ∧ q.1.cls ≠ "java/lang/invoke/VarHandle") ∧ Cond.instantiable q.1.cls q.2 ∈ tables_1 ∧ Cond.privateMethod q.1 ∈ tables_1 ∧ Cond.instanceMethod q.1 ∈ tables_1
theorem lw_p0 : lw_okq (⟨"EditionBook", "putOne", "(I)V"⟩, 10) := ⟨⟨by decide +kernel, by decide +kernel⟩, List.mem_of_getElem? (i := 12) (by decide +kernel), List.mem_of_getElem? (i := 198) (by decide +kernel), List.mem_of_getElem? (i := 199) (by decide +kernel)⟩
theorem lw_p1 : lw_okq (⟨"EditionBook", "faultOfTape", "(I)I"⟩, 10) := ⟨⟨by decide +kernel, by decide +kernel⟩, List.mem_of_getElem? (i := 12) (by decide +kernel), List.mem_of_getElem? (i := 222) (by decide +kernel), List.mem_of_getElem? (i := 223) (by decide +kernel)⟩
theorem lw_p2 : lw_okq (⟨"EditionBook$Reader", "codeFault", "(IIZ)I"⟩, 11) := ⟨⟨by decide +kernel, by decide +kernel⟩, List.mem_of_getElem? (i := 20) (by decide +kernel), List.mem_of_getElem? (i := 251) (by decide +kernel), List.mem_of_getElem? (i := 252) (by decide +kernel)⟩
theorem lw_p3 : lw_okq (⟨"EditionBook$Reader", "textAt", "(I)I"⟩, 11) := ⟨⟨by decide +kernel, by decide +kernel⟩, List.mem_of_getElem? (i := 20) (by decide +kernel), List.mem_of_getElem? (i := 255) (by decide +kernel), List.mem_of_getElem? (i := 256) (by decide +kernel)⟩
theorem lw_p4 : lw_okq (⟨"EditionBook$Reader", "isIntRight", "(II)Z"⟩, 11) := ⟨⟨by decide +kernel, by decide +kernel⟩, List.mem_of_getElem? (i := 20) (by decide +kernel), List.mem_of_getElem? (i := 264) (by decide +kernel), List.mem_of_getElem? (i := 265) (by decide +kernel)⟩
theorem lw_p5 : lw_okq (⟨"EditionBook$Reader", "standsFor", "(II)Z"⟩, 11) := ⟨⟨by decide +kernel, by decide +kernel⟩, List.mem_of_getElem? (i := 20) (by decide +kernel), List.mem_of_getElem? (i := 268) (by decide +kernel), List.mem_of_getElem? (i := 269) (by decide +kernel)⟩
theorem lw_p6 : lw_okq (⟨"EditionBook$Reader", "bind", "(I)V"⟩, 11) := ⟨⟨by decide +kernel, by decide +kernel⟩, List.mem_of_getElem? (i := 20) (by decide +kernel), List.mem_of_getElem? (i := 275) (by decide +kernel), List.mem_of_getElem? (i := 276) (by decide +kernel)⟩
theorem lw_p7 : lw_okq (⟨"EditionBook$Reader", "readParent", "()Z"⟩, 11) := ⟨⟨by decide +kernel, by decide +kernel⟩, List.mem_of_getElem? (i := 20) (by decide +kernel), List.mem_of_getElem? (i := 280) (by decide +kernel), List.mem_of_getElem? (i := 281) (by decide +kernel)⟩
theorem lw_p8 : lw_okq (⟨"EditionBook$Reader", "isThere", "(III)Z"⟩, 11) := ⟨⟨by decide +kernel, by decide +kernel⟩, List.mem_of_getElem? (i := 20) (by decide +kernel), List.mem_of_getElem? (i := 284) (by decide +kernel), List.mem_of_getElem? (i := 285) (by decide +kernel)⟩
theorem lw_p9 : lw_okq (⟨"EditionBook$Reader", "readFields", "()I"⟩, 11) := ⟨⟨by decide +kernel, by decide +kernel⟩, List.mem_of_getElem? (i := 20) (by decide +kernel), List.mem_of_getElem? (i := 292) (by decide +kernel), List.mem_of_getElem? (i := 293) (by decide +kernel)⟩
theorem lw_p10 : lw_okq (⟨"EditionBook$Reader", "readMethods", "()I"⟩, 11) := ⟨⟨by decide +kernel, by decide +kernel⟩, List.mem_of_getElem? (i := 20) (by decide +kernel), List.mem_of_getElem? (i := 336) (by decide +kernel), List.mem_of_getElem? (i := 337) (by decide +kernel)⟩
theorem lw_p11 : lw_okq (⟨"EditionBook", "takeTape", "(I)V"⟩, 10) := ⟨⟨by decide +kernel, by decide +kernel⟩, List.mem_of_getElem? (i := 12) (by decide +kernel), List.mem_of_getElem? (i := 347) (by decide +kernel), List.mem_of_getElem? (i := 348) (by decide +kernel)⟩
theorem lw_p12 : lw_okq (⟨"EditionBook", "runCell", "(I)I"⟩, 10) := ⟨⟨by decide +kernel, by decide +kernel⟩, List.mem_of_getElem? (i := 12) (by decide +kernel), List.mem_of_getElem? (i := 352) (by decide +kernel), List.mem_of_getElem? (i := 353) (by decide +kernel)⟩
theorem lw_p13 : lw_okq (⟨"EditionBook$Image", "addEdition", "(I)I"⟩, 4) := ⟨⟨by decide +kernel, by decide +kernel⟩, List.mem_of_getElem? (i := 96) (by decide +kernel), List.mem_of_getElem? (i := 380) (by decide +kernel), List.mem_of_getElem? (i := 381) (by decide +kernel)⟩
theorem lw_p14 : lw_okq (⟨"EditionBook$Image", "inherit", "(II)V"⟩, 4) := ⟨⟨by decide +kernel, by decide +kernel⟩, List.mem_of_getElem? (i := 96) (by decide +kernel), List.mem_of_getElem? (i := 384) (by decide +kernel), List.mem_of_getElem? (i := 385) (by decide +kernel)⟩
theorem lw_p15 : lw_okq (⟨"EditionBook$Worker", "openFrame", "(III)I"⟩, 9) := ⟨⟨by decide +kernel, by decide +kernel⟩, List.mem_of_getElem? (i := 90) (by decide +kernel), List.mem_of_getElem? (i := 395) (by decide +kernel), List.mem_of_getElem? (i := 396) (by decide +kernel)⟩
def lw_privs_1 : List (MethodName × Nat) := [(⟨"EditionBook", "putOne", "(I)V"⟩, 10), (⟨"EditionBook", "faultOfTape", "(I)I"⟩, 10), (⟨"EditionBook$Reader", "codeFault", "(IIZ)I"⟩, 11), (⟨"EditionBook$Reader", "textAt", "(I)I"⟩, 11), (⟨"EditionBook$Reader", "isIntRight", "(II)Z"⟩, 11), (⟨"EditionBook$Reader", "standsFor", "(II)Z"⟩, 11), (⟨"EditionBook$Reader", "bind", "(I)V"⟩, 11), (⟨"EditionBook$Reader", "readParent", "()Z"⟩, 11), (⟨"EditionBook$Reader", "isThere", "(III)Z"⟩, 11), (⟨"EditionBook$Reader", "readFields", "()I"⟩, 11), (⟨"EditionBook$Reader", "readMethods", "()I"⟩, 11), (⟨"EditionBook", "takeTape", "(I)V"⟩, 10), (⟨"EditionBook", "runCell", "(I)I"⟩, 10), (⟨"EditionBook$Image", "addEdition", "(I)I"⟩, 4), (⟨"EditionBook$Image", "inherit", "(II)V"⟩, 4), (⟨"EditionBook$Worker", "openFrame", "(III)I"⟩, 9)]
theorem lw_r1 : ∀ q ∈ lw_privs_1, lw_okq q := List.forall_mem_cons.mpr ⟨lw_p0, List.forall_mem_cons.mpr ⟨lw_p1, List.forall_mem_cons.mpr ⟨lw_p2, List.forall_mem_cons.mpr ⟨lw_p3, List.forall_mem_cons.mpr ⟨lw_p4, List.forall_mem_cons.mpr ⟨lw_p5, List.forall_mem_cons.mpr ⟨lw_p6, List.forall_mem_cons.mpr ⟨lw_p7, List.forall_mem_cons.mpr ⟨lw_p8, List.forall_mem_cons.mpr ⟨lw_p9, List.forall_mem_cons.mpr ⟨lw_p10, List.forall_mem_cons.mpr ⟨lw_p11, List.forall_mem_cons.mpr ⟨lw_p12, List.forall_mem_cons.mpr ⟨lw_p13, List.forall_mem_cons.mpr ⟨lw_p14, List.forall_mem_cons.mpr ⟨lw_p15, fun _ h => absurd h List.not_mem_nil⟩⟩⟩⟩⟩⟩⟩⟩⟩⟩⟩⟩⟩⟩⟩⟩
theorem lw_p16 : lw_okq (⟨"EditionBook$Worker", "closeFrame", "()I"⟩, 9) := ⟨⟨by decide +kernel, by decide +kernel⟩, List.mem_of_getElem? (i := 90) (by decide +kernel), List.mem_of_getElem? (i := 408) (by decide +kernel), List.mem_of_getElem? (i := 409) (by decide +kernel)⟩
theorem lw_p17 : lw_okq (⟨"EditionBook$Worker", "make", "(I)I"⟩, 9) := ⟨⟨by decide +kernel, by decide +kernel⟩, List.mem_of_getElem? (i := 90) (by decide +kernel), List.mem_of_getElem? (i := 416) (by decide +kernel), List.mem_of_getElem? (i := 417) (by decide +kernel)⟩
theorem lw_p18 : lw_okq (⟨"EditionBook$Image", "nextToStart", "(I)I"⟩, 4) := ⟨⟨by decide +kernel, by decide +kernel⟩, List.mem_of_getElem? (i := 96) (by decide +kernel), List.mem_of_getElem? (i := 428) (by decide +kernel), List.mem_of_getElem? (i := 429) (by decide +kernel)⟩
theorem lw_p19 : lw_okq (⟨"EditionBook$Worker", "takeAndPut", "(III)I"⟩, 9) := ⟨⟨by decide +kernel, by decide +kernel⟩, List.mem_of_getElem? (i := 90) (by decide +kernel), List.mem_of_getElem? (i := 436) (by decide +kernel), List.mem_of_getElem? (i := 437) (by decide +kernel)⟩
theorem lw_p20 : lw_okq (⟨"EditionBook$Worker", "isDeep", "()Z"⟩, 9) := ⟨⟨by decide +kernel, by decide +kernel⟩, List.mem_of_getElem? (i := 90) (by decide +kernel), List.mem_of_getElem? (i := 440) (by decide +kernel), List.mem_of_getElem? (i := 441) (by decide +kernel)⟩
theorem lw_p21 : lw_okq (⟨"EditionBook$Worker", "breakStarts", "()Z"⟩, 9) := ⟨⟨by decide +kernel, by decide +kernel⟩, List.mem_of_getElem? (i := 90) (by decide +kernel), List.mem_of_getElem? (i := 444) (by decide +kernel), List.mem_of_getElem? (i := 445) (by decide +kernel)⟩
theorem lw_p22 : lw_okq (⟨"EditionBook$Worker", "act", "(I)I"⟩, 9) := ⟨⟨by decide +kernel, by decide +kernel⟩, List.mem_of_getElem? (i := 90) (by decide +kernel), List.mem_of_getElem? (i := 448) (by decide +kernel), List.mem_of_getElem? (i := 449) (by decide +kernel)⟩
theorem lw_p23 : lw_okq (⟨"EditionBook$Worker", "codeAt", "(II)I"⟩, 9) := ⟨⟨by decide +kernel, by decide +kernel⟩, List.mem_of_getElem? (i := 90) (by decide +kernel), List.mem_of_getElem? (i := 452) (by decide +kernel), List.mem_of_getElem? (i := 453) (by decide +kernel)⟩
theorem lw_p24 : lw_okq (⟨"EditionBook$Worker", "isLastOf", "(I)Z"⟩, 9) := ⟨⟨by decide +kernel, by decide +kernel⟩, List.mem_of_getElem? (i := 90) (by decide +kernel), List.mem_of_getElem? (i := 457) (by decide +kernel), List.mem_of_getElem? (i := 458) (by decide +kernel)⟩
theorem lw_p25 : lw_okq (⟨"EditionBook$Worker", "kindAt", "(I)I"⟩, 9) := ⟨⟨by decide +kernel, by decide +kernel⟩, List.mem_of_getElem? (i := 90) (by decide +kernel), List.mem_of_getElem? (i := 461) (by decide +kernel), List.mem_of_getElem? (i := 462) (by decide +kernel)⟩
theorem lw_p26 : lw_okq (⟨"EditionBook$Worker", "numberAt", "(I)I"⟩, 9) := ⟨⟨by decide +kernel, by decide +kernel⟩, List.mem_of_getElem? (i := 90) (by decide +kernel), List.mem_of_getElem? (i := 465) (by decide +kernel), List.mem_of_getElem? (i := 466) (by decide +kernel)⟩
theorem lw_p27 : lw_okq (⟨"EditionBook$Worker", "readField", "(I)I"⟩, 9) := ⟨⟨by decide +kernel, by decide +kernel⟩, List.mem_of_getElem? (i := 90) (by decide +kernel), List.mem_of_getElem? (i := 473) (by decide +kernel), List.mem_of_getElem? (i := 474) (by decide +kernel)⟩
theorem lw_p28 : lw_okq (⟨"EditionBook$Worker", "writeField", "(I)I"⟩, 9) := ⟨⟨by decide +kernel, by decide +kernel⟩, List.mem_of_getElem? (i := 90) (by decide +kernel), List.mem_of_getElem? (i := 481) (by decide +kernel), List.mem_of_getElem? (i := 482) (by decide +kernel)⟩
theorem lw_p29 : lw_okq (⟨"EditionBook$Worker", "callMethod", "(I)I"⟩, 9) := ⟨⟨by decide +kernel, by decide +kernel⟩, List.mem_of_getElem? (i := 90) (by decide +kernel), List.mem_of_getElem? (i := 489) (by decide +kernel), List.mem_of_getElem? (i := 490) (by decide +kernel)⟩
theorem lw_p30 : lw_okq (⟨"EditionBook$Worker", "isSame", "()Z"⟩, 9) := ⟨⟨by decide +kernel, by decide +kernel⟩, List.mem_of_getElem? (i := 90) (by decide +kernel), List.mem_of_getElem? (i := 493) (by decide +kernel), List.mem_of_getElem? (i := 494) (by decide +kernel)⟩
theorem lw_p31 : lw_okq (⟨"EditionBook$Worker", "choose", "()I"⟩, 9) := ⟨⟨by decide +kernel, by decide +kernel⟩, List.mem_of_getElem? (i := 90) (by decide +kernel), List.mem_of_getElem? (i := 497) (by decide +kernel), List.mem_of_getElem? (i := 498) (by decide +kernel)⟩
def lw_privs_2 : List (MethodName × Nat) := [(⟨"EditionBook$Worker", "closeFrame", "()I"⟩, 9), (⟨"EditionBook$Worker", "make", "(I)I"⟩, 9), (⟨"EditionBook$Image", "nextToStart", "(I)I"⟩, 4), (⟨"EditionBook$Worker", "takeAndPut", "(III)I"⟩, 9), (⟨"EditionBook$Worker", "isDeep", "()Z"⟩, 9), (⟨"EditionBook$Worker", "breakStarts", "()Z"⟩, 9), (⟨"EditionBook$Worker", "act", "(I)I"⟩, 9), (⟨"EditionBook$Worker", "codeAt", "(II)I"⟩, 9), (⟨"EditionBook$Worker", "isLastOf", "(I)Z"⟩, 9), (⟨"EditionBook$Worker", "kindAt", "(I)I"⟩, 9), (⟨"EditionBook$Worker", "numberAt", "(I)I"⟩, 9), (⟨"EditionBook$Worker", "readField", "(I)I"⟩, 9), (⟨"EditionBook$Worker", "writeField", "(I)I"⟩, 9), (⟨"EditionBook$Worker", "callMethod", "(I)I"⟩, 9), (⟨"EditionBook$Worker", "isSame", "()Z"⟩, 9), (⟨"EditionBook$Worker", "choose", "()I"⟩, 9)]
theorem lw_r2 : ∀ q ∈ lw_privs_2, lw_okq q := List.forall_mem_cons.mpr ⟨lw_p16, List.forall_mem_cons.mpr ⟨lw_p17, List.forall_mem_cons.mpr ⟨lw_p18, List.forall_mem_cons.mpr ⟨lw_p19, List.forall_mem_cons.mpr ⟨lw_p20, List.forall_mem_cons.mpr ⟨lw_p21, List.forall_mem_cons.mpr ⟨lw_p22, List.forall_mem_cons.mpr ⟨lw_p23, List.forall_mem_cons.mpr ⟨lw_p24, List.forall_mem_cons.mpr ⟨lw_p25, List.forall_mem_cons.mpr ⟨lw_p26, List.forall_mem_cons.mpr ⟨lw_p27, List.forall_mem_cons.mpr ⟨lw_p28, List.forall_mem_cons.mpr ⟨lw_p29, List.forall_mem_cons.mpr ⟨lw_p30, List.forall_mem_cons.mpr ⟨lw_p31, fun _ h => absurd h List.not_mem_nil⟩⟩⟩⟩⟩⟩⟩⟩⟩⟩⟩⟩⟩⟩⟩⟩
theorem lw_p32 : lw_okq (⟨"EditionBook$Worker", "write", "()I"⟩, 9) := ⟨⟨by decide +kernel, by decide +kernel⟩, List.mem_of_getElem? (i := 90) (by decide +kernel), List.mem_of_getElem? (i := 501) (by decide +kernel), List.mem_of_getElem? (i := 502) (by decide +kernel)⟩
theorem lw_p33 : lw_okq (⟨"EditionBook$Worker", "reckon", "(I)I"⟩, 9) := ⟨⟨by decide +kernel, by decide +kernel⟩, List.mem_of_getElem? (i := 90) (by decide +kernel), List.mem_of_getElem? (i := 506) (by decide +kernel), List.mem_of_getElem? (i := 507) (by decide +kernel)⟩
theorem lw_p34 : lw_okq (⟨"EditionBook", "noteRun", "(III)V"⟩, 10) := ⟨⟨by decide +kernel, by decide +kernel⟩, List.mem_of_getElem? (i := 12) (by decide +kernel), List.mem_of_getElem? (i := 522) (by decide +kernel), List.mem_of_getElem? (i := 523) (by decide +kernel)⟩
theorem lw_p35 : lw_okq (⟨"EditionBook", "faultOfCell", "(I)I"⟩, 10) := ⟨⟨by decide +kernel, by decide +kernel⟩, List.mem_of_getElem? (i := 12) (by decide +kernel), List.mem_of_getElem? (i := 535) (by decide +kernel), List.mem_of_getElem? (i := 536) (by decide +kernel)⟩
theorem lw_p36 : lw_okq (⟨"EditionBook$Image", "isStaleBy", "(JI)Z"⟩, 4) := ⟨⟨by decide +kernel, by decide +kernel⟩, List.mem_of_getElem? (i := 96) (by decide +kernel), List.mem_of_getElem? (i := 550) (by decide +kernel), List.mem_of_getElem? (i := 551) (by decide +kernel)⟩
theorem lw_p37 : lw_okq (⟨"EditionBook$Image", "leansOnWaiting", "(IJ)Z"⟩, 4) := ⟨⟨by decide +kernel, by decide +kernel⟩, List.mem_of_getElem? (i := 96) (by decide +kernel), List.mem_of_getElem? (i := 568) (by decide +kernel), List.mem_of_getElem? (i := 569) (by decide +kernel)⟩
theorem lw_p38 : lw_okq (⟨"EditionBookModel", "lookAtTape", "(I)I"⟩, 34) := ⟨⟨by decide +kernel, by decide +kernel⟩, List.mem_of_getElem? (i := 681) (by decide +kernel), List.mem_of_getElem? (i := 811) (by decide +kernel), List.mem_of_getElem? (i := 812) (by decide +kernel)⟩
theorem lw_p39 : lw_okq (⟨"EditionBookModel", "looked", "(I)I"⟩, 34) := ⟨⟨by decide +kernel, by decide +kernel⟩, List.mem_of_getElem? (i := 681) (by decide +kernel), List.mem_of_getElem? (i := 815) (by decide +kernel), List.mem_of_getElem? (i := 816) (by decide +kernel)⟩
theorem lw_p40 : lw_okq (⟨"EditionBookModel", "code", "(IIZ)V"⟩, 34) := ⟨⟨by decide +kernel, by decide +kernel⟩, List.mem_of_getElem? (i := 681) (by decide +kernel), List.mem_of_getElem? (i := 819) (by decide +kernel), List.mem_of_getElem? (i := 820) (by decide +kernel)⟩
theorem lw_p41 : lw_okq (⟨"EditionBookModel", "isActRight", "(IIIZ)Z"⟩, 34) := ⟨⟨by decide +kernel, by decide +kernel⟩, List.mem_of_getElem? (i := 681) (by decide +kernel), List.mem_of_getElem? (i := 823) (by decide +kernel), List.mem_of_getElem? (i := 824) (by decide +kernel)⟩
theorem lw_p42 : lw_okq (⟨"EditionBookModel", "means", "(III)Z"⟩, 34) := ⟨⟨by decide +kernel, by decide +kernel⟩, List.mem_of_getElem? (i := 681) (by decide +kernel), List.mem_of_getElem? (i := 833) (by decide +kernel), List.mem_of_getElem? (i := 834) (by decide +kernel)⟩
theorem lw_p43 : lw_okq (⟨"EditionBookModel", "wrong", "(I)V"⟩, 34) := ⟨⟨by decide +kernel, by decide +kernel⟩, List.mem_of_getElem? (i := 681) (by decide +kernel), List.mem_of_getElem? (i := 841) (by decide +kernel), List.mem_of_getElem? (i := 842) (by decide +kernel)⟩
theorem lw_p44 : lw_okq (⟨"EditionBookModel", "classText", "()V"⟩, 34) := ⟨⟨by decide +kernel, by decide +kernel⟩, List.mem_of_getElem? (i := 681) (by decide +kernel), List.mem_of_getElem? (i := 845) (by decide +kernel), List.mem_of_getElem? (i := 846) (by decide +kernel)⟩
theorem lw_p45 : lw_okq (⟨"EditionBookModel", "take", "()I"⟩, 34) := ⟨⟨by decide +kernel, by decide +kernel⟩, List.mem_of_getElem? (i := 681) (by decide +kernel), List.mem_of_getElem? (i := 849) (by decide +kernel), List.mem_of_getElem? (i := 850) (by decide +kernel)⟩
theorem lw_p46 : lw_okq (⟨"EditionBookModel", "names", "(IIZ)V"⟩, 34) := ⟨⟨by decide +kernel, by decide +kernel⟩, List.mem_of_getElem? (i := 681) (by decide +kernel), List.mem_of_getElem? (i := 853) (by decide +kernel), List.mem_of_getElem? (i := 854) (by decide +kernel)⟩
theorem lw_p47 : lw_okq (⟨"EditionBookModel", "layText", "(I)V"⟩, 34) := ⟨⟨by decide +kernel, by decide +kernel⟩, List.mem_of_getElem? (i := 681) (by decide +kernel), List.mem_of_getElem? (i := 860) (by decide +kernel), List.mem_of_getElem? (i := 861) (by decide +kernel)⟩
def lw_privs_3 : List (MethodName × Nat) := [(⟨"EditionBook$Worker", "write", "()I"⟩, 9), (⟨"EditionBook$Worker", "reckon", "(I)I"⟩, 9), (⟨"EditionBook", "noteRun", "(III)V"⟩, 10), (⟨"EditionBook", "faultOfCell", "(I)I"⟩, 10), (⟨"EditionBook$Image", "isStaleBy", "(JI)Z"⟩, 4), (⟨"EditionBook$Image", "leansOnWaiting", "(IJ)Z"⟩, 4), (⟨"EditionBookModel", "lookAtTape", "(I)I"⟩, 34), (⟨"EditionBookModel", "looked", "(I)I"⟩, 34), (⟨"EditionBookModel", "code", "(IIZ)V"⟩, 34), (⟨"EditionBookModel", "isActRight", "(IIIZ)Z"⟩, 34), (⟨"EditionBookModel", "means", "(III)Z"⟩, 34), (⟨"EditionBookModel", "wrong", "(I)V"⟩, 34), (⟨"EditionBookModel", "classText", "()V"⟩, 34), (⟨"EditionBookModel", "take", "()I"⟩, 34), (⟨"EditionBookModel", "names", "(IIZ)V"⟩, 34), (⟨"EditionBookModel", "layText", "(I)V"⟩, 34)]
theorem lw_r3 : ∀ q ∈ lw_privs_3, lw_okq q := List.forall_mem_cons.mpr ⟨lw_p32, List.forall_mem_cons.mpr ⟨lw_p33, List.forall_mem_cons.mpr ⟨lw_p34, List.forall_mem_cons.mpr ⟨lw_p35, List.forall_mem_cons.mpr ⟨lw_p36, List.forall_mem_cons.mpr ⟨lw_p37, List.forall_mem_cons.mpr ⟨lw_p38, List.forall_mem_cons.mpr ⟨lw_p39, List.forall_mem_cons.mpr ⟨lw_p40, List.forall_mem_cons.mpr ⟨lw_p41, List.forall_mem_cons.mpr ⟨lw_p42, List.forall_mem_cons.mpr ⟨lw_p43, List.forall_mem_cons.mpr ⟨lw_p44, List.forall_mem_cons.mpr ⟨lw_p45, List.forall_mem_cons.mpr ⟨lw_p46, List.forall_mem_cons.mpr ⟨lw_p47, fun _ h => absurd h List.not_mem_nil⟩⟩⟩⟩⟩⟩⟩⟩⟩⟩⟩⟩⟩⟩⟩⟩
theorem lw_p48 : lw_okq (⟨"EditionBookModel", "run", "(I)I"⟩, 34) := ⟨⟨by decide +kernel, by decide +kernel⟩, List.mem_of_getElem? (i := 681) (by decide +kernel), List.mem_of_getElem? (i := 864) (by decide +kernel), List.mem_of_getElem? (i := 865) (by decide +kernel)⟩
theorem lw_p49 : lw_okq (⟨"EditionBookModel", "frame", "(IIIII)V"⟩, 34) := ⟨⟨by decide +kernel, by decide +kernel⟩, List.mem_of_getElem? (i := 681) (by decide +kernel), List.mem_of_getElem? (i := 868) (by decide +kernel), List.mem_of_getElem? (i := 869) (by decide +kernel)⟩
theorem lw_p50 : lw_okq (⟨"EditionBookModel", "work", "()V"⟩, 34) := ⟨⟨by decide +kernel, by decide +kernel⟩, List.mem_of_getElem? (i := 681) (by decide +kernel), List.mem_of_getElem? (i := 872) (by decide +kernel), List.mem_of_getElem? (i := 873) (by decide +kernel)⟩
theorem lw_p51 : lw_okq (⟨"EditionBookModel", "finish", "()V"⟩, 34) := ⟨⟨by decide +kernel, by decide +kernel⟩, List.mem_of_getElem? (i := 681) (by decide +kernel), List.mem_of_getElem? (i := 876) (by decide +kernel), List.mem_of_getElem? (i := 877) (by decide +kernel)⟩
theorem lw_p52 : lw_okq (⟨"EditionBookModel", "fail", "(I)V"⟩, 34) := ⟨⟨by decide +kernel, by decide +kernel⟩, List.mem_of_getElem? (i := 681) (by decide +kernel), List.mem_of_getElem? (i := 880) (by decide +kernel), List.mem_of_getElem? (i := 881) (by decide +kernel)⟩
theorem lw_p53 : lw_okq (⟨"EditionBookModel", "act", "()V"⟩, 34) := ⟨⟨by decide +kernel, by decide +kernel⟩, List.mem_of_getElem? (i := 681) (by decide +kernel), List.mem_of_getElem? (i := 884) (by decide +kernel), List.mem_of_getElem? (i := 885) (by decide +kernel)⟩
theorem lw_p54 : lw_okq (⟨"EditionBookModel", "intAt", "(I)I"⟩, 34) := ⟨⟨by decide +kernel, by decide +kernel⟩, List.mem_of_getElem? (i := 681) (by decide +kernel), List.mem_of_getElem? (i := 888) (by decide +kernel), List.mem_of_getElem? (i := 889) (by decide +kernel)⟩
theorem lw_p55 : lw_okq (⟨"EditionBookModel", "textOf", "(II)I"⟩, 34) := ⟨⟨by decide +kernel, by decide +kernel⟩, List.mem_of_getElem? (i := 681) (by decide +kernel), List.mem_of_getElem? (i := 892) (by decide +kernel), List.mem_of_getElem? (i := 893) (by decide +kernel)⟩
theorem lw_p56 : lw_okq (⟨"EditionBookModel", "make", "(I)V"⟩, 34) := ⟨⟨by decide +kernel, by decide +kernel⟩, List.mem_of_getElem? (i := 681) (by decide +kernel), List.mem_of_getElem? (i := 896) (by decide +kernel), List.mem_of_getElem? (i := 897) (by decide +kernel)⟩
theorem lw_p57 : lw_okq (⟨"EditionBookModel", "parentOf", "(I)I"⟩, 34) := ⟨⟨by decide +kernel, by decide +kernel⟩, List.mem_of_getElem? (i := 681) (by decide +kernel), List.mem_of_getElem? (i := 900) (by decide +kernel), List.mem_of_getElem? (i := 901) (by decide +kernel)⟩
theorem lw_p58 : lw_okq (⟨"EditionBookModel", "start", "(I)V"⟩, 34) := ⟨⟨by decide +kernel, by decide +kernel⟩, List.mem_of_getElem? (i := 681) (by decide +kernel), List.mem_of_getElem? (i := 904) (by decide +kernel), List.mem_of_getElem? (i := 905) (by decide +kernel)⟩
theorem lw_p59 : lw_okq (⟨"EditionBookModel", "startPlace", "(I)I"⟩, 34) := ⟨⟨by decide +kernel, by decide +kernel⟩, List.mem_of_getElem? (i := 681) (by decide +kernel), List.mem_of_getElem? (i := 908) (by decide +kernel), List.mem_of_getElem? (i := 909) (by decide +kernel)⟩
theorem lw_p60 : lw_okq (⟨"EditionBookModel", "place0", "(I)I"⟩, 34) := ⟨⟨by decide +kernel, by decide +kernel⟩, List.mem_of_getElem? (i := 681) (by decide +kernel), List.mem_of_getElem? (i := 912) (by decide +kernel), List.mem_of_getElem? (i := 913) (by decide +kernel)⟩
theorem lw_p61 : lw_okq (⟨"EditionBookModel", "methodPlace", "(II)I"⟩, 34) := ⟨⟨by decide +kernel, by decide +kernel⟩, List.mem_of_getElem? (i := 681) (by decide +kernel), List.mem_of_getElem? (i := 916) (by decide +kernel), List.mem_of_getElem? (i := 917) (by decide +kernel)⟩
theorem lw_p62 : lw_okq (⟨"EditionBookModel", "lengthOf", "(I)I"⟩, 34) := ⟨⟨by decide +kernel, by decide +kernel⟩, List.mem_of_getElem? (i := 681) (by decide +kernel), List.mem_of_getElem? (i := 920) (by decide +kernel), List.mem_of_getElem? (i := 921) (by decide +kernel)⟩
theorem lw_p63 : lw_okq (⟨"EditionBookModel", "newObject", "(I)I"⟩, 34) := ⟨⟨by decide +kernel, by decide +kernel⟩, List.mem_of_getElem? (i := 681) (by decide +kernel), List.mem_of_getElem? (i := 924) (by decide +kernel), List.mem_of_getElem? (i := 925) (by decide +kernel)⟩
def lw_privs_4 : List (MethodName × Nat) := [(⟨"EditionBookModel", "run", "(I)I"⟩, 34), (⟨"EditionBookModel", "frame", "(IIIII)V"⟩, 34), (⟨"EditionBookModel", "work", "()V"⟩, 34), (⟨"EditionBookModel", "finish", "()V"⟩, 34), (⟨"EditionBookModel", "fail", "(I)V"⟩, 34), (⟨"EditionBookModel", "act", "()V"⟩, 34), (⟨"EditionBookModel", "intAt", "(I)I"⟩, 34), (⟨"EditionBookModel", "textOf", "(II)I"⟩, 34), (⟨"EditionBookModel", "make", "(I)V"⟩, 34), (⟨"EditionBookModel", "parentOf", "(I)I"⟩, 34), (⟨"EditionBookModel", "start", "(I)V"⟩, 34), (⟨"EditionBookModel", "startPlace", "(I)I"⟩, 34), (⟨"EditionBookModel", "place0", "(I)I"⟩, 34), (⟨"EditionBookModel", "methodPlace", "(II)I"⟩, 34), (⟨"EditionBookModel", "lengthOf", "(I)I"⟩, 34), (⟨"EditionBookModel", "newObject", "(I)I"⟩, 34)]
theorem lw_r4 : ∀ q ∈ lw_privs_4, lw_okq q := List.forall_mem_cons.mpr ⟨lw_p48, List.forall_mem_cons.mpr ⟨lw_p49, List.forall_mem_cons.mpr ⟨lw_p50, List.forall_mem_cons.mpr ⟨lw_p51, List.forall_mem_cons.mpr ⟨lw_p52, List.forall_mem_cons.mpr ⟨lw_p53, List.forall_mem_cons.mpr ⟨lw_p54, List.forall_mem_cons.mpr ⟨lw_p55, List.forall_mem_cons.mpr ⟨lw_p56, List.forall_mem_cons.mpr ⟨lw_p57, List.forall_mem_cons.mpr ⟨lw_p58, List.forall_mem_cons.mpr ⟨lw_p59, List.forall_mem_cons.mpr ⟨lw_p60, List.forall_mem_cons.mpr ⟨lw_p61, List.forall_mem_cons.mpr ⟨lw_p62, List.forall_mem_cons.mpr ⟨lw_p63, fun _ h => absurd h List.not_mem_nil⟩⟩⟩⟩⟩⟩⟩⟩⟩⟩⟩⟩⟩⟩⟩⟩
theorem lw_p64 : lw_okq (⟨"EditionBookModel", "ownField", "(II)I"⟩, 34) := ⟨⟨by decide +kernel, by decide +kernel⟩, List.mem_of_getElem? (i := 681) (by decide +kernel), List.mem_of_getElem? (i := 931) (by decide +kernel), List.mem_of_getElem? (i := 932) (by decide +kernel)⟩
theorem lw_p65 : lw_okq (⟨"EditionBookModel", "push", "(ZI)V"⟩, 34) := ⟨⟨by decide +kernel, by decide +kernel⟩, List.mem_of_getElem? (i := 681) (by decide +kernel), List.mem_of_getElem? (i := 935) (by decide +kernel), List.mem_of_getElem? (i := 936) (by decide +kernel)⟩
theorem lw_p66 : lw_okq (⟨"EditionBookModel", "ask", "(II)V"⟩, 34) := ⟨⟨by decide +kernel, by decide +kernel⟩, List.mem_of_getElem? (i := 681) (by decide +kernel), List.mem_of_getElem? (i := 939) (by decide +kernel), List.mem_of_getElem? (i := 940) (by decide +kernel)⟩
theorem lw_p67 : lw_okq (⟨"EditionBookModel", "isBelow", "(II)Z"⟩, 34) := ⟨⟨by decide +kernel, by decide +kernel⟩, List.mem_of_getElem? (i := 681) (by decide +kernel), List.mem_of_getElem? (i := 943) (by decide +kernel), List.mem_of_getElem? (i := 944) (by decide +kernel)⟩
theorem lw_p68 : lw_okq (⟨"EditionBookModel", "ofObject", "(II)V"⟩, 34) := ⟨⟨by decide +kernel, by decide +kernel⟩, List.mem_of_getElem? (i := 681) (by decide +kernel), List.mem_of_getElem? (i := 947) (by decide +kernel), List.mem_of_getElem? (i := 948) (by decide +kernel)⟩
theorem lw_p69 : lw_okq (⟨"EditionBookModel", "method", "(II)V"⟩, 34) := ⟨⟨by decide +kernel, by decide +kernel⟩, List.mem_of_getElem? (i := 681) (by decide +kernel), List.mem_of_getElem? (i := 951) (by decide +kernel), List.mem_of_getElem? (i := 952) (by decide +kernel)⟩
theorem lw_p70 : lw_okq (⟨"EditionBookModel", "ownMethod", "(II)I"⟩, 34) := ⟨⟨by decide +kernel, by decide +kernel⟩, List.mem_of_getElem? (i := 681) (by decide +kernel), List.mem_of_getElem? (i := 955) (by decide +kernel), List.mem_of_getElem? (i := 956) (by decide +kernel)⟩
theorem lw_p71 : lw_okq (⟨"EditionBookModel", "reckon", "(I)V"⟩, 34) := ⟨⟨by decide +kernel, by decide +kernel⟩, List.mem_of_getElem? (i := 681) (by decide +kernel), List.mem_of_getElem? (i := 959) (by decide +kernel), List.mem_of_getElem? (i := 960) (by decide +kernel)⟩
theorem lw_p72 : lw_okq (⟨"EditionBookModel", "choose", "()V"⟩, 34) := ⟨⟨by decide +kernel, by decide +kernel⟩, List.mem_of_getElem? (i := 681) (by decide +kernel), List.mem_of_getElem? (i := 963) (by decide +kernel), List.mem_of_getElem? (i := 964) (by decide +kernel)⟩
theorem lw_p73 : lw_okq (⟨"EditionBookModel", "write", "()V"⟩, 34) := ⟨⟨by decide +kernel, by decide +kernel⟩, List.mem_of_getElem? (i := 681) (by decide +kernel), List.mem_of_getElem? (i := 967) (by decide +kernel), List.mem_of_getElem? (i := 968) (by decide +kernel)⟩
theorem lw_p74 : lw_okq (⟨"EditionBookModel", "newEdition", "(I)I"⟩, 34) := ⟨⟨by decide +kernel, by decide +kernel⟩, List.mem_of_getElem? (i := 681) (by decide +kernel), List.mem_of_getElem? (i := 971) (by decide +kernel), List.mem_of_getElem? (i := 972) (by decide +kernel)⟩
theorem lw_p75 : lw_okq (⟨"EditionBookModel", "isCell", "(I)Z"⟩, 34) := ⟨⟨by decide +kernel, by decide +kernel⟩, List.mem_of_getElem? (i := 681) (by decide +kernel), List.mem_of_getElem? (i := 979) (by decide +kernel), List.mem_of_getElem? (i := 980) (by decide +kernel)⟩
theorem lw_p76 : lw_okq (⟨"EditionBookModel", "lookAtCell", "(I)I"⟩, 34) := ⟨⟨by decide +kernel, by decide +kernel⟩, List.mem_of_getElem? (i := 681) (by decide +kernel), List.mem_of_getElem? (i := 987) (by decide +kernel), List.mem_of_getElem? (i := 988) (by decide +kernel)⟩
theorem lw_p77 : lw_okq (⟨"EditionBookModel", "tellStale", "()V"⟩, 34) := ⟨⟨by decide +kernel, by decide +kernel⟩, List.mem_of_getElem? (i := 681) (by decide +kernel), List.mem_of_getElem? (i := 995) (by decide +kernel), List.mem_of_getElem? (i := 996) (by decide +kernel)⟩
theorem lw_p78 : lw_okq (⟨"EditionBookModel", "isFree", "(I)Z"⟩, 34) := ⟨⟨by decide +kernel, by decide +kernel⟩, List.mem_of_getElem? (i := 681) (by decide +kernel), List.mem_of_getElem? (i := 999) (by decide +kernel), List.mem_of_getElem? (i := 1000) (by decide +kernel)⟩
theorem lw_p79 : lw_okq (⟨"EditionBookModel", "isEdition", "(I)Z"⟩, 34) := ⟨⟨by decide +kernel, by decide +kernel⟩, List.mem_of_getElem? (i := 681) (by decide +kernel), List.mem_of_getElem? (i := 1031) (by decide +kernel), List.mem_of_getElem? (i := 1032) (by decide +kernel)⟩
def lw_privs_5 : List (MethodName × Nat) := [(⟨"EditionBookModel", "ownField", "(II)I"⟩, 34), (⟨"EditionBookModel", "push", "(ZI)V"⟩, 34), (⟨"EditionBookModel", "ask", "(II)V"⟩, 34), (⟨"EditionBookModel", "isBelow", "(II)Z"⟩, 34), (⟨"EditionBookModel", "ofObject", "(II)V"⟩, 34), (⟨"EditionBookModel", "method", "(II)V"⟩, 34), (⟨"EditionBookModel", "ownMethod", "(II)I"⟩, 34), (⟨"EditionBookModel", "reckon", "(I)V"⟩, 34), (⟨"EditionBookModel", "choose", "()V"⟩, 34), (⟨"EditionBookModel", "write", "()V"⟩, 34), (⟨"EditionBookModel", "newEdition", "(I)I"⟩, 34), (⟨"EditionBookModel", "isCell", "(I)Z"⟩, 34), (⟨"EditionBookModel", "lookAtCell", "(I)I"⟩, 34), (⟨"EditionBookModel", "tellStale", "()V"⟩, 34), (⟨"EditionBookModel", "isFree", "(I)Z"⟩, 34), (⟨"EditionBookModel", "isEdition", "(I)Z"⟩, 34)]
theorem lw_r5 : ∀ q ∈ lw_privs_5, lw_okq q := List.forall_mem_cons.mpr ⟨lw_p64, List.forall_mem_cons.mpr ⟨lw_p65, List.forall_mem_cons.mpr ⟨lw_p66, List.forall_mem_cons.mpr ⟨lw_p67, List.forall_mem_cons.mpr ⟨lw_p68, List.forall_mem_cons.mpr ⟨lw_p69, List.forall_mem_cons.mpr ⟨lw_p70, List.forall_mem_cons.mpr ⟨lw_p71, List.forall_mem_cons.mpr ⟨lw_p72, List.forall_mem_cons.mpr ⟨lw_p73, List.forall_mem_cons.mpr ⟨lw_p74, List.forall_mem_cons.mpr ⟨lw_p75, List.forall_mem_cons.mpr ⟨lw_p76, List.forall_mem_cons.mpr ⟨lw_p77, List.forall_mem_cons.mpr ⟨lw_p78, List.forall_mem_cons.mpr ⟨lw_p79, fun _ h => absurd h List.not_mem_nil⟩⟩⟩⟩⟩⟩⟩⟩⟩⟩⟩⟩⟩⟩⟩⟩
theorem lw_p80 : lw_okq (⟨"EditionBookModel", "isObject", "(I)Z"⟩, 34) := ⟨⟨by decide +kernel, by decide +kernel⟩, List.mem_of_getElem? (i := 681) (by decide +kernel), List.mem_of_getElem? (i := 1039) (by decide +kernel), List.mem_of_getElem? (i := 1040) (by decide +kernel)⟩
theorem lw_p81 : lw_okq (⟨"EditionBookModel", "isClass", "(I)Z"⟩, 34) := ⟨⟨by decide +kernel, by decide +kernel⟩, List.mem_of_getElem? (i := 681) (by decide +kernel), List.mem_of_getElem? (i := 1051) (by decide +kernel), List.mem_of_getElem? (i := 1052) (by decide +kernel)⟩
def lw_privs_6 : List (MethodName × Nat) := [(⟨"EditionBookModel", "isObject", "(I)Z"⟩, 34), (⟨"EditionBookModel", "isClass", "(I)Z"⟩, 34)]
theorem lw_r6 : ∀ q ∈ lw_privs_6, lw_okq q := List.forall_mem_cons.mpr ⟨lw_p80, List.forall_mem_cons.mpr ⟨lw_p81, fun _ h => absurd h List.not_mem_nil⟩⟩
def lw_privs : List (MethodName × Nat) := lw_privs_1 ++ (lw_privs_2 ++ (lw_privs_3 ++ (lw_privs_4 ++ (lw_privs_5 ++ (lw_privs_6)))))
def lw_tbl : List Cond := k2_sels lw_privs ++ tables_1
theorem lw_privs_ok : ∀ q ∈ lw_privs, lw_okq q := by
  show ∀ q ∈ lw_privs_1 ++ (lw_privs_2 ++ (lw_privs_3 ++ (lw_privs_4 ++ (lw_privs_5 ++ (lw_privs_6))))), lw_okq q
  exact List.forall_mem_append.mpr ⟨lw_r1, List.forall_mem_append.mpr ⟨lw_r2, List.forall_mem_append.mpr ⟨lw_r3, List.forall_mem_append.mpr ⟨lw_r4, List.forall_mem_append.mpr ⟨lw_r5, lw_r6⟩⟩⟩⟩⟩
end
section
def RX0 : String := "EditionBook$Image"
def TX0 : u_T := fun k => match k with
  | 0 => ("EditionBook$Image", "cells", "LEditionBook$Table;", true)
  | 1 => ("EditionBook$Image", "editions", "LEditionBook$Table;", true)
  | 2 => ("EditionBook$Image", "objects", "LEditionBook$Table;", true)
  | _ => ("EditionBook$Image", "newestOfName", "[I", true)
def tyX0 : Nat → FieldType := fun k => match k with
  | 0 => .object "EditionBook$Table"
  | 1 => .object "EditionBook$Table"
  | 2 => .object "EditionBook$Table"
  | _ => .array .int
abbrev wsX00 : List Cond := u_ws RX0 TX0 4
theorem nmX0 : ∀ a, a < 4 → ∀ b, b < 4 → a ≠ b → (TX0 a).2.1 ≠ (TX0 b).2.1 := by decide +kernel
theorem tyX0_ok : ∀ k, k < 4 → parseFieldDescriptor (TX0 k).2.2.1 = some (tyX0 k) := by decide +kernel
abbrev cX0_init : ByteArray := prog_2_method_1_code
def yX0_init : MethodName := ⟨RX0, "<init>", "()V"⟩
abbrev cX0_copyFrom : ByteArray := prog_2_method_2_code
def yX0_copyFrom : MethodName := ⟨RX0, "copyFrom", "(LEditionBook$Image;)V"⟩
abbrev cX0_newestOf : ByteArray := prog_2_method_3_code
def yX0_newestOf : MethodName := ⟨RX0, "newestOf", "(I)I"⟩
abbrev cX0_dropNewest : ByteArray := prog_2_method_4_code
def yX0_dropNewest : MethodName := ⟨RX0, "dropNewest", "(I)Z"⟩
abbrev cX0_isNewest : ByteArray := prog_2_method_5_code
def yX0_isNewest : MethodName := ⟨RX0, "isNewest", "(I)Z"⟩
abbrev cX0_isFullOfEditions : ByteArray := prog_2_method_6_code
def yX0_isFullOfEditions : MethodName := ⟨RX0, "isFullOfEditions", "()Z"⟩
abbrev cX0_isClass : ByteArray := prog_2_method_7_code
def yX0_isClass : MethodName := ⟨RX0, "isClass", "(I)Z"⟩
abbrev cX0_addEdition : ByteArray := prog_2_method_8_code
def yX0_addEdition : MethodName := ⟨RX0, "addEdition", "(I)I"⟩
abbrev cX0_addValue : ByteArray := prog_2_method_9_code
def yX0_addValue : MethodName := ⟨RX0, "addValue", "(III)I"⟩
abbrev cX0_addClass : ByteArray := prog_2_method_10_code
def yX0_addClass : MethodName := ⟨RX0, "addClass", "(ILEditionBook$Reader;)I"⟩
abbrev cX0_inherit : ByteArray := prog_2_method_11_code
def yX0_inherit : MethodName := ⟨RX0, "inherit", "(II)V"⟩
abbrev cX0_countOlder : ByteArray := prog_2_method_12_code
def yX0_countOlder : MethodName := ⟨RX0, "countOlder", "(I)I"⟩
abbrev cX0_countMadeOf : ByteArray := prog_2_method_13_code
def yX0_countMadeOf : MethodName := ⟨RX0, "countMadeOf", "(I)I"⟩
abbrev cX0_isBelow : ByteArray := prog_2_method_14_code
def yX0_isBelow : MethodName := ⟨RX0, "isBelow", "(II)Z"⟩
abbrev cX0_hasBrokenStart : ByteArray := prog_2_method_15_code
def yX0_hasBrokenStart : MethodName := ⟨RX0, "hasBrokenStart", "(I)Z"⟩
abbrev cX0_nextToStart : ByteArray := prog_2_method_16_code
def yX0_nextToStart : MethodName := ⟨RX0, "nextToStart", "(I)I"⟩
abbrev cX0_beginUpToStart : ByteArray := prog_2_method_17_code
def yX0_beginUpToStart : MethodName := ⟨RX0, "beginUpToStart", "(I)I"⟩
abbrev cX0_addObject : ByteArray := prog_2_method_18_code
def yX0_addObject : MethodName := ⟨RX0, "addObject", "(I)I"⟩
abbrev cX0_hasField : ByteArray := prog_2_method_19_code
def yX0_hasField : MethodName := ⟨RX0, "hasField", "(II)Z"⟩
abbrev cX0_setField : ByteArray := prog_2_method_20_code
def yX0_setField : MethodName := ⟨RX0, "setField", "(IIII)V"⟩
abbrev cX0_carryFields : ByteArray := prog_2_method_21_code
def yX0_carryFields : MethodName := ⟨RX0, "carryFields", "(II)V"⟩
abbrev cX0_addCell : ByteArray := prog_2_method_22_code
def yX0_addCell : MethodName := ⟨RX0, "addCell", "(II)I"⟩
abbrev cX0_leanOf : ByteArray := prog_2_method_23_code
def yX0_leanOf : MethodName := ⟨RX0, "leanOf", "(II)I"⟩
abbrev cX0_noteLeans : ByteArray := prog_2_method_24_code
def yX0_noteLeans : MethodName := ⟨RX0, "noteLeans", "(II)V"⟩
abbrev cX0_isMarked : ByteArray := prog_2_method_25_code
def yX0_isMarked : MethodName := ⟨RX0, "isMarked", "(JI)Z"⟩
abbrev cX0_staleCells : ByteArray := prog_2_method_26_code
def yX0_staleCells : MethodName := ⟨RX0, "staleCells", "()J"⟩
abbrev cX0_isStaleBy : ByteArray := prog_2_method_27_code
def yX0_isStaleBy : MethodName := ⟨RX0, "isStaleBy", "(JI)Z"⟩
abbrev cX0_nextToRun : ByteArray := prog_2_method_28_code
def yX0_nextToRun : MethodName := ⟨RX0, "nextToRun", "(J)I"⟩
abbrev cX0_leansOnWaiting : ByteArray := prog_2_method_29_code
def yX0_leansOnWaiting : MethodName := ⟨RX0, "leansOnWaiting", "(IJ)Z"⟩
def RX1 : String := "EditionBook$Reader"
def TX1 : u_T := fun k => match k with
  | 0 => ("EditionBook$Reader", "fields", "LEditionBook$Table;", true)
  | 1 => ("EditionBook$Reader", "methods", "LEditionBook$Table;", true)
  | 2 => ("EditionBook$Reader", "length", "I", false)
  | 3 => ("EditionBook$Reader", "used", "I", false)
  | 4 => ("EditionBook$Reader", "parent", "I", false)
  | 5 => ("EditionBook$Reader", "startFrom", "I", false)
  | 6 => ("EditionBook$Reader", "newest", "[I", true)
  | 7 => ("EditionBook$Reader", "sorts", "[I", true)
  | 8 => ("EditionBook$Reader", "text", "[I", true)
  | 9 => ("EditionBook$Reader", "bound", "[I", true)
  | _ => ("EditionBook$Reader", "at", "I", false)
def tyX1 : Nat → FieldType := fun k => match k with
  | 0 => .object "EditionBook$Table"
  | 1 => .object "EditionBook$Table"
  | 2 => .int
  | 3 => .int
  | 4 => .int
  | 5 => .int
  | 6 => .array .int
  | 7 => .array .int
  | 8 => .array .int
  | 9 => .array .int
  | _ => .int
abbrev wsX10 : List Cond := u_ws RX1 TX1 11
theorem nmX1 : ∀ a, a < 11 → ∀ b, b < 11 → a ≠ b → (TX1 a).2.1 ≠ (TX1 b).2.1 := by decide +kernel
theorem tyX1_ok : ∀ k, k < 11 → parseFieldDescriptor (TX1 k).2.2.1 = some (tyX1 k) := by decide +kernel
abbrev cX1_init : ByteArray := prog_3_method_1_code
def yX1_init : MethodName := ⟨RX1, "<init>", "()V"⟩
abbrev cX1_open : ByteArray := prog_3_method_2_code
def yX1_open : MethodName := ⟨RX1, "open", "(LEditionBook$Image;)V"⟩
abbrev cX1_addInt : ByteArray := prog_3_method_3_code
def yX1_addInt : MethodName := ⟨RX1, "addInt", "(I)V"⟩
abbrev cX1_boundAt : ByteArray := prog_3_method_4_code
def yX1_boundAt : MethodName := ⟨RX1, "boundAt", "(I)I"⟩
abbrev cX1_findFault : ByteArray := prog_3_method_5_code
def yX1_findFault : MethodName := ⟨RX1, "findFault", "(I)I"⟩
abbrev cX1_textAt : ByteArray := prog_3_method_6_code
def yX1_textAt : MethodName := ⟨RX1, "textAt", "(I)I"⟩
abbrev cX1_isThere : ByteArray := prog_3_method_7_code
def yX1_isThere : MethodName := ⟨RX1, "isThere", "(III)Z"⟩
abbrev cX1_readParent : ByteArray := prog_3_method_8_code
def yX1_readParent : MethodName := ⟨RX1, "readParent", "()Z"⟩
abbrev cX1_readFields : ByteArray := prog_3_method_9_code
def yX1_readFields : MethodName := ⟨RX1, "readFields", "()I"⟩
abbrev cX1_readMethods : ByteArray := prog_3_method_10_code
def yX1_readMethods : MethodName := ⟨RX1, "readMethods", "()I"⟩
abbrev cX1_codeFault : ByteArray := prog_3_method_11_code
def yX1_codeFault : MethodName := ⟨RX1, "codeFault", "(IIZ)I"⟩
abbrev cX1_sizeOf : ByteArray := prog_3_method_12_code
def yX1_sizeOf : MethodName := ⟨RX1, "sizeOf", "(I)I"⟩
abbrev cX1_usesName : ByteArray := prog_3_method_13_code
def yX1_usesName : MethodName := ⟨RX1, "usesName", "(I)Z"⟩
abbrev cX1_isIntRight : ByteArray := prog_3_method_14_code
def yX1_isIntRight : MethodName := ⟨RX1, "isIntRight", "(II)Z"⟩
abbrev cX1_standsFor : ByteArray := prog_3_method_15_code
def yX1_standsFor : MethodName := ⟨RX1, "standsFor", "(II)Z"⟩
abbrev cX1_bind : ByteArray := prog_3_method_16_code
def yX1_bind : MethodName := ⟨RX1, "bind", "(I)V"⟩
def RX2 : String := "EditionBook$Table"
def TX2 : u_T := fun k => match k with
  | 0 => ("EditionBook$Table", "width", "I", true)
  | 1 => ("EditionBook$Table", "most", "I", true)
  | 2 => ("EditionBook$Table", "ints", "[I", false)
  | _ => ("EditionBook$Table", "rows", "I", false)
def tyX2 : Nat → FieldType := fun k => match k with
  | 0 => .int
  | 1 => .int
  | 2 => .array .int
  | _ => .int
abbrev wsX20 : List Cond := u_ws RX2 TX2 4
theorem nmX2 : ∀ a, a < 4 → ∀ b, b < 4 → a ≠ b → (TX2 a).2.1 ≠ (TX2 b).2.1 := by decide +kernel
theorem tyX2_ok : ∀ k, k < 4 → parseFieldDescriptor (TX2 k).2.2.1 = some (tyX2 k) := by decide +kernel
abbrev cX2_init : ByteArray := prog_4_method_1_code
def yX2_init : MethodName := ⟨RX2, "<init>", "(II)V"⟩
abbrev cX2_size : ByteArray := prog_4_method_2_code
def yX2_size : MethodName := ⟨RX2, "size", "()I"⟩
abbrev cX2_has : ByteArray := prog_4_method_3_code
def yX2_has : MethodName := ⟨RX2, "has", "(I)Z"⟩
abbrev cX2_get : ByteArray := prog_4_method_4_code
def yX2_get : MethodName := ⟨RX2, "get", "(II)I"⟩
abbrev cX2_set : ByteArray := prog_4_method_5_code
def yX2_set : MethodName := ⟨RX2, "set", "(III)V"⟩
abbrev cX2_add : ByteArray := prog_4_method_6_code
def yX2_add : MethodName := ⟨RX2, "add", "()I"⟩
abbrev cX2_addPair : ByteArray := prog_4_method_7_code
def yX2_addPair : MethodName := ⟨RX2, "addPair", "(II)V"⟩
abbrev cX2_dropLast : ByteArray := prog_4_method_8_code
def yX2_dropLast : MethodName := ⟨RX2, "dropLast", "()V"⟩
abbrev cX2_clear : ByteArray := prog_4_method_9_code
def yX2_clear : MethodName := ⟨RX2, "clear", "()V"⟩
abbrev cX2_holdsFirst : ByteArray := prog_4_method_10_code
def yX2_holdsFirst : MethodName := ⟨RX2, "holdsFirst", "(I)Z"⟩
abbrev cX2_copyFrom : ByteArray := prog_4_method_11_code
def yX2_copyFrom : MethodName := ⟨RX2, "copyFrom", "(LEditionBook$Table;)V"⟩
def RX3 : String := "EditionBook$Worker"
def TX3 : u_T := fun k => match k with
  | 0 => ("EditionBook$Worker", "book", "LEditionBook$Image;", true)
  | 1 => ("EditionBook$Worker", "written", "LEditionBook$Table;", true)
  | 2 => ("EditionBook$Worker", "wrote", "I", false)
  | 3 => ("EditionBook$Worker", "steps", "I", false)
  | 4 => ("EditionBook$Worker", "failure", "I", false)
  | 5 => ("EditionBook$Worker", "pile", "LEditionBook$Table;", true)
  | 6 => ("EditionBook$Worker", "frames", "LEditionBook$Table;", true)
  | 7 => ("EditionBook$Worker", "cellCode", "[I", true)
  | _ => ("EditionBook$Worker", "cellFrames", "I", false)
def tyX3 : Nat → FieldType := fun k => match k with
  | 0 => .object "EditionBook$Image"
  | 1 => .object "EditionBook$Table"
  | 2 => .int
  | 3 => .int
  | 4 => .int
  | 5 => .object "EditionBook$Table"
  | 6 => .object "EditionBook$Table"
  | 7 => .array .int
  | _ => .int
abbrev wsX30 : List Cond := u_ws RX3 TX3 9
theorem nmX3 : ∀ a, a < 9 → ∀ b, b < 9 → a ≠ b → (TX3 a).2.1 ≠ (TX3 b).2.1 := by decide +kernel
theorem tyX3_ok : ∀ k, k < 9 → parseFieldDescriptor (TX3 k).2.2.1 = some (tyX3 k) := by decide +kernel
abbrev cX3_init : ByteArray := prog_5_method_1_code
def yX3_init : MethodName := ⟨RX3, "<init>", "()V"⟩
abbrev cX3_clear : ByteArray := prog_5_method_2_code
def yX3_clear : MethodName := ⟨RX3, "clear", "()V"⟩
abbrev cX3_beginCell : ByteArray := prog_5_method_3_code
def yX3_beginCell : MethodName := ⟨RX3, "beginCell", "(LEditionBook$Reader;)V"⟩
abbrev cX3_beginByHand : ByteArray := prog_5_method_4_code
def yX3_beginByHand : MethodName := ⟨RX3, "beginByHand", "(III)V"⟩
abbrev cX3_lastKind : ByteArray := prog_5_method_5_code
def yX3_lastKind : MethodName := ⟨RX3, "lastKind", "()I"⟩
abbrev cX3_lastNumber : ByteArray := prog_5_method_6_code
def yX3_lastNumber : MethodName := ⟨RX3, "lastNumber", "()I"⟩
abbrev cX3_work : ByteArray := prog_5_method_7_code
def yX3_work : MethodName := ⟨RX3, "work", "()I"⟩
abbrev cX3_breakStarts : ByteArray := prog_5_method_8_code
def yX3_breakStarts : MethodName := ⟨RX3, "breakStarts", "()Z"⟩
abbrev cX3_openFrame : ByteArray := prog_5_method_9_code
def yX3_openFrame : MethodName := ⟨RX3, "openFrame", "(III)I"⟩
abbrev cX3_isDeep : ByteArray := prog_5_method_10_code
def yX3_isDeep : MethodName := ⟨RX3, "isDeep", "()Z"⟩
abbrev cX3_closeFrame : ByteArray := prog_5_method_11_code
def yX3_closeFrame : MethodName := ⟨RX3, "closeFrame", "()I"⟩
abbrev cX3_kindAt : ByteArray := prog_5_method_12_code
def yX3_kindAt : MethodName := ⟨RX3, "kindAt", "(I)I"⟩
abbrev cX3_numberAt : ByteArray := prog_5_method_13_code
def yX3_numberAt : MethodName := ⟨RX3, "numberAt", "(I)I"⟩
abbrev cX3_takeAndPut : ByteArray := prog_5_method_14_code
def yX3_takeAndPut : MethodName := ⟨RX3, "takeAndPut", "(III)I"⟩
abbrev cX3_codeAt : ByteArray := prog_5_method_15_code
def yX3_codeAt : MethodName := ⟨RX3, "codeAt", "(II)I"⟩
abbrev cX3_act : ByteArray := prog_5_method_16_code
def yX3_act : MethodName := ⟨RX3, "act", "(I)I"⟩
abbrev cX3_isSame : ByteArray := prog_5_method_17_code
def yX3_isSame : MethodName := ⟨RX3, "isSame", "()Z"⟩
abbrev cX3_isLastOf : ByteArray := prog_5_method_18_code
def yX3_isLastOf : MethodName := ⟨RX3, "isLastOf", "(I)Z"⟩
abbrev cX3_make : ByteArray := prog_5_method_19_code
def yX3_make : MethodName := ⟨RX3, "make", "(I)I"⟩
abbrev cX3_readField : ByteArray := prog_5_method_20_code
def yX3_readField : MethodName := ⟨RX3, "readField", "(I)I"⟩
abbrev cX3_writeField : ByteArray := prog_5_method_21_code
def yX3_writeField : MethodName := ⟨RX3, "writeField", "(I)I"⟩
abbrev cX3_callMethod : ByteArray := prog_5_method_22_code
def yX3_callMethod : MethodName := ⟨RX3, "callMethod", "(I)I"⟩
abbrev cX3_reckon : ByteArray := prog_5_method_23_code
def yX3_reckon : MethodName := ⟨RX3, "reckon", "(I)I"⟩
abbrev cX3_choose : ByteArray := prog_5_method_24_code
def yX3_choose : MethodName := ⟨RX3, "choose", "()I"⟩
abbrev cX3_write : ByteArray := prog_5_method_25_code
def yX3_write : MethodName := ⟨RX3, "write", "()I"⟩
def RX4 : String := "EditionBook"
def TX4 : u_T := fun k => match k with
  | 0 => ("EditionBook", "tape", "[I", true)
  | 1 => ("EditionBook", "onTape", "I", false)
  | 2 => ("EditionBook", "reader", "LEditionBook$Reader;", true)
  | 3 => ("EditionBook", "worker", "LEditionBook$Worker;", true)
  | 4 => ("EditionBook", "now", "LEditionBook$Image;", true)
  | 5 => ("EditionBook", "kept", "[LEditionBook$Image;", true)
  | 6 => ("EditionBook", "cameKind", "I", false)
  | 7 => ("EditionBook", "cameNumber", "I", false)
  | 8 => ("EditionBook", "cameFailure", "I", false)
  | _ => ("EditionBook", "cameSteps", "I", false)
def tyX4 : Nat → FieldType := fun k => match k with
  | 0 => .array .int
  | 1 => .int
  | 2 => .object "EditionBook$Reader"
  | 3 => .object "EditionBook$Worker"
  | 4 => .object "EditionBook$Image"
  | 5 => .array (.object "EditionBook$Image")
  | 6 => .int
  | 7 => .int
  | 8 => .int
  | _ => .int
abbrev wsX40 : List Cond := u_ws RX4 TX4 10
theorem nmX4 : ∀ a, a < 10 → ∀ b, b < 10 → a ≠ b → (TX4 a).2.1 ≠ (TX4 b).2.1 := by decide +kernel
theorem tyX4_ok : ∀ k, k < 10 → parseFieldDescriptor (TX4 k).2.2.1 = some (tyX4 k) := by decide +kernel
abbrev cX4_init : ByteArray := prog_1_method_1_code
def yX4_init : MethodName := ⟨RX4, "<init>", "()V"⟩
abbrev cX4_put : ByteArray := prog_1_method_2_code
def yX4_put : MethodName := ⟨RX4, "put", "(IIIII)I"⟩
abbrev cX4_putOne : ByteArray := prog_1_method_3_code
def yX4_putOne : MethodName := ⟨RX4, "putOne", "(I)V"⟩
abbrev cX4_wipe : ByteArray := prog_1_method_4_code
def yX4_wipe : MethodName := ⟨RX4, "wipe", "()I"⟩
abbrev cX4_cell : ByteArray := prog_1_method_5_code
def yX4_cell : MethodName := ⟨RX4, "cell", "(II)I"⟩
abbrev cX4_redo : ByteArray := prog_1_method_6_code
def yX4_redo : MethodName := ⟨RX4, "redo", "(I)I"⟩
abbrev cX4_rerun : ByteArray := prog_1_method_7_code
def yX4_rerun : MethodName := ⟨RX4, "rerun", "(I)I"⟩
abbrev cX4_rerunStale : ByteArray := prog_1_method_8_code
def yX4_rerunStale : MethodName := ⟨RX4, "rerunStale", "()I"⟩
abbrev cX4_forget : ByteArray := prog_1_method_9_code
def yX4_forget : MethodName := ⟨RX4, "forget", "(I)I"⟩
abbrev cX4_of : ByteArray := prog_1_method_10_code
def yX4_of : MethodName := ⟨RX4, "of", "(II)I"⟩
abbrev cX4_leans : ByteArray := prog_1_method_11_code
def yX4_leans : MethodName := ⟨RX4, "leans", "(II)I"⟩
abbrev cX4_stale : ByteArray := prog_1_method_12_code
def yX4_stale : MethodName := ⟨RX4, "stale", "(I)Z"⟩
abbrev cX4_written : ByteArray := prog_1_method_13_code
def yX4_written : MethodName := ⟨RX4, "written", "(III)I"⟩
abbrev cX4_count : ByteArray := prog_1_method_14_code
def yX4_count : MethodName := ⟨RX4, "count", "(I)I"⟩
abbrev cX4_newest : ByteArray := prog_1_method_15_code
def yX4_newest : MethodName := ⟨RX4, "newest", "(I)I"⟩
abbrev cX4_edition : ByteArray := prog_1_method_16_code
def yX4_edition : MethodName := ⟨RX4, "edition", "(II)I"⟩
abbrev cX4_classOf : ByteArray := prog_1_method_17_code
def yX4_classOf : MethodName := ⟨RX4, "classOf", "(I)I"⟩
abbrev cX4_field : ByteArray := prog_1_method_18_code
def yX4_field : MethodName := ⟨RX4, "field", "(III)I"⟩
abbrev cX4_is : ByteArray := prog_1_method_19_code
def yX4_is : MethodName := ⟨RX4, "is", "(II)Z"⟩
abbrev cX4_call : ByteArray := prog_1_method_20_code
def yX4_call : MethodName := ⟨RX4, "call", "(III)I"⟩
abbrev cX4_came : ByteArray := prog_1_method_21_code
def yX4_came : MethodName := ⟨RX4, "came", "(I)I"⟩
abbrev cX4_convert : ByteArray := prog_1_method_22_code
def yX4_convert : MethodName := ⟨RX4, "convert", "(II)I"⟩
abbrev cX4_keep : ByteArray := prog_1_method_23_code
def yX4_keep : MethodName := ⟨RX4, "keep", "(I)Z"⟩
abbrev cX4_back : ByteArray := prog_1_method_24_code
def yX4_back : MethodName := ⟨RX4, "back", "(I)Z"⟩
abbrev cX4_isName : ByteArray := prog_1_method_25_code
def yX4_isName : MethodName := ⟨RX4, "isName", "(I)Z"⟩
abbrev cX4_faultOfTape : ByteArray := prog_1_method_26_code
def yX4_faultOfTape : MethodName := ⟨RX4, "faultOfTape", "(I)I"⟩
abbrev cX4_faultOfCell : ByteArray := prog_1_method_27_code
def yX4_faultOfCell : MethodName := ⟨RX4, "faultOfCell", "(I)I"⟩
abbrev cX4_takeTape : ByteArray := prog_1_method_28_code
def yX4_takeTape : MethodName := ⟨RX4, "takeTape", "(I)V"⟩
abbrev cX4_runCell : ByteArray := prog_1_method_29_code
def yX4_runCell : MethodName := ⟨RX4, "runCell", "(I)I"⟩
abbrev cX4_noteRun : ByteArray := prog_1_method_30_code
def yX4_noteRun : MethodName := ⟨RX4, "noteRun", "(III)V"⟩
def RX5 : String := "EditionBookModel"
def TX5 : u_T := fun k => match k with
  | 0 => ("EditionBookModel", "m", "[I", true)
  | 1 => ("EditionBookModel", "isKept", "[Z", true)
  | 2 => ("EditionBookModel", "tape", "[I", true)
  | 3 => ("EditionBookModel", "taped", "I", false)
  | 4 => ("EditionBookModel", "text", "[I", true)
  | 5 => ("EditionBookModel", "meant", "[I", true)
  | 6 => ("EditionBookModel", "length", "I", false)
  | 7 => ("EditionBookModel", "fault", "I", false)
  | 8 => ("EditionBookModel", "at", "I", false)
  | 9 => ("EditionBookModel", "leaned", "[Z", true)
  | 10 => ("EditionBookModel", "isObj", "[Z", true)
  | 11 => ("EditionBookModel", "value", "[I", true)
  | 12 => ("EditionBookModel", "top", "I", false)
  | 13 => ("EditionBookModel", "source", "[I", true)
  | 14 => ("EditionBookModel", "place", "[I", true)
  | 15 => ("EditionBookModel", "end", "[I", true)
  | 16 => ("EditionBookModel", "self", "[I", true)
  | 17 => ("EditionBookModel", "isArgObj", "[Z", true)
  | 18 => ("EditionBookModel", "argument", "[I", true)
  | 19 => ("EditionBookModel", "starts", "[I", true)
  | 20 => ("EditionBookModel", "frames", "I", false)
  | 21 => ("EditionBookModel", "inner", "I", false)
  | 22 => ("EditionBookModel", "again", "Z", false)
  | 23 => ("EditionBookModel", "steps", "I", false)
  | 24 => ("EditionBookModel", "failure", "I", false)
  | 25 => ("EditionBookModel", "wrote", "I", false)
  | 26 => ("EditionBookModel", "isWrittenObj", "[Z", true)
  | 27 => ("EditionBookModel", "writtenValue", "[I", true)
  | 28 => ("EditionBookModel", "isStale", "[Z", true)
  | 29 => ("EditionBookModel", "waits", "[Z", true)
  | 30 => ("EditionBookModel", "cameKind", "I", false)
  | 31 => ("EditionBookModel", "cameValue", "I", false)
  | 32 => ("EditionBookModel", "cameFailure", "I", false)
  | _ => ("EditionBookModel", "cameSteps", "I", false)
def tyX5 : Nat → FieldType := fun k => match k with
  | 0 => .array .int
  | 1 => .array .boolean
  | 2 => .array .int
  | 3 => .int
  | 4 => .array .int
  | 5 => .array .int
  | 6 => .int
  | 7 => .int
  | 8 => .int
  | 9 => .array .boolean
  | 10 => .array .boolean
  | 11 => .array .int
  | 12 => .int
  | 13 => .array .int
  | 14 => .array .int
  | 15 => .array .int
  | 16 => .array .int
  | 17 => .array .boolean
  | 18 => .array .int
  | 19 => .array .int
  | 20 => .int
  | 21 => .int
  | 22 => .boolean
  | 23 => .int
  | 24 => .int
  | 25 => .int
  | 26 => .array .boolean
  | 27 => .array .int
  | 28 => .array .boolean
  | 29 => .array .boolean
  | 30 => .int
  | 31 => .int
  | 32 => .int
  | _ => .int
abbrev wsX50 : List Cond := u_ws RX5 TX5 34
theorem nmX5 : ∀ a, a < 34 → ∀ b, b < 34 → a ≠ b → (TX5 a).2.1 ≠ (TX5 b).2.1 := by decide +kernel
theorem tyX5_ok : ∀ k, k < 34 → parseFieldDescriptor (TX5 k).2.2.1 = some (tyX5 k) := by decide +kernel
abbrev cX5_init : ByteArray := prog_7_method_1_code
def yX5_init : MethodName := ⟨RX5, "<init>", "()V"⟩
abbrev cX5_cellAt : ByteArray := prog_7_method_2_code
def yX5_cellAt : MethodName := ⟨RX5, "cellAt", "(I)I"⟩
abbrev cX5_editAt : ByteArray := prog_7_method_3_code
def yX5_editAt : MethodName := ⟨RX5, "editAt", "(I)I"⟩
abbrev cX5_objAt : ByteArray := prog_7_method_4_code
def yX5_objAt : MethodName := ⟨RX5, "objAt", "(I)I"⟩
abbrev cX5_isCell : ByteArray := prog_7_method_5_code
def yX5_isCell : MethodName := ⟨RX5, "isCell", "(I)Z"⟩
abbrev cX5_isEdition : ByteArray := prog_7_method_6_code
def yX5_isEdition : MethodName := ⟨RX5, "isEdition", "(I)Z"⟩
abbrev cX5_isObject : ByteArray := prog_7_method_7_code
def yX5_isObject : MethodName := ⟨RX5, "isObject", "(I)Z"⟩
abbrev cX5_isName : ByteArray := prog_7_method_8_code
def yX5_isName : MethodName := ⟨RX5, "isName", "(I)Z"⟩
abbrev cX5_isClass : ByteArray := prog_7_method_9_code
def yX5_isClass : MethodName := ⟨RX5, "isClass", "(I)Z"⟩
abbrev cX5_newest : ByteArray := prog_7_method_10_code
def yX5_newest : MethodName := ⟨RX5, "newest", "(I)I"⟩
abbrev cX5_put : ByteArray := prog_7_method_11_code
def yX5_put : MethodName := ⟨RX5, "put", "(IIIII)I"⟩
abbrev cX5_wipe : ByteArray := prog_7_method_12_code
def yX5_wipe : MethodName := ⟨RX5, "wipe", "()I"⟩
abbrev cX5_wrong : ByteArray := prog_7_method_13_code
def yX5_wrong : MethodName := ⟨RX5, "wrong", "(I)V"⟩
abbrev cX5_take : ByteArray := prog_7_method_14_code
def yX5_take : MethodName := ⟨RX5, "take", "()I"⟩
abbrev cX5_means : ByteArray := prog_7_method_15_code
def yX5_means : MethodName := ⟨RX5, "means", "(III)Z"⟩
abbrev cX5_hasInt : ByteArray := prog_7_method_16_code
def yX5_hasInt : MethodName := ⟨RX5, "hasInt", "(I)Z"⟩
abbrev cX5_takes : ByteArray := prog_7_method_17_code
def yX5_takes : MethodName := ⟨RX5, "takes", "(I)I"⟩
abbrev cX5_isActRight : ByteArray := prog_7_method_18_code
def yX5_isActRight : MethodName := ⟨RX5, "isActRight", "(IIIZ)Z"⟩
abbrev cX5_code : ByteArray := prog_7_method_19_code
def yX5_code : MethodName := ⟨RX5, "code", "(IIZ)V"⟩
abbrev cX5_names : ByteArray := prog_7_method_20_code
def yX5_names : MethodName := ⟨RX5, "names", "(IIZ)V"⟩
abbrev cX5_classText : ByteArray := prog_7_method_21_code
def yX5_classText : MethodName := ⟨RX5, "classText", "()V"⟩
abbrev cX5_looked : ByteArray := prog_7_method_22_code
def yX5_looked : MethodName := ⟨RX5, "looked", "(I)I"⟩
abbrev cX5_textOf : ByteArray := prog_7_method_23_code
def yX5_textOf : MethodName := ⟨RX5, "textOf", "(II)I"⟩
abbrev cX5_parentOf : ByteArray := prog_7_method_24_code
def yX5_parentOf : MethodName := ⟨RX5, "parentOf", "(I)I"⟩
abbrev cX5_ownField : ByteArray := prog_7_method_25_code
def yX5_ownField : MethodName := ⟨RX5, "ownField", "(II)I"⟩
abbrev cX5_methodPlace : ByteArray := prog_7_method_26_code
def yX5_methodPlace : MethodName := ⟨RX5, "methodPlace", "(II)I"⟩
abbrev cX5_place0 : ByteArray := prog_7_method_27_code
def yX5_place0 : MethodName := ⟨RX5, "place0", "(I)I"⟩
abbrev cX5_ownMethod : ByteArray := prog_7_method_28_code
def yX5_ownMethod : MethodName := ⟨RX5, "ownMethod", "(II)I"⟩
abbrev cX5_startPlace : ByteArray := prog_7_method_29_code
def yX5_startPlace : MethodName := ⟨RX5, "startPlace", "(I)I"⟩
abbrev cX5_lengthOf : ByteArray := prog_7_method_30_code
def yX5_lengthOf : MethodName := ⟨RX5, "lengthOf", "(I)I"⟩
abbrev cX5_isBelow : ByteArray := prog_7_method_31_code
def yX5_isBelow : MethodName := ⟨RX5, "isBelow", "(II)Z"⟩
abbrev cX5_newObject : ByteArray := prog_7_method_32_code
def yX5_newObject : MethodName := ⟨RX5, "newObject", "(I)I"⟩
abbrev cX5_push : ByteArray := prog_7_method_33_code
def yX5_push : MethodName := ⟨RX5, "push", "(ZI)V"⟩
abbrev cX5_frame : ByteArray := prog_7_method_34_code
def yX5_frame : MethodName := ⟨RX5, "frame", "(IIIII)V"⟩
abbrev cX5_intAt : ByteArray := prog_7_method_35_code
def yX5_intAt : MethodName := ⟨RX5, "intAt", "(I)I"⟩
abbrev cX5_fail : ByteArray := prog_7_method_36_code
def yX5_fail : MethodName := ⟨RX5, "fail", "(I)V"⟩
abbrev cX5_work : ByteArray := prog_7_method_37_code
def yX5_work : MethodName := ⟨RX5, "work", "()V"⟩
abbrev cX5_finish : ByteArray := prog_7_method_38_code
def yX5_finish : MethodName := ⟨RX5, "finish", "()V"⟩
abbrev cX5_act : ByteArray := prog_7_method_39_code
def yX5_act : MethodName := ⟨RX5, "act", "()V"⟩
abbrev cX5_ask : ByteArray := prog_7_method_40_code
def yX5_ask : MethodName := ⟨RX5, "ask", "(II)V"⟩
abbrev cX5_ofObject : ByteArray := prog_7_method_41_code
def yX5_ofObject : MethodName := ⟨RX5, "ofObject", "(II)V"⟩
abbrev cX5_method : ByteArray := prog_7_method_42_code
def yX5_method : MethodName := ⟨RX5, "method", "(II)V"⟩
abbrev cX5_reckon : ByteArray := prog_7_method_43_code
def yX5_reckon : MethodName := ⟨RX5, "reckon", "(I)V"⟩
abbrev cX5_choose : ByteArray := prog_7_method_44_code
def yX5_choose : MethodName := ⟨RX5, "choose", "()V"⟩
abbrev cX5_write : ByteArray := prog_7_method_45_code
def yX5_write : MethodName := ⟨RX5, "write", "()V"⟩
abbrev cX5_make : ByteArray := prog_7_method_46_code
def yX5_make : MethodName := ⟨RX5, "make", "(I)V"⟩
abbrev cX5_start : ByteArray := prog_7_method_47_code
def yX5_start : MethodName := ⟨RX5, "start", "(I)V"⟩
abbrev cX5_newEdition : ByteArray := prog_7_method_48_code
def yX5_newEdition : MethodName := ⟨RX5, "newEdition", "(I)I"⟩
abbrev cX5_run : ByteArray := prog_7_method_49_code
def yX5_run : MethodName := ⟨RX5, "run", "(I)I"⟩
abbrev cX5_lookAtTape : ByteArray := prog_7_method_50_code
def yX5_lookAtTape : MethodName := ⟨RX5, "lookAtTape", "(I)I"⟩
abbrev cX5_lookAtCell : ByteArray := prog_7_method_51_code
def yX5_lookAtCell : MethodName := ⟨RX5, "lookAtCell", "(I)I"⟩
abbrev cX5_layText : ByteArray := prog_7_method_52_code
def yX5_layText : MethodName := ⟨RX5, "layText", "(I)V"⟩
abbrev cX5_cell : ByteArray := prog_7_method_53_code
def yX5_cell : MethodName := ⟨RX5, "cell", "(II)I"⟩
abbrev cX5_redo : ByteArray := prog_7_method_54_code
def yX5_redo : MethodName := ⟨RX5, "redo", "(I)I"⟩
abbrev cX5_rerun : ByteArray := prog_7_method_55_code
def yX5_rerun : MethodName := ⟨RX5, "rerun", "(I)I"⟩
abbrev cX5_tellStale : ByteArray := prog_7_method_56_code
def yX5_tellStale : MethodName := ⟨RX5, "tellStale", "()V"⟩
abbrev cX5_isFree : ByteArray := prog_7_method_57_code
def yX5_isFree : MethodName := ⟨RX5, "isFree", "(I)Z"⟩
abbrev cX5_rerunStale : ByteArray := prog_7_method_58_code
def yX5_rerunStale : MethodName := ⟨RX5, "rerunStale", "()I"⟩
abbrev cX5_forget : ByteArray := prog_7_method_59_code
def yX5_forget : MethodName := ⟨RX5, "forget", "(I)I"⟩
abbrev cX5_of : ByteArray := prog_7_method_60_code
def yX5_of : MethodName := ⟨RX5, "of", "(II)I"⟩
abbrev cX5_leans : ByteArray := prog_7_method_61_code
def yX5_leans : MethodName := ⟨RX5, "leans", "(II)I"⟩
abbrev cX5_stale : ByteArray := prog_7_method_62_code
def yX5_stale : MethodName := ⟨RX5, "stale", "(I)Z"⟩
abbrev cX5_written : ByteArray := prog_7_method_63_code
def yX5_written : MethodName := ⟨RX5, "written", "(III)I"⟩
abbrev cX5_count : ByteArray := prog_7_method_64_code
def yX5_count : MethodName := ⟨RX5, "count", "(I)I"⟩
abbrev cX5_edition : ByteArray := prog_7_method_65_code
def yX5_edition : MethodName := ⟨RX5, "edition", "(II)I"⟩
abbrev cX5_classOf : ByteArray := prog_7_method_66_code
def yX5_classOf : MethodName := ⟨RX5, "classOf", "(I)I"⟩
abbrev cX5_field : ByteArray := prog_7_method_67_code
def yX5_field : MethodName := ⟨RX5, "field", "(III)I"⟩
abbrev cX5_is : ByteArray := prog_7_method_68_code
def yX5_is : MethodName := ⟨RX5, "is", "(II)Z"⟩
abbrev cX5_call : ByteArray := prog_7_method_69_code
def yX5_call : MethodName := ⟨RX5, "call", "(III)I"⟩
abbrev cX5_came : ByteArray := prog_7_method_70_code
def yX5_came : MethodName := ⟨RX5, "came", "(I)I"⟩
abbrev cX5_convert : ByteArray := prog_7_method_71_code
def yX5_convert : MethodName := ⟨RX5, "convert", "(II)I"⟩
abbrev cX5_keep : ByteArray := prog_7_method_72_code
def yX5_keep : MethodName := ⟨RX5, "keep", "(I)Z"⟩
abbrev cX5_back : ByteArray := prog_7_method_73_code
def yX5_back : MethodName := ⟨RX5, "back", "(I)Z"⟩
def RJx8e188 : String := "java/lang/Cloneable"
def TJx8e188 : u_T := fun k => match k with
  | _ => ("", "", "", false)
def tyJx8e188 : Nat → FieldType := fun k => match k with
  | _ => .int
abbrev wsJx8e1880 : List Cond := u_ws RJx8e188 TJx8e188 0
theorem nmJx8e188 : ∀ a, a < 0 → ∀ b, b < 0 → a ≠ b → (TJx8e188 a).2.1 ≠ (TJx8e188 b).2.1 := by decide +kernel
theorem tyJx8e188_ok : ∀ k, k < 0 → parseFieldDescriptor (TJx8e188 k).2.2.1 = some (tyJx8e188 k) := by decide +kernel
def RJ13 : String := "java/lang/Long"
def TJ13 : u_T := fun k => match k with
  | _ => ("", "", "", false)
def tyJ13 : Nat → FieldType := fun k => match k with
  | _ => .int
abbrev wsJ130 : List Cond := u_ws RJ13 TJ13 0
theorem nmJ13 : ∀ a, a < 0 → ∀ b, b < 0 → a ≠ b → (TJ13 a).2.1 ≠ (TJ13 b).2.1 := by decide +kernel
theorem tyJ13_ok : ∀ k, k < 0 → parseFieldDescriptor (TJ13 k).2.2.1 = some (tyJ13 k) := by decide +kernel
abbrev cJ13_bitCount_95d88 : ByteArray := prog_9_method_50_code
def yJ13_bitCount_95d88 : MethodName := ⟨RJ13, "bitCount", "(J)I"⟩
def RJ9 : String := "java/lang/Math"
def TJ9 : u_T := fun k => match k with
  | _ => ("", "", "", false)
def tyJ9 : Nat → FieldType := fun k => match k with
  | _ => .int
abbrev wsJ90 : List Cond := u_ws RJ9 TJ9 0
theorem nmJ9 : ∀ a, a < 0 → ∀ b, b < 0 → a ≠ b → (TJ9 a).2.1 ≠ (TJ9 b).2.1 := by decide +kernel
theorem tyJ9_ok : ∀ k, k < 0 → parseFieldDescriptor (TJ9 k).2.2.1 = some (tyJ9 k) := by decide +kernel
abbrev cJ9_max_7cf53 : ByteArray := prog_10_method_65_code
def yJ9_max_7cf53 : MethodName := ⟨RJ9, "max", "(II)I"⟩
abbrev cJ9_min_7cf53 : ByteArray := prog_10_method_69_code
def yJ9_min_7cf53 : MethodName := ⟨RJ9, "min", "(II)I"⟩
def RJ10 : String := "java/lang/System"
def TJ10 : u_T := fun k => match k with
  | _ => ("", "", "", false)
def tyJ10 : Nat → FieldType := fun k => match k with
  | _ => .int
abbrev wsJ100 : List Cond := u_ws RJ10 TJ10 0
theorem nmJ10 : ∀ a, a < 0 → ∀ b, b < 0 → a ≠ b → (TJ10 a).2.1 ≠ (TJ10 b).2.1 := by decide +kernel
theorem tyJ10_ok : ∀ k, k < 0 → parseFieldDescriptor (TJ10 k).2.2.1 = some (tyJ10 k) := by decide +kernel
def RJ7 : String := "java/util/Arrays"
def TJ7 : u_T := fun k => match k with
  | _ => ("", "", "", false)
def tyJ7 : Nat → FieldType := fun k => match k with
  | _ => .int
abbrev wsJ70 : List Cond := u_ws RJ7 TJ7 0
theorem nmJ7 : ∀ a, a < 0 → ∀ b, b < 0 → a ≠ b → (TJ7 a).2.1 ≠ (TJ7 b).2.1 := by decide +kernel
theorem tyJ7_ok : ∀ k, k < 0 → parseFieldDescriptor (TJ7 k).2.2.1 = some (tyJ7 k) := by decide +kernel
abbrev cJ7_rangeCheck_23922 : ByteArray := prog_12_method_30_code
def yJ7_rangeCheck_23922 : MethodName := ⟨RJ7, "rangeCheck", "(III)V"⟩
abbrev cJ7_fill_53178 : ByteArray := prog_12_method_103_code
def yJ7_fill_53178 : MethodName := ⟨RJ7, "fill", "([II)V"⟩
abbrev cJ7_fill_fda19 : ByteArray := prog_12_method_104_code
def yJ7_fill_fda19 : MethodName := ⟨RJ7, "fill", "([IIII)V"⟩
abbrev cJ7_copyOf_59c91 : ByteArray := prog_12_method_123_code
def yJ7_copyOf_59c91 : MethodName := ⟨RJ7, "copyOf", "([II)[I"⟩
def RL : String := "EditionBookLaw"
abbrev cL_law : ByteArray := code
abbrev vwCl : List vw_C := [(RX0, TX0, 4), (RX1, TX1, 11), (RX2, TX2, 4), (RX3, TX3, 9), (RX4, TX4, 10), (RX5, TX5, 34)]
theorem iX0 : ∀ w ∈ u_ws RX0 TX0 4, w ∈ lw_tbl := by decide +kernel
theorem iX1 : ∀ w ∈ u_ws RX1 TX1 11, w ∈ lw_tbl := by decide +kernel
theorem iX2 : ∀ w ∈ u_ws RX2 TX2 4, w ∈ lw_tbl := by decide +kernel
theorem iX3 : ∀ w ∈ u_ws RX3 TX3 9, w ∈ lw_tbl := by decide +kernel
theorem iX4 : ∀ w ∈ u_ws RX4 TX4 10, w ∈ lw_tbl := by decide +kernel
theorem iX5 : ∀ w ∈ u_ws RX5 TX5 34, w ∈ lw_tbl := by decide +kernel
end
section
def tt : List Cond := lw_tbl.filter goodWord
theorem tt_in {w : Cond} (h : w ∈ lw_tbl) (hg : goodWord w = true) : w ∈ tt := List.mem_filter.mpr ⟨h, hg⟩
def wsM (y : MethodName) (b : ByteArray) (n : Nat) (ret : Option FieldType) : List Cond := .code y b n ret :: tt
theorem good_tt {big : List Cond} (hb : ∀ w ∈ tt, w ∈ big) : GoodIn big tt := fun w h => ⟨hb w h, good_of_word (List.mem_filter.mp h).2⟩
theorem good_ws {big : List Cond} {y : MethodName} {b : ByteArray} {n : Nat} {ret : Option FieldType} (hb : ∀ w ∈ tt, w ∈ big) (hc : Cond.code y b n ret ∈ tt) : GoodIn big (wsM y b n ret) := fun w h => by
  rcases List.mem_cons.mp h with rfl | h
  · exact good_tt hb _ hc
  · exact good_tt hb _ h
def lvg : List (Nat × Value) → Nat → Option Value
  | [], _ => none
  | q :: l, i => if q.1 = i then some q.2 else lvg l i
theorem lvg_mem : ∀ {l : List (Nat × Value)} {i : Nat} {v : Value}, lvg l i = some v → (i, v) ∈ l
  | [], _, _, h => by cases h
  | q :: l, i, v, h => by
    unfold lvg at h
    by_cases hq : q.1 = i
    · rw [if_pos hq] at h
      cases h
      subst hq
      exact List.mem_cons_self
    · rw [if_neg hq] at h
      exact List.mem_cons_of_mem _ (lvg_mem h)
theorem lvg_at {ls : Array Slot} {nL : Nat} {l : List (Nat × Value)} {i : Nat} {v : Value} (h : lv_has ls nL l) (hk : lvg l i = some v) : ls[i]? = some (.val v) := h.2.2 (i, v) (lvg_mem hk)
def gX (p : Program) (s : State) (m : MethodId) (args : Array Value) (meth : Method) (c : Code) (cc : ByteArray) (nL : Nat) (own : String) (rt : Option FieldType) (D : va_G) (tys : List (ClassId × FieldType)) : Prop :=
  p.tables.exec = Jvm.exec ∧ c.code = cc ∧ c.maxLocals = nL ∧ s.vm.findClass own = some m.cls ∧ (∀ w ∈ tt, w.before args s = true) ∧ va_K D vwCl tys s ∧ meth.locks = false ∧ meth.sig.returnType = rt
/-- the machine at pc, with these locals and this stack, in a world Z, does what the pure program F says -/
def gG {ρ : Type} (p : Program) (l : Launch) (e : Env) (R : Room) (s : State) (m : MethodId) (args : Array Value) (below : List Frame) (meth : Method) (c : Code) (nL : Nat) (Z : Heap → List Loc → Prop) (kc ks : Nat) (QQ : ρ → State → Prop) (pc : Nat) (lv : List (Nat × Value)) (st : List Value) (F : Option ρ) : Prop :=
  ∀ r, F = some r → ∀ (H : Heap) (locs : List Loc) (ls : Array Slot), Z H locs → lv_has ls nL lv → W p l e R s m args below meth c H locs kc ks (QQ r) (F0 m pc ls st)
section GG
variable {ρ : Type} {p : Program} {l : Launch} {e : Env} {R : Room} {s : State} {m : MethodId} {args : Array Value} {below : List Frame} {meth : Method} {c : Code}
variable {cc : ByteArray} {nL : Nat} {own : String} {rt : Option FieldType} {D : va_G} {tys : List (ClassId × FieldType)} {Z : Heap → List Loc → Prop} {kc ks : Nat} {QQ : ρ → State → Prop} {pc : Nat} {lv : List (Nat × Value)} {st : List Value} {F F1 F2 : Option ρ}
theorem g_none : gG p l e R s m args below meth c nL Z kc ks QQ pc lv st (none : Option ρ) := fun r hr => by cases hr
theorem g_pick (kx : List Nat) {lv' : List (Nat × Value)} (h : lv_pick lv kx = lv') (kk : gG p l e R s m args below meth c nL Z kc ks QQ pc lv' st F) : gG p l e R s m args below meth c nL Z kc ks QQ pc lv st F := fun r hr H locs ls hz hl => kk r hr H locs ls hz (lv_sub hl kx h)
theorem g_ite {P : Prop} [Decidable P] (kt : P → gG p l e R s m args below meth c nL Z kc ks QQ pc lv st F1) (kf : ¬ P → gG p l e R s m args below meth c nL Z kc ks QQ pc lv st F2) : gG p l e R s m args below meth c nL Z kc ks QQ pc lv st (if P then F1 else F2) := by
  by_cases h : P
  · rw [if_pos h]; exact kt h
  · rw [if_neg h]; exact kf h
theorem g_iconst (X : gX p s m args meth c cc nL own rt D tys) {n : Int} {v : Int32} (d : decode cc pc = .ok (.iconst n, 1)) (hv : Int32.ofInt n = v) (kk : gG p l e R s m args below meth c nL Z kc ks QQ (pc + 1) lv (.int v :: st) F) : gG p l e R s m args below meth c nL Z kc ks QQ pc lv st F := fun r hr H locs ls hz hl => lv_iconst X.1 X.2.1 d hv (kk r hr H locs ls hz hl)
theorem g_bipush (X : gX p s m args meth c cc nL own rt D tys) {n : Int} {v : Int32} (d : decode cc pc = .ok (.bipush n, 2)) (hv : (Int8.ofInt n).toInt32 = v) (kk : gG p l e R s m args below meth c nL Z kc ks QQ (pc + 2) lv (.int v :: st) F) : gG p l e R s m args below meth c nL Z kc ks QQ pc lv st F := fun r hr H locs ls hz hl => lv_bipush X.1 X.2.1 d hv (kk r hr H locs ls hz hl)
theorem g_sipush (X : gX p s m args meth c cc nL own rt D tys) {n : Int} {v : Int32} (d : decode cc pc = .ok (.sipush n, 3)) (hv : (Int16.ofInt n).toInt32 = v) (kk : gG p l e R s m args below meth c nL Z kc ks QQ (pc + 3) lv (.int v :: st) F) : gG p l e R s m args below meth c nL Z kc ks QQ pc lv st F := fun r hr H locs ls hz hl => lv_sipush X.1 X.2.1 d hv (kk r hr H locs ls hz hl)
theorem g_ldc (X : gX p s m args meth c cc nL own rt D tys) {ix : Nat} {v : Int32} (hc : Cond.constant own ix v ∈ tt) (d : decode cc pc = .ok (.ldc ix, 2)) (kk : gG p l e R s m args below meth c nL Z kc ks QQ (pc + 2) lv (.int v :: st) F) : gG p l e R s m args below meth c nL Z kc ks QQ pc lv st F := fun r hr H locs ls hz hl => lv_ldc X.1 X.2.1 X.2.2.2.1 (X.2.2.2.2.1 _ hc) d (kk r hr H locs ls hz hl)
theorem g_iload_n (X : gX p s m args meth c cc nL own rt D tys) {k : Fin 4} {i : Nat} {x : Int32} (d : decode cc pc = .ok (.iload_n k, 1)) (hi : (k : Nat) = i) (hk : lvg lv i = some (.int x)) (kk : gG p l e R s m args below meth c nL Z kc ks QQ (pc + 1) lv (.int x :: st) F) : gG p l e R s m args below meth c nL Z kc ks QQ pc lv st F := fun r hr H locs ls hz hl => lv_iload_n X.1 X.2.1 d hi (lvg_at hl hk) (kk r hr H locs ls hz hl)
theorem g_iload (X : gX p s m args meth c cc nL own rt D tys) {i : Nat} {x : Int32} (d : decode cc pc = .ok (.iload i, 2)) (hk : lvg lv i = some (.int x)) (kk : gG p l e R s m args below meth c nL Z kc ks QQ (pc + 2) lv (.int x :: st) F) : gG p l e R s m args below meth c nL Z kc ks QQ pc lv st F := fun r hr H locs ls hz hl => lv_iload X.1 X.2.1 d (lvg_at hl hk) (kk r hr H locs ls hz hl)
theorem g_aload_n (X : gX p s m args meth c cc nL own rt D tys) {k : Fin 4} {i : Nat} {x : Nat} (d : decode cc pc = .ok (.aload_n k, 1)) (hi : (k : Nat) = i) (hk : lvg lv i = some (.ref x)) (kk : gG p l e R s m args below meth c nL Z kc ks QQ (pc + 1) lv (.ref x :: st) F) : gG p l e R s m args below meth c nL Z kc ks QQ pc lv st F := fun r hr H locs ls hz hl => lv_aload_n X.1 X.2.1 d hi (lvg_at hl hk) (kk r hr H locs ls hz hl)
theorem g_aload (X : gX p s m args meth c cc nL own rt D tys) {i : Nat} {x : Nat} (d : decode cc pc = .ok (.aload i, 2)) (hk : lvg lv i = some (.ref x)) (kk : gG p l e R s m args below meth c nL Z kc ks QQ (pc + 2) lv (.ref x :: st) F) : gG p l e R s m args below meth c nL Z kc ks QQ pc lv st F := fun r hr H locs ls hz hl => lv_aload X.1 X.2.1 d (lvg_at hl hk) (kk r hr H locs ls hz hl)
theorem g_istore_n (X : gX p s m args meth c cc nL own rt D tys) {k : Fin 4} {i : Nat} {x : Int32} {lv' : List (Nat × Value)} (d : decode cc pc = .ok (.istore_n k, 1)) (hi : (k : Nat) = i) (hn : i < nL) (hl' : (i, Value.int x) :: lv.filter (fun q => !(q.1 == i) && !(q.1 + 1 == i && q.2.category == 2)) = lv') (kk : gG p l e R s m args below meth c nL Z kc ks QQ (pc + 1) lv' st F) : gG p l e R s m args below meth c nL Z kc ks QQ pc lv (.int x :: st) F := fun r hr H locs ls hz hl => lv_istore_n X.1 X.2.1 d hi hl hn hl' (fun ls2 h2 => kk r hr H locs ls2 hz h2)
theorem g_istore (X : gX p s m args meth c cc nL own rt D tys) {i : Nat} {x : Int32} {lv' : List (Nat × Value)} (d : decode cc pc = .ok (.istore i, 2)) (hn : i < nL) (hl' : (i, Value.int x) :: lv.filter (fun q => !(q.1 == i) && !(q.1 + 1 == i && q.2.category == 2)) = lv') (kk : gG p l e R s m args below meth c nL Z kc ks QQ (pc + 2) lv' st F) : gG p l e R s m args below meth c nL Z kc ks QQ pc lv (.int x :: st) F := fun r hr H locs ls hz hl => lv_istore X.1 X.2.1 d hl hn hl' (fun ls2 h2 => kk r hr H locs ls2 hz h2)
theorem g_iinc (X : gX p s m args meth c cc nL own rt D tys) {i : Nat} {n : Int} {x v : Int32} {lv' : List (Nat × Value)} (d : decode cc pc = .ok (.iinc i n, 3)) (hk : lvg lv i = some (.int x)) (hv : Int32.ofInt n = v) (hn : i < nL) (hl' : (i, Value.int (x + v)) :: lv.filter (fun q => !(q.1 == i) && !(q.1 + 1 == i && q.2.category == 2)) = lv') (kk : gG p l e R s m args below meth c nL Z kc ks QQ (pc + 3) lv' st F) : gG p l e R s m args below meth c nL Z kc ks QQ pc lv st F := fun r hr H locs ls hz hl => by
  obtain ⟨k, hk2⟩ := List.getElem?_of_mem (lvg_mem hk)
  exact lv_iinc X.1 X.2.1 d hl hk2 (by rw [hv]) hn hl' (fun ls2 h2 => kk r hr H locs ls2 hz h2)
theorem g_iadd (X : gX p s m args meth c cc nL own rt D tys) {x y : Int32} (d : decode cc pc = .ok (.iadd, 1)) (kk : gG p l e R s m args below meth c nL Z kc ks QQ (pc + 1) lv (.int (x + y) :: st) F) : gG p l e R s m args below meth c nL Z kc ks QQ pc lv (.int y :: .int x :: st) F := fun r hr H locs ls hz hl => lv_iadd X.1 X.2.1 d (kk r hr H locs ls hz hl)
theorem g_isub (X : gX p s m args meth c cc nL own rt D tys) {x y : Int32} (d : decode cc pc = .ok (.isub, 1)) (kk : gG p l e R s m args below meth c nL Z kc ks QQ (pc + 1) lv (.int (x - y) :: st) F) : gG p l e R s m args below meth c nL Z kc ks QQ pc lv (.int y :: .int x :: st) F := fun r hr H locs ls hz hl => lv_isub X.1 X.2.1 d (kk r hr H locs ls hz hl)
theorem g_imul (X : gX p s m args meth c cc nL own rt D tys) {x y : Int32} (d : decode cc pc = .ok (.imul, 1)) (kk : gG p l e R s m args below meth c nL Z kc ks QQ (pc + 1) lv (.int (x * y) :: st) F) : gG p l e R s m args below meth c nL Z kc ks QQ pc lv (.int y :: .int x :: st) F := fun r hr H locs ls hz hl => lv_imul X.1 X.2.1 d (kk r hr H locs ls hz hl)
theorem g_iand (X : gX p s m args meth c cc nL own rt D tys) {x y : Int32} (d : decode cc pc = .ok (.iand, 1)) (kk : gG p l e R s m args below meth c nL Z kc ks QQ (pc + 1) lv (.int (x &&& y) :: st) F) : gG p l e R s m args below meth c nL Z kc ks QQ pc lv (.int y :: .int x :: st) F := fun r hr H locs ls hz hl => lv_iand X.1 X.2.1 d (kk r hr H locs ls hz hl)
theorem g_ior (X : gX p s m args meth c cc nL own rt D tys) {x y : Int32} (d : decode cc pc = .ok (.ior, 1)) (kk : gG p l e R s m args below meth c nL Z kc ks QQ (pc + 1) lv (.int (x ||| y) :: st) F) : gG p l e R s m args below meth c nL Z kc ks QQ pc lv (.int y :: .int x :: st) F := fun r hr H locs ls hz hl => lv_ior X.1 X.2.1 d (kk r hr H locs ls hz hl)
theorem g_ishl (X : gX p s m args meth c cc nL own rt D tys) {x y : Int32} (d : decode cc pc = .ok (.ishl, 1)) (kk : gG p l e R s m args below meth c nL Z kc ks QQ (pc + 1) lv (.int (x <<< (y &&& 31)) :: st) F) : gG p l e R s m args below meth c nL Z kc ks QQ pc lv (.int y :: .int x :: st) F := fun r hr H locs ls hz hl => lv_ishl X.1 X.2.1 d (kk r hr H locs ls hz hl)
theorem g_ishr (X : gX p s m args meth c cc nL own rt D tys) {x y : Int32} (d : decode cc pc = .ok (.ishr, 1)) (kk : gG p l e R s m args below meth c nL Z kc ks QQ (pc + 1) lv (.int (x >>> (y &&& 31)) :: st) F) : gG p l e R s m args below meth c nL Z kc ks QQ pc lv (.int y :: .int x :: st) F := fun r hr H locs ls hz hl => lv_ishr X.1 X.2.1 d (kk r hr H locs ls hz hl)
theorem g_idiv (X : gX p s m args meth c cc nL own rt D tys) {x y : Int32} (d : decode cc pc = .ok (.idiv, 1)) (kk : gG p l e R s m args below meth c nL Z kc ks QQ (pc + 1) lv (.int (x / y) :: st) F) : gG p l e R s m args below meth c nL Z kc ks QQ pc lv (.int y :: .int x :: st) (if y = 0 then none else F) := g_ite (fun _ => g_none) (fun hne r hr H locs ls hz hl => lv_idiv X.1 X.2.1 d hne (kk r hr H locs ls hz hl))
theorem g_dup (X : gX p s m args meth c cc nL own rt D tys) {v : Value} (d : decode cc pc = .ok (.dup, 1)) (hc : v.category = 1) (kk : gG p l e R s m args below meth c nL Z kc ks QQ (pc + 1) lv (v :: v :: st) F) : gG p l e R s m args below meth c nL Z kc ks QQ pc lv (v :: st) F := fun r hr H locs ls hz hl => lv_dup X.1 X.2.1 d hc (kk r hr H locs ls hz hl)
theorem g_dup2 (X : gX p s m args meth c cc nL own rt D tys) {v w : Value} (d : decode cc pc = .ok (.dup2, 1)) (hc : v.category = 1) (hw : w.category = 1) (kk : gG p l e R s m args below meth c nL Z kc ks QQ (pc + 1) lv (v :: w :: v :: w :: st) F) : gG p l e R s m args below meth c nL Z kc ks QQ pc lv (v :: w :: st) F := fun r hr H locs ls hz hl => lv_dup2_11 X.1 X.2.1 d hc hw (kk r hr H locs ls hz hl)
theorem g_pop (X : gX p s m args meth c cc nL own rt D tys) {v : Value} (d : decode cc pc = .ok (.pop, 1)) (hc : v.category = 1) (kk : gG p l e R s m args below meth c nL Z kc ks QQ (pc + 1) lv st F) : gG p l e R s m args below meth c nL Z kc ks QQ pc lv (v :: st) F := fun r hr H locs ls hz hl => lv_pop X.1 X.2.1 d hc (kk r hr H locs ls hz hl)
theorem g_goto (X : gX p s m args meth c cc nL own rt D tys) {off : Int} {tgt : Nat} (d : decode cc pc = .ok (.goto off, 3)) (ht : (pc : Int) + off = (tgt : Int)) (kk : gG p l e R s m args below meth c nL Z kc ks QQ tgt lv st F) : gG p l e R s m args below meth c nL Z kc ks QQ pc lv st F := fun r hr H locs ls hz hl => lv_goto X.1 X.2.1 d ht (kk r hr H locs ls hz hl)
theorem g_if_eq (X : gX p s m args meth c cc nL own rt D tys) {x : Int32} {off : Int} {tgt : Nat} (d : decode cc pc = .ok (.ifCond .eq off, 3)) (ht : (pc : Int) + off = (tgt : Int)) (kt : gG p l e R s m args below meth c nL Z kc ks QQ tgt lv st F1) (kf : gG p l e R s m args below meth c nL Z kc ks QQ (pc + 3) lv st F2) : gG p l e R s m args below meth c nL Z kc ks QQ pc lv (.int x :: st) (if x = 0 then F1 else F2) := fun r hr H locs ls hz hl => lv_if_eq X.1 X.2.1 d ht (fun hc => kt r (by rw [if_pos hc] at hr; exact hr) H locs ls hz hl) (fun hc => kf r (by rw [if_neg hc] at hr; exact hr) H locs ls hz hl)
theorem g_icmp_eq (X : gX p s m args meth c cc nL own rt D tys) {x y : Int32} {off : Int} {tgt : Nat} (d : decode cc pc = .ok (.if_icmp .eq off, 3)) (ht : (pc : Int) + off = (tgt : Int)) (kt : gG p l e R s m args below meth c nL Z kc ks QQ tgt lv st F1) (kf : gG p l e R s m args below meth c nL Z kc ks QQ (pc + 3) lv st F2) : gG p l e R s m args below meth c nL Z kc ks QQ pc lv (.int y :: .int x :: st) (if x = y then F1 else F2) := fun r hr H locs ls hz hl => lv_icmp_eq X.1 X.2.1 d ht (fun hc => kt r (by rw [if_pos hc] at hr; exact hr) H locs ls hz hl) (fun hc => kf r (by rw [if_neg hc] at hr; exact hr) H locs ls hz hl)
theorem g_if_ne (X : gX p s m args meth c cc nL own rt D tys) {x : Int32} {off : Int} {tgt : Nat} (d : decode cc pc = .ok (.ifCond .ne off, 3)) (ht : (pc : Int) + off = (tgt : Int)) (kt : gG p l e R s m args below meth c nL Z kc ks QQ tgt lv st F1) (kf : gG p l e R s m args below meth c nL Z kc ks QQ (pc + 3) lv st F2) : gG p l e R s m args below meth c nL Z kc ks QQ pc lv (.int x :: st) (if x = 0 then F2 else F1) := fun r hr H locs ls hz hl => lv_if_ne X.1 X.2.1 d ht (fun hc => kt r (by rw [if_neg hc] at hr; exact hr) H locs ls hz hl) (fun hc => kf r (by rw [if_pos hc] at hr; exact hr) H locs ls hz hl)
theorem g_icmp_ne (X : gX p s m args meth c cc nL own rt D tys) {x y : Int32} {off : Int} {tgt : Nat} (d : decode cc pc = .ok (.if_icmp .ne off, 3)) (ht : (pc : Int) + off = (tgt : Int)) (kt : gG p l e R s m args below meth c nL Z kc ks QQ tgt lv st F1) (kf : gG p l e R s m args below meth c nL Z kc ks QQ (pc + 3) lv st F2) : gG p l e R s m args below meth c nL Z kc ks QQ pc lv (.int y :: .int x :: st) (if x = y then F2 else F1) := fun r hr H locs ls hz hl => lv_icmp_ne X.1 X.2.1 d ht (fun hc => kt r (by rw [if_neg hc] at hr; exact hr) H locs ls hz hl) (fun hc => kf r (by rw [if_pos hc] at hr; exact hr) H locs ls hz hl)
theorem g_if_lt (X : gX p s m args meth c cc nL own rt D tys) {x : Int32} {off : Int} {tgt : Nat} (d : decode cc pc = .ok (.ifCond .lt off, 3)) (ht : (pc : Int) + off = (tgt : Int)) (kt : gG p l e R s m args below meth c nL Z kc ks QQ tgt lv st F1) (kf : gG p l e R s m args below meth c nL Z kc ks QQ (pc + 3) lv st F2) : gG p l e R s m args below meth c nL Z kc ks QQ pc lv (.int x :: st) (if x < 0 then F1 else F2) := fun r hr H locs ls hz hl => lv_if_lt X.1 X.2.1 d ht (fun hc => kt r (by rw [if_pos hc] at hr; exact hr) H locs ls hz hl) (fun hc => kf r (by rw [if_neg hc] at hr; exact hr) H locs ls hz hl)
theorem g_icmp_lt (X : gX p s m args meth c cc nL own rt D tys) {x y : Int32} {off : Int} {tgt : Nat} (d : decode cc pc = .ok (.if_icmp .lt off, 3)) (ht : (pc : Int) + off = (tgt : Int)) (kt : gG p l e R s m args below meth c nL Z kc ks QQ tgt lv st F1) (kf : gG p l e R s m args below meth c nL Z kc ks QQ (pc + 3) lv st F2) : gG p l e R s m args below meth c nL Z kc ks QQ pc lv (.int y :: .int x :: st) (if x < y then F1 else F2) := fun r hr H locs ls hz hl => lv_icmp_lt X.1 X.2.1 d ht (fun hc => kt r (by rw [if_pos hc] at hr; exact hr) H locs ls hz hl) (fun hc => kf r (by rw [if_neg hc] at hr; exact hr) H locs ls hz hl)
theorem g_if_ge (X : gX p s m args meth c cc nL own rt D tys) {x : Int32} {off : Int} {tgt : Nat} (d : decode cc pc = .ok (.ifCond .ge off, 3)) (ht : (pc : Int) + off = (tgt : Int)) (kt : gG p l e R s m args below meth c nL Z kc ks QQ tgt lv st F1) (kf : gG p l e R s m args below meth c nL Z kc ks QQ (pc + 3) lv st F2) : gG p l e R s m args below meth c nL Z kc ks QQ pc lv (.int x :: st) (if 0 ≤ x then F1 else F2) := fun r hr H locs ls hz hl => lv_if_ge X.1 X.2.1 d ht (fun hc => kt r (by rw [if_pos hc] at hr; exact hr) H locs ls hz hl) (fun hc => kf r (by rw [if_neg hc] at hr; exact hr) H locs ls hz hl)
theorem g_icmp_ge (X : gX p s m args meth c cc nL own rt D tys) {x y : Int32} {off : Int} {tgt : Nat} (d : decode cc pc = .ok (.if_icmp .ge off, 3)) (ht : (pc : Int) + off = (tgt : Int)) (kt : gG p l e R s m args below meth c nL Z kc ks QQ tgt lv st F1) (kf : gG p l e R s m args below meth c nL Z kc ks QQ (pc + 3) lv st F2) : gG p l e R s m args below meth c nL Z kc ks QQ pc lv (.int y :: .int x :: st) (if y ≤ x then F1 else F2) := fun r hr H locs ls hz hl => lv_icmp_ge X.1 X.2.1 d ht (fun hc => kt r (by rw [if_pos hc] at hr; exact hr) H locs ls hz hl) (fun hc => kf r (by rw [if_neg hc] at hr; exact hr) H locs ls hz hl)
theorem g_if_gt (X : gX p s m args meth c cc nL own rt D tys) {x : Int32} {off : Int} {tgt : Nat} (d : decode cc pc = .ok (.ifCond .gt off, 3)) (ht : (pc : Int) + off = (tgt : Int)) (kt : gG p l e R s m args below meth c nL Z kc ks QQ tgt lv st F1) (kf : gG p l e R s m args below meth c nL Z kc ks QQ (pc + 3) lv st F2) : gG p l e R s m args below meth c nL Z kc ks QQ pc lv (.int x :: st) (if 0 < x then F1 else F2) := fun r hr H locs ls hz hl => lv_if_gt X.1 X.2.1 d ht (fun hc => kt r (by rw [if_pos hc] at hr; exact hr) H locs ls hz hl) (fun hc => kf r (by rw [if_neg hc] at hr; exact hr) H locs ls hz hl)
theorem g_icmp_gt (X : gX p s m args meth c cc nL own rt D tys) {x y : Int32} {off : Int} {tgt : Nat} (d : decode cc pc = .ok (.if_icmp .gt off, 3)) (ht : (pc : Int) + off = (tgt : Int)) (kt : gG p l e R s m args below meth c nL Z kc ks QQ tgt lv st F1) (kf : gG p l e R s m args below meth c nL Z kc ks QQ (pc + 3) lv st F2) : gG p l e R s m args below meth c nL Z kc ks QQ pc lv (.int y :: .int x :: st) (if y < x then F1 else F2) := fun r hr H locs ls hz hl => lv_icmp_gt X.1 X.2.1 d ht (fun hc => kt r (by rw [if_pos hc] at hr; exact hr) H locs ls hz hl) (fun hc => kf r (by rw [if_neg hc] at hr; exact hr) H locs ls hz hl)
theorem g_if_le (X : gX p s m args meth c cc nL own rt D tys) {x : Int32} {off : Int} {tgt : Nat} (d : decode cc pc = .ok (.ifCond .le off, 3)) (ht : (pc : Int) + off = (tgt : Int)) (kt : gG p l e R s m args below meth c nL Z kc ks QQ tgt lv st F1) (kf : gG p l e R s m args below meth c nL Z kc ks QQ (pc + 3) lv st F2) : gG p l e R s m args below meth c nL Z kc ks QQ pc lv (.int x :: st) (if x ≤ 0 then F1 else F2) := fun r hr H locs ls hz hl => lv_if_le X.1 X.2.1 d ht (fun hc => kt r (by rw [if_pos hc] at hr; exact hr) H locs ls hz hl) (fun hc => kf r (by rw [if_neg hc] at hr; exact hr) H locs ls hz hl)
theorem g_icmp_le (X : gX p s m args meth c cc nL own rt D tys) {x y : Int32} {off : Int} {tgt : Nat} (d : decode cc pc = .ok (.if_icmp .le off, 3)) (ht : (pc : Int) + off = (tgt : Int)) (kt : gG p l e R s m args below meth c nL Z kc ks QQ tgt lv st F1) (kf : gG p l e R s m args below meth c nL Z kc ks QQ (pc + 3) lv st F2) : gG p l e R s m args below meth c nL Z kc ks QQ pc lv (.int y :: .int x :: st) (if x ≤ y then F1 else F2) := fun r hr H locs ls hz hl => lv_icmp_le X.1 X.2.1 d ht (fun hc => kt r (by rw [if_pos hc] at hr; exact hr) H locs ls hz hl) (fun hc => kf r (by rw [if_neg hc] at hr; exact hr) H locs ls hz hl)
theorem g_tOut (X : gX p s m args meth c cc nL own rt D tys) {x : Int32} {df lo hi : Int} {offs : Array Int} {len tgt : Nat} (d : decode cc pc = .ok (.tableswitch df lo hi offs, len)) (h : x.toInt < lo ∨ hi < x.toInt) (ht : (pc : Int) + df = (tgt : Int)) (kk : gG p l e R s m args below meth c nL Z kc ks QQ tgt lv st F) : gG p l e R s m args below meth c nL Z kc ks QQ pc lv (.int x :: st) F := fun r hr H locs ls hz hl => lv_tableOut X.1 X.2.1 d h ht (kk r hr H locs ls hz hl)
theorem g_tIn (X : gX p s m args meth c cc nL own rt D tys) {x : Int32} {df lo hi off : Int} {offs : Array Int} {len tgt : Nat} (d : decode cc pc = .ok (.tableswitch df lo hi offs, len)) (h1 : ¬ x.toInt < lo) (h2 : ¬ hi < x.toInt) (ho : offs[(x.toInt - lo).toNat]? = some off) (ht : (pc : Int) + off = (tgt : Int)) (kk : gG p l e R s m args below meth c nL Z kc ks QQ tgt lv st F) : gG p l e R s m args below meth c nL Z kc ks QQ pc lv (.int x :: st) F := fun r hr H locs ls hz hl => lv_tableIn X.1 X.2.1 d h1 h2 ho ht (kk r hr H locs ls hz hl)
theorem tn_i {x k : Int32} {n : Int} (h : ¬ x = k) (hk : k.toInt = n) : ¬ x.toInt = n := fun e => h (Int32.toInt_inj.mp (e.trans hk.symm))
end GG
end
section
abbrev MR : Type := Nat → Nat → Int32
def mS (M : MR) (j i : Nat) (v : Int32) : MR := fun a b => if a = j then (if b = i then v else M a b) else M a b
def fsR (q : Nat → Nat) (M : MR) : List Value := [.ref (q 0), .ref (q 1), .ref (q 2), .int (M 3 0), .ref (q 4), .ref (q 5), .int (M 6 0), .int (M 7 0), .int (M 8 0), .ref (q 9), .ref (q 10), .ref (q 11), .int (M 12 0), .ref (q 13), .ref (q 14), .ref (q 15), .ref (q 16), .ref (q 17), .ref (q 18), .ref (q 19), .int (M 20 0), .int (M 21 0), .int (M 22 0), .int (M 23 0), .int (M 24 0), .int (M 25 0), .ref (q 26), .ref (q 27), .ref (q 28), .ref (q 29), .int (M 30 0), .int (M 31 0), .int (M 32 0), .int (M 33 0)]
def wR (cI cZ : ClassId) (q : Nat → Nat) (M : MR) : va_W := [(q 34, .inr (5, fsR q M)), (q 0, .inl (cI, 62610, .inl (M 0))), (q 1, .inl (cZ, 2, .inl (M 1))), (q 2, .inl (cI, 60, .inl (M 2))), (q 4, .inl (cI, 60, .inl (M 4))), (q 5, .inl (cI, 60, .inl (M 5))), (q 9, .inl (cZ, 150, .inl (M 9))), (q 10, .inl (cZ, 2000, .inl (M 10))), (q 11, .inl (cI, 2000, .inl (M 11))), (q 13, .inl (cI, 22, .inl (M 13))), (q 14, .inl (cI, 22, .inl (M 14))), (q 15, .inl (cI, 22, .inl (M 15))), (q 16, .inl (cI, 22, .inl (M 16))), (q 17, .inl (cZ, 22, .inl (M 17))), (q 18, .inl (cI, 22, .inl (M 18))), (q 19, .inl (cI, 22, .inl (M 19))), (q 26, .inl (cZ, 20, .inl (M 26))), (q 27, .inl (cI, 20, .inl (M 27))), (q 28, .inl (cZ, 40, .inl (M 28))), (q 29, .inl (cZ, 40, .inl (M 29)))]
abbrev tyR (cI cZ : ClassId) : List (ClassId × FieldType) := [(cI, .int), (cZ, .boolean)]
def AR (q : Nat → Nat) (sz : Nat) : Nat → Prop := fun x => (x = q 34 ∨ x = q 0 ∨ x = q 1 ∨ x = q 2 ∨ x = q 4 ∨ x = q 5 ∨ x = q 9 ∨ x = q 10 ∨ x = q 11 ∨ x = q 13 ∨ x = q 14 ∨ x = q 15 ∨ x = q 16 ∨ x = q 17 ∨ x = q 18 ∨ x = q 19 ∨ x = q 26 ∨ x = q 27 ∨ x = q 28 ∨ x = q 29) ∨ sz ≤ x
theorem wR_len (cI cZ : ClassId) (q : Nat → Nat) (M : MR) : (wR cI cZ q M).map (fun x => x.1) = [q 34, q 0, q 1, q 2, q 4, q 5, q 9, q 10, q 11, q 13, q 14, q 15, q 16, q 17, q 18, q 19, q 26, q 27, q 28, q 29] := rfl
theorem AR_in {cI cZ : ClassId} {q : Nat → Nat} {M : MR} {sz x : Nat} : va_A (wR cI cZ q M) sz x ↔ AR q sz x := by
  have h : (∃ (k : Nat) (e : va_E), (wR cI cZ q M)[k]? = some (x, e)) ↔ x ∈ (wR cI cZ q M).map (fun y => y.1) := by
    constructor
    · rintro ⟨k, e, h⟩
      exact List.mem_map.mpr ⟨_, List.mem_of_getElem? h, rfl⟩
    · intro h
      obtain ⟨y, hy, rfl⟩ := List.mem_map.mp h
      obtain ⟨k, hk⟩ := List.getElem?_of_mem hy
      exact ⟨k, y.2, hk⟩
  unfold va_A AR
  rw [h, wR_len]
  simp only [List.mem_cons, List.not_mem_nil, or_false]
theorem AR_eq {cI cZ : ClassId} {q : Nat → Nat} {M : MR} {sz : Nat} : va_A (wR cI cZ q M) sz = AR q sz := funext fun _ => propext AR_in
theorem AR_mono {q : Nat → Nat} {a b x : Nat} (h : a ≤ b) (hx : AR q b x) : AR q a x := by
  rcases hx with hx | hx
  · exact Or.inl hx
  · exact Or.inr (Nat.le_trans h hx)
/-- the world of the reference holds -/
def ZR (D : va_G) (cI cZ : ClassId) (q : Nat → Nat) (A : Nat → Prop) (H0 : Heap) (M : MR) : Heap → List Loc → Prop := fun H locs => va_P D vwCl (wR cI cZ q M) H ∧ va_D A (wR cI cZ q M) ∧ va_S A H0 H locs
-- the pure program's words
def rd {ρ : Type} (M : MR) (j n : Nat) (i : Int32) (K : Int32 → Option ρ) : Option ρ := if i < 0 ∨ n ≤ i.toNatClampNeg then none else K (M j i.toNatClampNeg)
def wr {ρ : Type} (M : MR) (j n : Nat) (i v : Int32) (K : MR → Option ρ) : Option ρ := if i < 0 ∨ n ≤ i.toNatClampNeg then none else K (mS M j i.toNatClampNeg v)
def wz {ρ : Type} (M : MR) (j n : Nat) (i v : Int32) (K : MR → Option ρ) : Option ρ := if i < 0 ∨ n ≤ i.toNatClampNeg then none else K (mS M j i.toNatClampNeg (vp_nar .boolean v))
def gf {ρ : Type} (M : MR) (j : Nat) (K : Int32 → Option ρ) : Option ρ := K (M j 0)
def pf {ρ : Type} (M : MR) (j : Nat) (v : Int32) (K : MR → Option ρ) : Option ρ := K (mS M j 0 v)
def bnd {α β ρ : Type} (x : Option (α × β)) (K : α → β → Option ρ) : Option ρ := match x with
  | none => none
  | some a => K a.1 a.2
def bo (v : Int32) : Prop := v = 0 ∨ v = 1
def zt {ρ : Type} (v : Int32) (F : Option ρ) : Option ρ := if v = 0 then F else if v = 1 then F else none
theorem zt_bo {ρ : Type} {v : Int32} {F : Option ρ} {r : ρ} (h : zt v F = some r) : bo v ∧ F = some r := by
  unfold zt at h
  by_cases h0 : v = 0
  · rw [if_pos h0] at h; exact ⟨Or.inl h0, h⟩
  · rw [if_neg h0] at h
    by_cases h1 : v = 1
    · rw [if_pos h1] at h; exact ⟨Or.inr h1, h⟩
    · rw [if_neg h1] at h; cases h
theorem bo_nar {v : Int32} (h : bo v) : narrow .boolean (.int v) = .int v ∧ fits .boolean (.int v) = true := by
  rcases h with rfl | rfl <;> exact ⟨by decide +kernel, by decide +kernel⟩
theorem gX5 : ∀ w ∈ u_ws RX5 TX5 34, goodWord w = true := by decide +kernel
theorem jX5 : ∀ w ∈ u_ws RX5 TX5 34, w ∈ tt := fun w h => tt_in (iX5 w h) (gX5 w h)
theorem fl5_m : Cond.fieldLink RX5 8 "EditionBookModel" "m" "[I" ∈ tt := tt_in (List.mem_of_getElem? (i := 769) (by decide +kernel)) (by decide +kernel)
theorem fl5_isKept : Cond.fieldLink RX5 14 "EditionBookModel" "isKept" "[Z" ∈ tt := tt_in (List.mem_of_getElem? (i := 770) (by decide +kernel)) (by decide +kernel)
theorem fl5_tape : Cond.fieldLink RX5 18 "EditionBookModel" "tape" "[I" ∈ tt := tt_in (List.mem_of_getElem? (i := 771) (by decide +kernel)) (by decide +kernel)
theorem fl5_taped : Cond.fieldLink RX5 80 "EditionBookModel" "taped" "I" ∈ tt := tt_in (List.mem_of_getElem? (i := 772) (by decide +kernel)) (by decide +kernel)
theorem fl5_text : Cond.fieldLink RX5 21 "EditionBookModel" "text" "[I" ∈ tt := tt_in (List.mem_of_getElem? (i := 773) (by decide +kernel)) (by decide +kernel)
theorem fl5_meant : Cond.fieldLink RX5 24 "EditionBookModel" "meant" "[I" ∈ tt := tt_in (List.mem_of_getElem? (i := 774) (by decide +kernel)) (by decide +kernel)
theorem fl5_length : Cond.fieldLink RX5 90 "EditionBookModel" "length" "I" ∈ tt := tt_in (List.mem_of_getElem? (i := 775) (by decide +kernel)) (by decide +kernel)
theorem fl5_fault : Cond.fieldLink RX5 84 "EditionBookModel" "fault" "I" ∈ tt := tt_in (List.mem_of_getElem? (i := 776) (by decide +kernel)) (by decide +kernel)
theorem fl5_at : Cond.fieldLink RX5 87 "EditionBookModel" "at" "I" ∈ tt := tt_in (List.mem_of_getElem? (i := 777) (by decide +kernel)) (by decide +kernel)
theorem fl5_leaned : Cond.fieldLink RX5 27 "EditionBookModel" "leaned" "[Z" ∈ tt := tt_in (List.mem_of_getElem? (i := 778) (by decide +kernel)) (by decide +kernel)
theorem fl5_isObj : Cond.fieldLink RX5 30 "EditionBookModel" "isObj" "[Z" ∈ tt := tt_in (List.mem_of_getElem? (i := 779) (by decide +kernel)) (by decide +kernel)
theorem fl5_value : Cond.fieldLink RX5 33 "EditionBookModel" "value" "[I" ∈ tt := tt_in (List.mem_of_getElem? (i := 780) (by decide +kernel)) (by decide +kernel)
theorem fl5_top : Cond.fieldLink RX5 147 "EditionBookModel" "top" "I" ∈ tt := tt_in (List.mem_of_getElem? (i := 781) (by decide +kernel)) (by decide +kernel)
theorem fl5_source : Cond.fieldLink RX5 36 "EditionBookModel" "source" "[I" ∈ tt := tt_in (List.mem_of_getElem? (i := 782) (by decide +kernel)) (by decide +kernel)
theorem fl5_place : Cond.fieldLink RX5 39 "EditionBookModel" "place" "[I" ∈ tt := tt_in (List.mem_of_getElem? (i := 783) (by decide +kernel)) (by decide +kernel)
theorem fl5_end : Cond.fieldLink RX5 42 "EditionBookModel" "end" "[I" ∈ tt := tt_in (List.mem_of_getElem? (i := 784) (by decide +kernel)) (by decide +kernel)
theorem fl5_self : Cond.fieldLink RX5 45 "EditionBookModel" "self" "[I" ∈ tt := tt_in (List.mem_of_getElem? (i := 785) (by decide +kernel)) (by decide +kernel)
theorem fl5_isArgObj : Cond.fieldLink RX5 48 "EditionBookModel" "isArgObj" "[Z" ∈ tt := tt_in (List.mem_of_getElem? (i := 786) (by decide +kernel)) (by decide +kernel)
theorem fl5_argument : Cond.fieldLink RX5 51 "EditionBookModel" "argument" "[I" ∈ tt := tt_in (List.mem_of_getElem? (i := 787) (by decide +kernel)) (by decide +kernel)
theorem fl5_starts : Cond.fieldLink RX5 54 "EditionBookModel" "starts" "[I" ∈ tt := tt_in (List.mem_of_getElem? (i := 788) (by decide +kernel)) (by decide +kernel)
theorem fl5_frames : Cond.fieldLink RX5 150 "EditionBookModel" "frames" "I" ∈ tt := tt_in (List.mem_of_getElem? (i := 789) (by decide +kernel)) (by decide +kernel)
theorem fl5_inner : Cond.fieldLink RX5 153 "EditionBookModel" "inner" "I" ∈ tt := tt_in (List.mem_of_getElem? (i := 790) (by decide +kernel)) (by decide +kernel)
theorem fl5_again : Cond.fieldLink RX5 162 "EditionBookModel" "again" "Z" ∈ tt := tt_in (List.mem_of_getElem? (i := 791) (by decide +kernel)) (by decide +kernel)
theorem fl5_steps : Cond.fieldLink RX5 159 "EditionBookModel" "steps" "I" ∈ tt := tt_in (List.mem_of_getElem? (i := 792) (by decide +kernel)) (by decide +kernel)
theorem fl5_failure : Cond.fieldLink RX5 156 "EditionBookModel" "failure" "I" ∈ tt := tt_in (List.mem_of_getElem? (i := 793) (by decide +kernel)) (by decide +kernel)
theorem fl5_wrote : Cond.fieldLink RX5 215 "EditionBookModel" "wrote" "I" ∈ tt := tt_in (List.mem_of_getElem? (i := 794) (by decide +kernel)) (by decide +kernel)
theorem fl5_isWrittenObj : Cond.fieldLink RX5 57 "EditionBookModel" "isWrittenObj" "[Z" ∈ tt := tt_in (List.mem_of_getElem? (i := 795) (by decide +kernel)) (by decide +kernel)
theorem fl5_writtenValue : Cond.fieldLink RX5 60 "EditionBookModel" "writtenValue" "[I" ∈ tt := tt_in (List.mem_of_getElem? (i := 796) (by decide +kernel)) (by decide +kernel)
theorem fl5_isStale : Cond.fieldLink RX5 63 "EditionBookModel" "isStale" "[Z" ∈ tt := tt_in (List.mem_of_getElem? (i := 797) (by decide +kernel)) (by decide +kernel)
theorem fl5_waits : Cond.fieldLink RX5 66 "EditionBookModel" "waits" "[Z" ∈ tt := tt_in (List.mem_of_getElem? (i := 798) (by decide +kernel)) (by decide +kernel)
theorem fl5_cameKind : Cond.fieldLink RX5 269 "EditionBookModel" "cameKind" "I" ∈ tt := tt_in (List.mem_of_getElem? (i := 799) (by decide +kernel)) (by decide +kernel)
theorem fl5_cameValue : Cond.fieldLink RX5 272 "EditionBookModel" "cameValue" "I" ∈ tt := tt_in (List.mem_of_getElem? (i := 800) (by decide +kernel)) (by decide +kernel)
theorem fl5_cameFailure : Cond.fieldLink RX5 275 "EditionBookModel" "cameFailure" "I" ∈ tt := tt_in (List.mem_of_getElem? (i := 801) (by decide +kernel)) (by decide +kernel)
theorem fl5_cameSteps : Cond.fieldLink RX5 278 "EditionBookModel" "cameSteps" "I" ∈ tt := tt_in (List.mem_of_getElem? (i := 802) (by decide +kernel)) (by decide +kernel)
section RR
variable {ρ : Type} {p : Program} {l : Launch} {e : Env} {R : Room} {s : State} {m : MethodId} {args : Array Value} {below : List Frame} {meth : Method} {c : Code}
variable {cc : ByteArray} {nL : Nat} {rt : Option FieldType} {D : va_G} {cI cZ : ClassId} {q : Nat → Nat} {A : Nat → Prop} {H0 : Heap} {M : MR} {kc ks : Nat} {QQ : ρ → State → Prop} {pc : Nat} {lv : List (Nat × Value)} {st : List Value} {F : Option ρ}
theorem r_g_m (X : gX p s m args meth c cc nL RX5 rt D (tyR cI cZ)) (d : decode cc pc = .ok (.getfield 8, 3)) (kk : gG p l e R s m args below meth c nL (ZR D cI cZ q A H0 M) kc ks QQ (pc + 3) lv (.ref (q 0) :: st) F) : gG p l e R s m args below meth c nL (ZR D cI cZ q A H0 M) kc ks QQ pc lv (.ref (q 34) :: st) F := fun r hr H locs ls hz hl => va_get (D := D) (ci := 5) (C := RX5) (T := TX5) (N := 34) X.1 X.2.1 X.2.2.2.2.1 jX5 X.2.2.2.1 X.2.2.2.2.2.1 hz.1 0 rfl rfl 0 (by decide) (X.2.2.2.2.1 _ fl5_m) (fun _ h9 => h9) rfl d (kk r hr H locs ls hz hl)
theorem r_l_m (X : gX p s m args meth c cc nL RX5 rt D (tyR cI cZ)) {i : Int32} {K : Int32 → Option ρ} (d : decode cc pc = .ok (.iaload, 1)) (kk : ∀ v, gG p l e R s m args below meth c nL (ZR D cI cZ q A H0 M) kc ks QQ (pc + 1) lv (.int v :: st) (K v)) : gG p l e R s m args below meth c nL (ZR D cI cZ q A H0 M) kc ks QQ pc lv (.int i :: .ref (q 0) :: st) (rd M 0 62610 i K) := g_ite (fun _ => g_none) (fun hin r hr H locs ls hz hl => va_iald X.1 X.2.1 X.2.2.2.2.2.1 hz.1 1 0 rfl rfl hin d (kk _ r hr H locs ls hz hl))
theorem r_e_m (cI cZ : ClassId) (q : Nat → Nat) (M : MR) (i : Nat) (v : Int32) : (wR cI cZ q M).set 1 (q 0, .inl (cI, 62610, .inl (upd (M 0) i v))) = wR cI cZ q (mS M 0 i v) := rfl
theorem r_s_m (X : gX p s m args meth c cc nL RX5 rt D (tyR cI cZ)) {i v : Int32} {K : MR → Option ρ} (d : decode cc pc = .ok (.iastore, 1)) (kk : ∀ M1, gG p l e R s m args below meth c nL (ZR D cI cZ q A H0 M1) kc ks QQ (pc + 1) lv st (K M1)) : gG p l e R s m args below meth c nL (ZR D cI cZ q A H0 M) kc ks QQ pc lv (.int v :: .int i :: .ref (q 0) :: st) (wr M 0 62610 i v K) := g_ite (fun _ => g_none) (fun hin r hr H locs ls hz hl => va_iast X.1 X.2.1 X.2.2.2.2.2.1 hz.1 hz.2.1 hz.2.2 1 0 rfl rfl hin d (fun H1 locs1 h1 h2 h3 => kk (mS M 0 i.toNatClampNeg v) r hr H1 locs1 ls ⟨(r_e_m cI cZ q M _ _) ▸ h1, (r_e_m cI cZ q M _ _) ▸ h2, h3⟩ hl))
theorem r_g_isKept (X : gX p s m args meth c cc nL RX5 rt D (tyR cI cZ)) (d : decode cc pc = .ok (.getfield 14, 3)) (kk : gG p l e R s m args below meth c nL (ZR D cI cZ q A H0 M) kc ks QQ (pc + 3) lv (.ref (q 1) :: st) F) : gG p l e R s m args below meth c nL (ZR D cI cZ q A H0 M) kc ks QQ pc lv (.ref (q 34) :: st) F := fun r hr H locs ls hz hl => va_get (D := D) (ci := 5) (C := RX5) (T := TX5) (N := 34) X.1 X.2.1 X.2.2.2.2.1 jX5 X.2.2.2.1 X.2.2.2.2.2.1 hz.1 0 rfl rfl 1 (by decide) (X.2.2.2.2.1 _ fl5_isKept) (fun _ h9 => h9) rfl d (kk r hr H locs ls hz hl)
theorem r_l_isKept (X : gX p s m args meth c cc nL RX5 rt D (tyR cI cZ)) {i : Int32} {K : Int32 → Option ρ} (d : decode cc pc = .ok (.baload, 1)) (kk : ∀ v, gG p l e R s m args below meth c nL (ZR D cI cZ q A H0 M) kc ks QQ (pc + 1) lv (.int v :: st) (K v)) : gG p l e R s m args below meth c nL (ZR D cI cZ q A H0 M) kc ks QQ pc lv (.int i :: .ref (q 1) :: st) (rd M 1 2 i K) := g_ite (fun _ => g_none) (fun hin r hr H locs ls hz hl => va_zald X.1 X.2.1 X.2.2.2.2.2.1 hz.1 2 1 rfl rfl hin d (kk _ r hr H locs ls hz hl))
theorem r_e_isKept (cI cZ : ClassId) (q : Nat → Nat) (M : MR) (i : Nat) (v : Int32) : (wR cI cZ q M).set 2 (q 1, .inl (cZ, 2, .inl (upd (M 1) i v))) = wR cI cZ q (mS M 1 i v) := rfl
theorem r_s_isKept (X : gX p s m args meth c cc nL RX5 rt D (tyR cI cZ)) {i v : Int32} {K : MR → Option ρ} (d : decode cc pc = .ok (.bastore, 1)) (kk : ∀ M1, gG p l e R s m args below meth c nL (ZR D cI cZ q A H0 M1) kc ks QQ (pc + 1) lv st (K M1)) : gG p l e R s m args below meth c nL (ZR D cI cZ q A H0 M) kc ks QQ pc lv (.int v :: .int i :: .ref (q 1) :: st) (wz M 1 2 i v K) := g_ite (fun _ => g_none) (fun hin r hr H locs ls hz hl => va_zast X.1 X.2.1 X.2.2.2.2.2.1 hz.1 hz.2.1 hz.2.2 2 1 rfl rfl hin d (fun H1 locs1 h1 h2 h3 => kk (mS M 1 i.toNatClampNeg (vp_nar .boolean v)) r hr H1 locs1 ls ⟨(r_e_isKept cI cZ q M _ _) ▸ h1, (r_e_isKept cI cZ q M _ _) ▸ h2, h3⟩ hl))
theorem r_g_tape (X : gX p s m args meth c cc nL RX5 rt D (tyR cI cZ)) (d : decode cc pc = .ok (.getfield 18, 3)) (kk : gG p l e R s m args below meth c nL (ZR D cI cZ q A H0 M) kc ks QQ (pc + 3) lv (.ref (q 2) :: st) F) : gG p l e R s m args below meth c nL (ZR D cI cZ q A H0 M) kc ks QQ pc lv (.ref (q 34) :: st) F := fun r hr H locs ls hz hl => va_get (D := D) (ci := 5) (C := RX5) (T := TX5) (N := 34) X.1 X.2.1 X.2.2.2.2.1 jX5 X.2.2.2.1 X.2.2.2.2.2.1 hz.1 0 rfl rfl 2 (by decide) (X.2.2.2.2.1 _ fl5_tape) (fun _ h9 => h9) rfl d (kk r hr H locs ls hz hl)
theorem r_l_tape (X : gX p s m args meth c cc nL RX5 rt D (tyR cI cZ)) {i : Int32} {K : Int32 → Option ρ} (d : decode cc pc = .ok (.iaload, 1)) (kk : ∀ v, gG p l e R s m args below meth c nL (ZR D cI cZ q A H0 M) kc ks QQ (pc + 1) lv (.int v :: st) (K v)) : gG p l e R s m args below meth c nL (ZR D cI cZ q A H0 M) kc ks QQ pc lv (.int i :: .ref (q 2) :: st) (rd M 2 60 i K) := g_ite (fun _ => g_none) (fun hin r hr H locs ls hz hl => va_iald X.1 X.2.1 X.2.2.2.2.2.1 hz.1 3 0 rfl rfl hin d (kk _ r hr H locs ls hz hl))
theorem r_e_tape (cI cZ : ClassId) (q : Nat → Nat) (M : MR) (i : Nat) (v : Int32) : (wR cI cZ q M).set 3 (q 2, .inl (cI, 60, .inl (upd (M 2) i v))) = wR cI cZ q (mS M 2 i v) := rfl
theorem r_s_tape (X : gX p s m args meth c cc nL RX5 rt D (tyR cI cZ)) {i v : Int32} {K : MR → Option ρ} (d : decode cc pc = .ok (.iastore, 1)) (kk : ∀ M1, gG p l e R s m args below meth c nL (ZR D cI cZ q A H0 M1) kc ks QQ (pc + 1) lv st (K M1)) : gG p l e R s m args below meth c nL (ZR D cI cZ q A H0 M) kc ks QQ pc lv (.int v :: .int i :: .ref (q 2) :: st) (wr M 2 60 i v K) := g_ite (fun _ => g_none) (fun hin r hr H locs ls hz hl => va_iast X.1 X.2.1 X.2.2.2.2.2.1 hz.1 hz.2.1 hz.2.2 3 0 rfl rfl hin d (fun H1 locs1 h1 h2 h3 => kk (mS M 2 i.toNatClampNeg v) r hr H1 locs1 ls ⟨(r_e_tape cI cZ q M _ _) ▸ h1, (r_e_tape cI cZ q M _ _) ▸ h2, h3⟩ hl))
theorem r_g_taped (X : gX p s m args meth c cc nL RX5 rt D (tyR cI cZ)) {K : Int32 → Option ρ} (d : decode cc pc = .ok (.getfield 80, 3)) (kk : ∀ v, gG p l e R s m args below meth c nL (ZR D cI cZ q A H0 M) kc ks QQ (pc + 3) lv (.int v :: st) (K v)) : gG p l e R s m args below meth c nL (ZR D cI cZ q A H0 M) kc ks QQ pc lv (.ref (q 34) :: st) (gf M 3 K) := fun r hr H locs ls hz hl => va_get (D := D) (ci := 5) (C := RX5) (T := TX5) (N := 34) X.1 X.2.1 X.2.2.2.2.1 jX5 X.2.2.2.1 X.2.2.2.2.2.1 hz.1 0 rfl rfl 3 (by decide) (X.2.2.2.2.1 _ fl5_taped) (fun _ h9 => h9) rfl d (kk _ r hr H locs ls hz hl)
theorem r_f_taped (cI cZ : ClassId) (q : Nat → Nat) (M : MR) (v : Int32) : (wR cI cZ q M).set 0 (q 34, .inr (5, (fsR q M).set 3 (.int v))) = wR cI cZ q (mS M 3 0 v) := rfl
theorem r_p_taped (X : gX p s m args meth c cc nL RX5 rt D (tyR cI cZ)) {v : Int32} {K : MR → Option ρ} (d : decode cc pc = .ok (.putfield 80, 3)) (kk : ∀ M1, gG p l e R s m args below meth c nL (ZR D cI cZ q A H0 M1) kc ks QQ (pc + 3) lv st (K M1)) : gG p l e R s m args below meth c nL (ZR D cI cZ q A H0 M) kc ks QQ pc lv (.int v :: .ref (q 34) :: st) (pf M 3 v K) := fun r hr2 H locs ls hz hl => va_put (D := D) (ci := 5) (v := .int v) (C := RX5) (T := TX5) (N := 34) X.1 X.2.1 X.2.2.2.2.1 jX5 tyX5 tyX5_ok nmX5 X.2.2.2.1 X.2.2.2.2.2.1 hz.1 hz.2.1 hz.2.2 0 rfl rfl 3 (by decide) (X.2.2.2.2.1 _ fl5_taped) (fun _ h9 => h9) rfl (tyX5_ok 3 (by decide)) rfl rfl (by show 3 < 34; decide) d (fun H1 locs1 h1 h2 h3 => kk (mS M 3 0 v) r hr2 H1 locs1 ls ⟨(r_f_taped cI cZ q M v) ▸ h1, (r_f_taped cI cZ q M v) ▸ h2, h3⟩ hl)
theorem r_g_text (X : gX p s m args meth c cc nL RX5 rt D (tyR cI cZ)) (d : decode cc pc = .ok (.getfield 21, 3)) (kk : gG p l e R s m args below meth c nL (ZR D cI cZ q A H0 M) kc ks QQ (pc + 3) lv (.ref (q 4) :: st) F) : gG p l e R s m args below meth c nL (ZR D cI cZ q A H0 M) kc ks QQ pc lv (.ref (q 34) :: st) F := fun r hr H locs ls hz hl => va_get (D := D) (ci := 5) (C := RX5) (T := TX5) (N := 34) X.1 X.2.1 X.2.2.2.2.1 jX5 X.2.2.2.1 X.2.2.2.2.2.1 hz.1 0 rfl rfl 4 (by decide) (X.2.2.2.2.1 _ fl5_text) (fun _ h9 => h9) rfl d (kk r hr H locs ls hz hl)
theorem r_l_text (X : gX p s m args meth c cc nL RX5 rt D (tyR cI cZ)) {i : Int32} {K : Int32 → Option ρ} (d : decode cc pc = .ok (.iaload, 1)) (kk : ∀ v, gG p l e R s m args below meth c nL (ZR D cI cZ q A H0 M) kc ks QQ (pc + 1) lv (.int v :: st) (K v)) : gG p l e R s m args below meth c nL (ZR D cI cZ q A H0 M) kc ks QQ pc lv (.int i :: .ref (q 4) :: st) (rd M 4 60 i K) := g_ite (fun _ => g_none) (fun hin r hr H locs ls hz hl => va_iald X.1 X.2.1 X.2.2.2.2.2.1 hz.1 4 0 rfl rfl hin d (kk _ r hr H locs ls hz hl))
theorem r_e_text (cI cZ : ClassId) (q : Nat → Nat) (M : MR) (i : Nat) (v : Int32) : (wR cI cZ q M).set 4 (q 4, .inl (cI, 60, .inl (upd (M 4) i v))) = wR cI cZ q (mS M 4 i v) := rfl
theorem r_s_text (X : gX p s m args meth c cc nL RX5 rt D (tyR cI cZ)) {i v : Int32} {K : MR → Option ρ} (d : decode cc pc = .ok (.iastore, 1)) (kk : ∀ M1, gG p l e R s m args below meth c nL (ZR D cI cZ q A H0 M1) kc ks QQ (pc + 1) lv st (K M1)) : gG p l e R s m args below meth c nL (ZR D cI cZ q A H0 M) kc ks QQ pc lv (.int v :: .int i :: .ref (q 4) :: st) (wr M 4 60 i v K) := g_ite (fun _ => g_none) (fun hin r hr H locs ls hz hl => va_iast X.1 X.2.1 X.2.2.2.2.2.1 hz.1 hz.2.1 hz.2.2 4 0 rfl rfl hin d (fun H1 locs1 h1 h2 h3 => kk (mS M 4 i.toNatClampNeg v) r hr H1 locs1 ls ⟨(r_e_text cI cZ q M _ _) ▸ h1, (r_e_text cI cZ q M _ _) ▸ h2, h3⟩ hl))
theorem r_g_meant (X : gX p s m args meth c cc nL RX5 rt D (tyR cI cZ)) (d : decode cc pc = .ok (.getfield 24, 3)) (kk : gG p l e R s m args below meth c nL (ZR D cI cZ q A H0 M) kc ks QQ (pc + 3) lv (.ref (q 5) :: st) F) : gG p l e R s m args below meth c nL (ZR D cI cZ q A H0 M) kc ks QQ pc lv (.ref (q 34) :: st) F := fun r hr H locs ls hz hl => va_get (D := D) (ci := 5) (C := RX5) (T := TX5) (N := 34) X.1 X.2.1 X.2.2.2.2.1 jX5 X.2.2.2.1 X.2.2.2.2.2.1 hz.1 0 rfl rfl 5 (by decide) (X.2.2.2.2.1 _ fl5_meant) (fun _ h9 => h9) rfl d (kk r hr H locs ls hz hl)
theorem r_l_meant (X : gX p s m args meth c cc nL RX5 rt D (tyR cI cZ)) {i : Int32} {K : Int32 → Option ρ} (d : decode cc pc = .ok (.iaload, 1)) (kk : ∀ v, gG p l e R s m args below meth c nL (ZR D cI cZ q A H0 M) kc ks QQ (pc + 1) lv (.int v :: st) (K v)) : gG p l e R s m args below meth c nL (ZR D cI cZ q A H0 M) kc ks QQ pc lv (.int i :: .ref (q 5) :: st) (rd M 5 60 i K) := g_ite (fun _ => g_none) (fun hin r hr H locs ls hz hl => va_iald X.1 X.2.1 X.2.2.2.2.2.1 hz.1 5 0 rfl rfl hin d (kk _ r hr H locs ls hz hl))
theorem r_e_meant (cI cZ : ClassId) (q : Nat → Nat) (M : MR) (i : Nat) (v : Int32) : (wR cI cZ q M).set 5 (q 5, .inl (cI, 60, .inl (upd (M 5) i v))) = wR cI cZ q (mS M 5 i v) := rfl
theorem r_s_meant (X : gX p s m args meth c cc nL RX5 rt D (tyR cI cZ)) {i v : Int32} {K : MR → Option ρ} (d : decode cc pc = .ok (.iastore, 1)) (kk : ∀ M1, gG p l e R s m args below meth c nL (ZR D cI cZ q A H0 M1) kc ks QQ (pc + 1) lv st (K M1)) : gG p l e R s m args below meth c nL (ZR D cI cZ q A H0 M) kc ks QQ pc lv (.int v :: .int i :: .ref (q 5) :: st) (wr M 5 60 i v K) := g_ite (fun _ => g_none) (fun hin r hr H locs ls hz hl => va_iast X.1 X.2.1 X.2.2.2.2.2.1 hz.1 hz.2.1 hz.2.2 5 0 rfl rfl hin d (fun H1 locs1 h1 h2 h3 => kk (mS M 5 i.toNatClampNeg v) r hr H1 locs1 ls ⟨(r_e_meant cI cZ q M _ _) ▸ h1, (r_e_meant cI cZ q M _ _) ▸ h2, h3⟩ hl))
theorem r_g_length (X : gX p s m args meth c cc nL RX5 rt D (tyR cI cZ)) {K : Int32 → Option ρ} (d : decode cc pc = .ok (.getfield 90, 3)) (kk : ∀ v, gG p l e R s m args below meth c nL (ZR D cI cZ q A H0 M) kc ks QQ (pc + 3) lv (.int v :: st) (K v)) : gG p l e R s m args below meth c nL (ZR D cI cZ q A H0 M) kc ks QQ pc lv (.ref (q 34) :: st) (gf M 6 K) := fun r hr H locs ls hz hl => va_get (D := D) (ci := 5) (C := RX5) (T := TX5) (N := 34) X.1 X.2.1 X.2.2.2.2.1 jX5 X.2.2.2.1 X.2.2.2.2.2.1 hz.1 0 rfl rfl 6 (by decide) (X.2.2.2.2.1 _ fl5_length) (fun _ h9 => h9) rfl d (kk _ r hr H locs ls hz hl)
theorem r_f_length (cI cZ : ClassId) (q : Nat → Nat) (M : MR) (v : Int32) : (wR cI cZ q M).set 0 (q 34, .inr (5, (fsR q M).set 6 (.int v))) = wR cI cZ q (mS M 6 0 v) := rfl
theorem r_p_length (X : gX p s m args meth c cc nL RX5 rt D (tyR cI cZ)) {v : Int32} {K : MR → Option ρ} (d : decode cc pc = .ok (.putfield 90, 3)) (kk : ∀ M1, gG p l e R s m args below meth c nL (ZR D cI cZ q A H0 M1) kc ks QQ (pc + 3) lv st (K M1)) : gG p l e R s m args below meth c nL (ZR D cI cZ q A H0 M) kc ks QQ pc lv (.int v :: .ref (q 34) :: st) (pf M 6 v K) := fun r hr2 H locs ls hz hl => va_put (D := D) (ci := 5) (v := .int v) (C := RX5) (T := TX5) (N := 34) X.1 X.2.1 X.2.2.2.2.1 jX5 tyX5 tyX5_ok nmX5 X.2.2.2.1 X.2.2.2.2.2.1 hz.1 hz.2.1 hz.2.2 0 rfl rfl 6 (by decide) (X.2.2.2.2.1 _ fl5_length) (fun _ h9 => h9) rfl (tyX5_ok 6 (by decide)) rfl rfl (by show 6 < 34; decide) d (fun H1 locs1 h1 h2 h3 => kk (mS M 6 0 v) r hr2 H1 locs1 ls ⟨(r_f_length cI cZ q M v) ▸ h1, (r_f_length cI cZ q M v) ▸ h2, h3⟩ hl)
theorem r_g_fault (X : gX p s m args meth c cc nL RX5 rt D (tyR cI cZ)) {K : Int32 → Option ρ} (d : decode cc pc = .ok (.getfield 84, 3)) (kk : ∀ v, gG p l e R s m args below meth c nL (ZR D cI cZ q A H0 M) kc ks QQ (pc + 3) lv (.int v :: st) (K v)) : gG p l e R s m args below meth c nL (ZR D cI cZ q A H0 M) kc ks QQ pc lv (.ref (q 34) :: st) (gf M 7 K) := fun r hr H locs ls hz hl => va_get (D := D) (ci := 5) (C := RX5) (T := TX5) (N := 34) X.1 X.2.1 X.2.2.2.2.1 jX5 X.2.2.2.1 X.2.2.2.2.2.1 hz.1 0 rfl rfl 7 (by decide) (X.2.2.2.2.1 _ fl5_fault) (fun _ h9 => h9) rfl d (kk _ r hr H locs ls hz hl)
theorem r_f_fault (cI cZ : ClassId) (q : Nat → Nat) (M : MR) (v : Int32) : (wR cI cZ q M).set 0 (q 34, .inr (5, (fsR q M).set 7 (.int v))) = wR cI cZ q (mS M 7 0 v) := rfl
theorem r_p_fault (X : gX p s m args meth c cc nL RX5 rt D (tyR cI cZ)) {v : Int32} {K : MR → Option ρ} (d : decode cc pc = .ok (.putfield 84, 3)) (kk : ∀ M1, gG p l e R s m args below meth c nL (ZR D cI cZ q A H0 M1) kc ks QQ (pc + 3) lv st (K M1)) : gG p l e R s m args below meth c nL (ZR D cI cZ q A H0 M) kc ks QQ pc lv (.int v :: .ref (q 34) :: st) (pf M 7 v K) := fun r hr2 H locs ls hz hl => va_put (D := D) (ci := 5) (v := .int v) (C := RX5) (T := TX5) (N := 34) X.1 X.2.1 X.2.2.2.2.1 jX5 tyX5 tyX5_ok nmX5 X.2.2.2.1 X.2.2.2.2.2.1 hz.1 hz.2.1 hz.2.2 0 rfl rfl 7 (by decide) (X.2.2.2.2.1 _ fl5_fault) (fun _ h9 => h9) rfl (tyX5_ok 7 (by decide)) rfl rfl (by show 7 < 34; decide) d (fun H1 locs1 h1 h2 h3 => kk (mS M 7 0 v) r hr2 H1 locs1 ls ⟨(r_f_fault cI cZ q M v) ▸ h1, (r_f_fault cI cZ q M v) ▸ h2, h3⟩ hl)
theorem r_g_at (X : gX p s m args meth c cc nL RX5 rt D (tyR cI cZ)) {K : Int32 → Option ρ} (d : decode cc pc = .ok (.getfield 87, 3)) (kk : ∀ v, gG p l e R s m args below meth c nL (ZR D cI cZ q A H0 M) kc ks QQ (pc + 3) lv (.int v :: st) (K v)) : gG p l e R s m args below meth c nL (ZR D cI cZ q A H0 M) kc ks QQ pc lv (.ref (q 34) :: st) (gf M 8 K) := fun r hr H locs ls hz hl => va_get (D := D) (ci := 5) (C := RX5) (T := TX5) (N := 34) X.1 X.2.1 X.2.2.2.2.1 jX5 X.2.2.2.1 X.2.2.2.2.2.1 hz.1 0 rfl rfl 8 (by decide) (X.2.2.2.2.1 _ fl5_at) (fun _ h9 => h9) rfl d (kk _ r hr H locs ls hz hl)
theorem r_f_at (cI cZ : ClassId) (q : Nat → Nat) (M : MR) (v : Int32) : (wR cI cZ q M).set 0 (q 34, .inr (5, (fsR q M).set 8 (.int v))) = wR cI cZ q (mS M 8 0 v) := rfl
theorem r_p_at (X : gX p s m args meth c cc nL RX5 rt D (tyR cI cZ)) {v : Int32} {K : MR → Option ρ} (d : decode cc pc = .ok (.putfield 87, 3)) (kk : ∀ M1, gG p l e R s m args below meth c nL (ZR D cI cZ q A H0 M1) kc ks QQ (pc + 3) lv st (K M1)) : gG p l e R s m args below meth c nL (ZR D cI cZ q A H0 M) kc ks QQ pc lv (.int v :: .ref (q 34) :: st) (pf M 8 v K) := fun r hr2 H locs ls hz hl => va_put (D := D) (ci := 5) (v := .int v) (C := RX5) (T := TX5) (N := 34) X.1 X.2.1 X.2.2.2.2.1 jX5 tyX5 tyX5_ok nmX5 X.2.2.2.1 X.2.2.2.2.2.1 hz.1 hz.2.1 hz.2.2 0 rfl rfl 8 (by decide) (X.2.2.2.2.1 _ fl5_at) (fun _ h9 => h9) rfl (tyX5_ok 8 (by decide)) rfl rfl (by show 8 < 34; decide) d (fun H1 locs1 h1 h2 h3 => kk (mS M 8 0 v) r hr2 H1 locs1 ls ⟨(r_f_at cI cZ q M v) ▸ h1, (r_f_at cI cZ q M v) ▸ h2, h3⟩ hl)
theorem r_g_leaned (X : gX p s m args meth c cc nL RX5 rt D (tyR cI cZ)) (d : decode cc pc = .ok (.getfield 27, 3)) (kk : gG p l e R s m args below meth c nL (ZR D cI cZ q A H0 M) kc ks QQ (pc + 3) lv (.ref (q 9) :: st) F) : gG p l e R s m args below meth c nL (ZR D cI cZ q A H0 M) kc ks QQ pc lv (.ref (q 34) :: st) F := fun r hr H locs ls hz hl => va_get (D := D) (ci := 5) (C := RX5) (T := TX5) (N := 34) X.1 X.2.1 X.2.2.2.2.1 jX5 X.2.2.2.1 X.2.2.2.2.2.1 hz.1 0 rfl rfl 9 (by decide) (X.2.2.2.2.1 _ fl5_leaned) (fun _ h9 => h9) rfl d (kk r hr H locs ls hz hl)
theorem r_l_leaned (X : gX p s m args meth c cc nL RX5 rt D (tyR cI cZ)) {i : Int32} {K : Int32 → Option ρ} (d : decode cc pc = .ok (.baload, 1)) (kk : ∀ v, gG p l e R s m args below meth c nL (ZR D cI cZ q A H0 M) kc ks QQ (pc + 1) lv (.int v :: st) (K v)) : gG p l e R s m args below meth c nL (ZR D cI cZ q A H0 M) kc ks QQ pc lv (.int i :: .ref (q 9) :: st) (rd M 9 150 i K) := g_ite (fun _ => g_none) (fun hin r hr H locs ls hz hl => va_zald X.1 X.2.1 X.2.2.2.2.2.1 hz.1 6 1 rfl rfl hin d (kk _ r hr H locs ls hz hl))
theorem r_e_leaned (cI cZ : ClassId) (q : Nat → Nat) (M : MR) (i : Nat) (v : Int32) : (wR cI cZ q M).set 6 (q 9, .inl (cZ, 150, .inl (upd (M 9) i v))) = wR cI cZ q (mS M 9 i v) := rfl
theorem r_s_leaned (X : gX p s m args meth c cc nL RX5 rt D (tyR cI cZ)) {i v : Int32} {K : MR → Option ρ} (d : decode cc pc = .ok (.bastore, 1)) (kk : ∀ M1, gG p l e R s m args below meth c nL (ZR D cI cZ q A H0 M1) kc ks QQ (pc + 1) lv st (K M1)) : gG p l e R s m args below meth c nL (ZR D cI cZ q A H0 M) kc ks QQ pc lv (.int v :: .int i :: .ref (q 9) :: st) (wz M 9 150 i v K) := g_ite (fun _ => g_none) (fun hin r hr H locs ls hz hl => va_zast X.1 X.2.1 X.2.2.2.2.2.1 hz.1 hz.2.1 hz.2.2 6 1 rfl rfl hin d (fun H1 locs1 h1 h2 h3 => kk (mS M 9 i.toNatClampNeg (vp_nar .boolean v)) r hr H1 locs1 ls ⟨(r_e_leaned cI cZ q M _ _) ▸ h1, (r_e_leaned cI cZ q M _ _) ▸ h2, h3⟩ hl))
theorem r_g_isObj (X : gX p s m args meth c cc nL RX5 rt D (tyR cI cZ)) (d : decode cc pc = .ok (.getfield 30, 3)) (kk : gG p l e R s m args below meth c nL (ZR D cI cZ q A H0 M) kc ks QQ (pc + 3) lv (.ref (q 10) :: st) F) : gG p l e R s m args below meth c nL (ZR D cI cZ q A H0 M) kc ks QQ pc lv (.ref (q 34) :: st) F := fun r hr H locs ls hz hl => va_get (D := D) (ci := 5) (C := RX5) (T := TX5) (N := 34) X.1 X.2.1 X.2.2.2.2.1 jX5 X.2.2.2.1 X.2.2.2.2.2.1 hz.1 0 rfl rfl 10 (by decide) (X.2.2.2.2.1 _ fl5_isObj) (fun _ h9 => h9) rfl d (kk r hr H locs ls hz hl)
theorem r_l_isObj (X : gX p s m args meth c cc nL RX5 rt D (tyR cI cZ)) {i : Int32} {K : Int32 → Option ρ} (d : decode cc pc = .ok (.baload, 1)) (kk : ∀ v, gG p l e R s m args below meth c nL (ZR D cI cZ q A H0 M) kc ks QQ (pc + 1) lv (.int v :: st) (K v)) : gG p l e R s m args below meth c nL (ZR D cI cZ q A H0 M) kc ks QQ pc lv (.int i :: .ref (q 10) :: st) (rd M 10 2000 i K) := g_ite (fun _ => g_none) (fun hin r hr H locs ls hz hl => va_zald X.1 X.2.1 X.2.2.2.2.2.1 hz.1 7 1 rfl rfl hin d (kk _ r hr H locs ls hz hl))
theorem r_e_isObj (cI cZ : ClassId) (q : Nat → Nat) (M : MR) (i : Nat) (v : Int32) : (wR cI cZ q M).set 7 (q 10, .inl (cZ, 2000, .inl (upd (M 10) i v))) = wR cI cZ q (mS M 10 i v) := rfl
theorem r_s_isObj (X : gX p s m args meth c cc nL RX5 rt D (tyR cI cZ)) {i v : Int32} {K : MR → Option ρ} (d : decode cc pc = .ok (.bastore, 1)) (kk : ∀ M1, gG p l e R s m args below meth c nL (ZR D cI cZ q A H0 M1) kc ks QQ (pc + 1) lv st (K M1)) : gG p l e R s m args below meth c nL (ZR D cI cZ q A H0 M) kc ks QQ pc lv (.int v :: .int i :: .ref (q 10) :: st) (wz M 10 2000 i v K) := g_ite (fun _ => g_none) (fun hin r hr H locs ls hz hl => va_zast X.1 X.2.1 X.2.2.2.2.2.1 hz.1 hz.2.1 hz.2.2 7 1 rfl rfl hin d (fun H1 locs1 h1 h2 h3 => kk (mS M 10 i.toNatClampNeg (vp_nar .boolean v)) r hr H1 locs1 ls ⟨(r_e_isObj cI cZ q M _ _) ▸ h1, (r_e_isObj cI cZ q M _ _) ▸ h2, h3⟩ hl))
theorem r_g_value (X : gX p s m args meth c cc nL RX5 rt D (tyR cI cZ)) (d : decode cc pc = .ok (.getfield 33, 3)) (kk : gG p l e R s m args below meth c nL (ZR D cI cZ q A H0 M) kc ks QQ (pc + 3) lv (.ref (q 11) :: st) F) : gG p l e R s m args below meth c nL (ZR D cI cZ q A H0 M) kc ks QQ pc lv (.ref (q 34) :: st) F := fun r hr H locs ls hz hl => va_get (D := D) (ci := 5) (C := RX5) (T := TX5) (N := 34) X.1 X.2.1 X.2.2.2.2.1 jX5 X.2.2.2.1 X.2.2.2.2.2.1 hz.1 0 rfl rfl 11 (by decide) (X.2.2.2.2.1 _ fl5_value) (fun _ h9 => h9) rfl d (kk r hr H locs ls hz hl)
theorem r_l_value (X : gX p s m args meth c cc nL RX5 rt D (tyR cI cZ)) {i : Int32} {K : Int32 → Option ρ} (d : decode cc pc = .ok (.iaload, 1)) (kk : ∀ v, gG p l e R s m args below meth c nL (ZR D cI cZ q A H0 M) kc ks QQ (pc + 1) lv (.int v :: st) (K v)) : gG p l e R s m args below meth c nL (ZR D cI cZ q A H0 M) kc ks QQ pc lv (.int i :: .ref (q 11) :: st) (rd M 11 2000 i K) := g_ite (fun _ => g_none) (fun hin r hr H locs ls hz hl => va_iald X.1 X.2.1 X.2.2.2.2.2.1 hz.1 8 0 rfl rfl hin d (kk _ r hr H locs ls hz hl))
theorem r_e_value (cI cZ : ClassId) (q : Nat → Nat) (M : MR) (i : Nat) (v : Int32) : (wR cI cZ q M).set 8 (q 11, .inl (cI, 2000, .inl (upd (M 11) i v))) = wR cI cZ q (mS M 11 i v) := rfl
theorem r_s_value (X : gX p s m args meth c cc nL RX5 rt D (tyR cI cZ)) {i v : Int32} {K : MR → Option ρ} (d : decode cc pc = .ok (.iastore, 1)) (kk : ∀ M1, gG p l e R s m args below meth c nL (ZR D cI cZ q A H0 M1) kc ks QQ (pc + 1) lv st (K M1)) : gG p l e R s m args below meth c nL (ZR D cI cZ q A H0 M) kc ks QQ pc lv (.int v :: .int i :: .ref (q 11) :: st) (wr M 11 2000 i v K) := g_ite (fun _ => g_none) (fun hin r hr H locs ls hz hl => va_iast X.1 X.2.1 X.2.2.2.2.2.1 hz.1 hz.2.1 hz.2.2 8 0 rfl rfl hin d (fun H1 locs1 h1 h2 h3 => kk (mS M 11 i.toNatClampNeg v) r hr H1 locs1 ls ⟨(r_e_value cI cZ q M _ _) ▸ h1, (r_e_value cI cZ q M _ _) ▸ h2, h3⟩ hl))
theorem r_g_top (X : gX p s m args meth c cc nL RX5 rt D (tyR cI cZ)) {K : Int32 → Option ρ} (d : decode cc pc = .ok (.getfield 147, 3)) (kk : ∀ v, gG p l e R s m args below meth c nL (ZR D cI cZ q A H0 M) kc ks QQ (pc + 3) lv (.int v :: st) (K v)) : gG p l e R s m args below meth c nL (ZR D cI cZ q A H0 M) kc ks QQ pc lv (.ref (q 34) :: st) (gf M 12 K) := fun r hr H locs ls hz hl => va_get (D := D) (ci := 5) (C := RX5) (T := TX5) (N := 34) X.1 X.2.1 X.2.2.2.2.1 jX5 X.2.2.2.1 X.2.2.2.2.2.1 hz.1 0 rfl rfl 12 (by decide) (X.2.2.2.2.1 _ fl5_top) (fun _ h9 => h9) rfl d (kk _ r hr H locs ls hz hl)
theorem r_f_top (cI cZ : ClassId) (q : Nat → Nat) (M : MR) (v : Int32) : (wR cI cZ q M).set 0 (q 34, .inr (5, (fsR q M).set 12 (.int v))) = wR cI cZ q (mS M 12 0 v) := rfl
theorem r_p_top (X : gX p s m args meth c cc nL RX5 rt D (tyR cI cZ)) {v : Int32} {K : MR → Option ρ} (d : decode cc pc = .ok (.putfield 147, 3)) (kk : ∀ M1, gG p l e R s m args below meth c nL (ZR D cI cZ q A H0 M1) kc ks QQ (pc + 3) lv st (K M1)) : gG p l e R s m args below meth c nL (ZR D cI cZ q A H0 M) kc ks QQ pc lv (.int v :: .ref (q 34) :: st) (pf M 12 v K) := fun r hr2 H locs ls hz hl => va_put (D := D) (ci := 5) (v := .int v) (C := RX5) (T := TX5) (N := 34) X.1 X.2.1 X.2.2.2.2.1 jX5 tyX5 tyX5_ok nmX5 X.2.2.2.1 X.2.2.2.2.2.1 hz.1 hz.2.1 hz.2.2 0 rfl rfl 12 (by decide) (X.2.2.2.2.1 _ fl5_top) (fun _ h9 => h9) rfl (tyX5_ok 12 (by decide)) rfl rfl (by show 12 < 34; decide) d (fun H1 locs1 h1 h2 h3 => kk (mS M 12 0 v) r hr2 H1 locs1 ls ⟨(r_f_top cI cZ q M v) ▸ h1, (r_f_top cI cZ q M v) ▸ h2, h3⟩ hl)
theorem r_g_source (X : gX p s m args meth c cc nL RX5 rt D (tyR cI cZ)) (d : decode cc pc = .ok (.getfield 36, 3)) (kk : gG p l e R s m args below meth c nL (ZR D cI cZ q A H0 M) kc ks QQ (pc + 3) lv (.ref (q 13) :: st) F) : gG p l e R s m args below meth c nL (ZR D cI cZ q A H0 M) kc ks QQ pc lv (.ref (q 34) :: st) F := fun r hr H locs ls hz hl => va_get (D := D) (ci := 5) (C := RX5) (T := TX5) (N := 34) X.1 X.2.1 X.2.2.2.2.1 jX5 X.2.2.2.1 X.2.2.2.2.2.1 hz.1 0 rfl rfl 13 (by decide) (X.2.2.2.2.1 _ fl5_source) (fun _ h9 => h9) rfl d (kk r hr H locs ls hz hl)
theorem r_l_source (X : gX p s m args meth c cc nL RX5 rt D (tyR cI cZ)) {i : Int32} {K : Int32 → Option ρ} (d : decode cc pc = .ok (.iaload, 1)) (kk : ∀ v, gG p l e R s m args below meth c nL (ZR D cI cZ q A H0 M) kc ks QQ (pc + 1) lv (.int v :: st) (K v)) : gG p l e R s m args below meth c nL (ZR D cI cZ q A H0 M) kc ks QQ pc lv (.int i :: .ref (q 13) :: st) (rd M 13 22 i K) := g_ite (fun _ => g_none) (fun hin r hr H locs ls hz hl => va_iald X.1 X.2.1 X.2.2.2.2.2.1 hz.1 9 0 rfl rfl hin d (kk _ r hr H locs ls hz hl))
theorem r_e_source (cI cZ : ClassId) (q : Nat → Nat) (M : MR) (i : Nat) (v : Int32) : (wR cI cZ q M).set 9 (q 13, .inl (cI, 22, .inl (upd (M 13) i v))) = wR cI cZ q (mS M 13 i v) := rfl
theorem r_s_source (X : gX p s m args meth c cc nL RX5 rt D (tyR cI cZ)) {i v : Int32} {K : MR → Option ρ} (d : decode cc pc = .ok (.iastore, 1)) (kk : ∀ M1, gG p l e R s m args below meth c nL (ZR D cI cZ q A H0 M1) kc ks QQ (pc + 1) lv st (K M1)) : gG p l e R s m args below meth c nL (ZR D cI cZ q A H0 M) kc ks QQ pc lv (.int v :: .int i :: .ref (q 13) :: st) (wr M 13 22 i v K) := g_ite (fun _ => g_none) (fun hin r hr H locs ls hz hl => va_iast X.1 X.2.1 X.2.2.2.2.2.1 hz.1 hz.2.1 hz.2.2 9 0 rfl rfl hin d (fun H1 locs1 h1 h2 h3 => kk (mS M 13 i.toNatClampNeg v) r hr H1 locs1 ls ⟨(r_e_source cI cZ q M _ _) ▸ h1, (r_e_source cI cZ q M _ _) ▸ h2, h3⟩ hl))
theorem r_g_place (X : gX p s m args meth c cc nL RX5 rt D (tyR cI cZ)) (d : decode cc pc = .ok (.getfield 39, 3)) (kk : gG p l e R s m args below meth c nL (ZR D cI cZ q A H0 M) kc ks QQ (pc + 3) lv (.ref (q 14) :: st) F) : gG p l e R s m args below meth c nL (ZR D cI cZ q A H0 M) kc ks QQ pc lv (.ref (q 34) :: st) F := fun r hr H locs ls hz hl => va_get (D := D) (ci := 5) (C := RX5) (T := TX5) (N := 34) X.1 X.2.1 X.2.2.2.2.1 jX5 X.2.2.2.1 X.2.2.2.2.2.1 hz.1 0 rfl rfl 14 (by decide) (X.2.2.2.2.1 _ fl5_place) (fun _ h9 => h9) rfl d (kk r hr H locs ls hz hl)
theorem r_l_place (X : gX p s m args meth c cc nL RX5 rt D (tyR cI cZ)) {i : Int32} {K : Int32 → Option ρ} (d : decode cc pc = .ok (.iaload, 1)) (kk : ∀ v, gG p l e R s m args below meth c nL (ZR D cI cZ q A H0 M) kc ks QQ (pc + 1) lv (.int v :: st) (K v)) : gG p l e R s m args below meth c nL (ZR D cI cZ q A H0 M) kc ks QQ pc lv (.int i :: .ref (q 14) :: st) (rd M 14 22 i K) := g_ite (fun _ => g_none) (fun hin r hr H locs ls hz hl => va_iald X.1 X.2.1 X.2.2.2.2.2.1 hz.1 10 0 rfl rfl hin d (kk _ r hr H locs ls hz hl))
theorem r_e_place (cI cZ : ClassId) (q : Nat → Nat) (M : MR) (i : Nat) (v : Int32) : (wR cI cZ q M).set 10 (q 14, .inl (cI, 22, .inl (upd (M 14) i v))) = wR cI cZ q (mS M 14 i v) := rfl
theorem r_s_place (X : gX p s m args meth c cc nL RX5 rt D (tyR cI cZ)) {i v : Int32} {K : MR → Option ρ} (d : decode cc pc = .ok (.iastore, 1)) (kk : ∀ M1, gG p l e R s m args below meth c nL (ZR D cI cZ q A H0 M1) kc ks QQ (pc + 1) lv st (K M1)) : gG p l e R s m args below meth c nL (ZR D cI cZ q A H0 M) kc ks QQ pc lv (.int v :: .int i :: .ref (q 14) :: st) (wr M 14 22 i v K) := g_ite (fun _ => g_none) (fun hin r hr H locs ls hz hl => va_iast X.1 X.2.1 X.2.2.2.2.2.1 hz.1 hz.2.1 hz.2.2 10 0 rfl rfl hin d (fun H1 locs1 h1 h2 h3 => kk (mS M 14 i.toNatClampNeg v) r hr H1 locs1 ls ⟨(r_e_place cI cZ q M _ _) ▸ h1, (r_e_place cI cZ q M _ _) ▸ h2, h3⟩ hl))
theorem r_g_end (X : gX p s m args meth c cc nL RX5 rt D (tyR cI cZ)) (d : decode cc pc = .ok (.getfield 42, 3)) (kk : gG p l e R s m args below meth c nL (ZR D cI cZ q A H0 M) kc ks QQ (pc + 3) lv (.ref (q 15) :: st) F) : gG p l e R s m args below meth c nL (ZR D cI cZ q A H0 M) kc ks QQ pc lv (.ref (q 34) :: st) F := fun r hr H locs ls hz hl => va_get (D := D) (ci := 5) (C := RX5) (T := TX5) (N := 34) X.1 X.2.1 X.2.2.2.2.1 jX5 X.2.2.2.1 X.2.2.2.2.2.1 hz.1 0 rfl rfl 15 (by decide) (X.2.2.2.2.1 _ fl5_end) (fun _ h9 => h9) rfl d (kk r hr H locs ls hz hl)
theorem r_l_end (X : gX p s m args meth c cc nL RX5 rt D (tyR cI cZ)) {i : Int32} {K : Int32 → Option ρ} (d : decode cc pc = .ok (.iaload, 1)) (kk : ∀ v, gG p l e R s m args below meth c nL (ZR D cI cZ q A H0 M) kc ks QQ (pc + 1) lv (.int v :: st) (K v)) : gG p l e R s m args below meth c nL (ZR D cI cZ q A H0 M) kc ks QQ pc lv (.int i :: .ref (q 15) :: st) (rd M 15 22 i K) := g_ite (fun _ => g_none) (fun hin r hr H locs ls hz hl => va_iald X.1 X.2.1 X.2.2.2.2.2.1 hz.1 11 0 rfl rfl hin d (kk _ r hr H locs ls hz hl))
theorem r_e_end (cI cZ : ClassId) (q : Nat → Nat) (M : MR) (i : Nat) (v : Int32) : (wR cI cZ q M).set 11 (q 15, .inl (cI, 22, .inl (upd (M 15) i v))) = wR cI cZ q (mS M 15 i v) := rfl
theorem r_s_end (X : gX p s m args meth c cc nL RX5 rt D (tyR cI cZ)) {i v : Int32} {K : MR → Option ρ} (d : decode cc pc = .ok (.iastore, 1)) (kk : ∀ M1, gG p l e R s m args below meth c nL (ZR D cI cZ q A H0 M1) kc ks QQ (pc + 1) lv st (K M1)) : gG p l e R s m args below meth c nL (ZR D cI cZ q A H0 M) kc ks QQ pc lv (.int v :: .int i :: .ref (q 15) :: st) (wr M 15 22 i v K) := g_ite (fun _ => g_none) (fun hin r hr H locs ls hz hl => va_iast X.1 X.2.1 X.2.2.2.2.2.1 hz.1 hz.2.1 hz.2.2 11 0 rfl rfl hin d (fun H1 locs1 h1 h2 h3 => kk (mS M 15 i.toNatClampNeg v) r hr H1 locs1 ls ⟨(r_e_end cI cZ q M _ _) ▸ h1, (r_e_end cI cZ q M _ _) ▸ h2, h3⟩ hl))
theorem r_g_self (X : gX p s m args meth c cc nL RX5 rt D (tyR cI cZ)) (d : decode cc pc = .ok (.getfield 45, 3)) (kk : gG p l e R s m args below meth c nL (ZR D cI cZ q A H0 M) kc ks QQ (pc + 3) lv (.ref (q 16) :: st) F) : gG p l e R s m args below meth c nL (ZR D cI cZ q A H0 M) kc ks QQ pc lv (.ref (q 34) :: st) F := fun r hr H locs ls hz hl => va_get (D := D) (ci := 5) (C := RX5) (T := TX5) (N := 34) X.1 X.2.1 X.2.2.2.2.1 jX5 X.2.2.2.1 X.2.2.2.2.2.1 hz.1 0 rfl rfl 16 (by decide) (X.2.2.2.2.1 _ fl5_self) (fun _ h9 => h9) rfl d (kk r hr H locs ls hz hl)
theorem r_l_self (X : gX p s m args meth c cc nL RX5 rt D (tyR cI cZ)) {i : Int32} {K : Int32 → Option ρ} (d : decode cc pc = .ok (.iaload, 1)) (kk : ∀ v, gG p l e R s m args below meth c nL (ZR D cI cZ q A H0 M) kc ks QQ (pc + 1) lv (.int v :: st) (K v)) : gG p l e R s m args below meth c nL (ZR D cI cZ q A H0 M) kc ks QQ pc lv (.int i :: .ref (q 16) :: st) (rd M 16 22 i K) := g_ite (fun _ => g_none) (fun hin r hr H locs ls hz hl => va_iald X.1 X.2.1 X.2.2.2.2.2.1 hz.1 12 0 rfl rfl hin d (kk _ r hr H locs ls hz hl))
theorem r_e_self (cI cZ : ClassId) (q : Nat → Nat) (M : MR) (i : Nat) (v : Int32) : (wR cI cZ q M).set 12 (q 16, .inl (cI, 22, .inl (upd (M 16) i v))) = wR cI cZ q (mS M 16 i v) := rfl
theorem r_s_self (X : gX p s m args meth c cc nL RX5 rt D (tyR cI cZ)) {i v : Int32} {K : MR → Option ρ} (d : decode cc pc = .ok (.iastore, 1)) (kk : ∀ M1, gG p l e R s m args below meth c nL (ZR D cI cZ q A H0 M1) kc ks QQ (pc + 1) lv st (K M1)) : gG p l e R s m args below meth c nL (ZR D cI cZ q A H0 M) kc ks QQ pc lv (.int v :: .int i :: .ref (q 16) :: st) (wr M 16 22 i v K) := g_ite (fun _ => g_none) (fun hin r hr H locs ls hz hl => va_iast X.1 X.2.1 X.2.2.2.2.2.1 hz.1 hz.2.1 hz.2.2 12 0 rfl rfl hin d (fun H1 locs1 h1 h2 h3 => kk (mS M 16 i.toNatClampNeg v) r hr H1 locs1 ls ⟨(r_e_self cI cZ q M _ _) ▸ h1, (r_e_self cI cZ q M _ _) ▸ h2, h3⟩ hl))
theorem r_g_isArgObj (X : gX p s m args meth c cc nL RX5 rt D (tyR cI cZ)) (d : decode cc pc = .ok (.getfield 48, 3)) (kk : gG p l e R s m args below meth c nL (ZR D cI cZ q A H0 M) kc ks QQ (pc + 3) lv (.ref (q 17) :: st) F) : gG p l e R s m args below meth c nL (ZR D cI cZ q A H0 M) kc ks QQ pc lv (.ref (q 34) :: st) F := fun r hr H locs ls hz hl => va_get (D := D) (ci := 5) (C := RX5) (T := TX5) (N := 34) X.1 X.2.1 X.2.2.2.2.1 jX5 X.2.2.2.1 X.2.2.2.2.2.1 hz.1 0 rfl rfl 17 (by decide) (X.2.2.2.2.1 _ fl5_isArgObj) (fun _ h9 => h9) rfl d (kk r hr H locs ls hz hl)
theorem r_l_isArgObj (X : gX p s m args meth c cc nL RX5 rt D (tyR cI cZ)) {i : Int32} {K : Int32 → Option ρ} (d : decode cc pc = .ok (.baload, 1)) (kk : ∀ v, gG p l e R s m args below meth c nL (ZR D cI cZ q A H0 M) kc ks QQ (pc + 1) lv (.int v :: st) (K v)) : gG p l e R s m args below meth c nL (ZR D cI cZ q A H0 M) kc ks QQ pc lv (.int i :: .ref (q 17) :: st) (rd M 17 22 i K) := g_ite (fun _ => g_none) (fun hin r hr H locs ls hz hl => va_zald X.1 X.2.1 X.2.2.2.2.2.1 hz.1 13 1 rfl rfl hin d (kk _ r hr H locs ls hz hl))
theorem r_e_isArgObj (cI cZ : ClassId) (q : Nat → Nat) (M : MR) (i : Nat) (v : Int32) : (wR cI cZ q M).set 13 (q 17, .inl (cZ, 22, .inl (upd (M 17) i v))) = wR cI cZ q (mS M 17 i v) := rfl
theorem r_s_isArgObj (X : gX p s m args meth c cc nL RX5 rt D (tyR cI cZ)) {i v : Int32} {K : MR → Option ρ} (d : decode cc pc = .ok (.bastore, 1)) (kk : ∀ M1, gG p l e R s m args below meth c nL (ZR D cI cZ q A H0 M1) kc ks QQ (pc + 1) lv st (K M1)) : gG p l e R s m args below meth c nL (ZR D cI cZ q A H0 M) kc ks QQ pc lv (.int v :: .int i :: .ref (q 17) :: st) (wz M 17 22 i v K) := g_ite (fun _ => g_none) (fun hin r hr H locs ls hz hl => va_zast X.1 X.2.1 X.2.2.2.2.2.1 hz.1 hz.2.1 hz.2.2 13 1 rfl rfl hin d (fun H1 locs1 h1 h2 h3 => kk (mS M 17 i.toNatClampNeg (vp_nar .boolean v)) r hr H1 locs1 ls ⟨(r_e_isArgObj cI cZ q M _ _) ▸ h1, (r_e_isArgObj cI cZ q M _ _) ▸ h2, h3⟩ hl))
theorem r_g_argument (X : gX p s m args meth c cc nL RX5 rt D (tyR cI cZ)) (d : decode cc pc = .ok (.getfield 51, 3)) (kk : gG p l e R s m args below meth c nL (ZR D cI cZ q A H0 M) kc ks QQ (pc + 3) lv (.ref (q 18) :: st) F) : gG p l e R s m args below meth c nL (ZR D cI cZ q A H0 M) kc ks QQ pc lv (.ref (q 34) :: st) F := fun r hr H locs ls hz hl => va_get (D := D) (ci := 5) (C := RX5) (T := TX5) (N := 34) X.1 X.2.1 X.2.2.2.2.1 jX5 X.2.2.2.1 X.2.2.2.2.2.1 hz.1 0 rfl rfl 18 (by decide) (X.2.2.2.2.1 _ fl5_argument) (fun _ h9 => h9) rfl d (kk r hr H locs ls hz hl)
theorem r_l_argument (X : gX p s m args meth c cc nL RX5 rt D (tyR cI cZ)) {i : Int32} {K : Int32 → Option ρ} (d : decode cc pc = .ok (.iaload, 1)) (kk : ∀ v, gG p l e R s m args below meth c nL (ZR D cI cZ q A H0 M) kc ks QQ (pc + 1) lv (.int v :: st) (K v)) : gG p l e R s m args below meth c nL (ZR D cI cZ q A H0 M) kc ks QQ pc lv (.int i :: .ref (q 18) :: st) (rd M 18 22 i K) := g_ite (fun _ => g_none) (fun hin r hr H locs ls hz hl => va_iald X.1 X.2.1 X.2.2.2.2.2.1 hz.1 14 0 rfl rfl hin d (kk _ r hr H locs ls hz hl))
theorem r_e_argument (cI cZ : ClassId) (q : Nat → Nat) (M : MR) (i : Nat) (v : Int32) : (wR cI cZ q M).set 14 (q 18, .inl (cI, 22, .inl (upd (M 18) i v))) = wR cI cZ q (mS M 18 i v) := rfl
theorem r_s_argument (X : gX p s m args meth c cc nL RX5 rt D (tyR cI cZ)) {i v : Int32} {K : MR → Option ρ} (d : decode cc pc = .ok (.iastore, 1)) (kk : ∀ M1, gG p l e R s m args below meth c nL (ZR D cI cZ q A H0 M1) kc ks QQ (pc + 1) lv st (K M1)) : gG p l e R s m args below meth c nL (ZR D cI cZ q A H0 M) kc ks QQ pc lv (.int v :: .int i :: .ref (q 18) :: st) (wr M 18 22 i v K) := g_ite (fun _ => g_none) (fun hin r hr H locs ls hz hl => va_iast X.1 X.2.1 X.2.2.2.2.2.1 hz.1 hz.2.1 hz.2.2 14 0 rfl rfl hin d (fun H1 locs1 h1 h2 h3 => kk (mS M 18 i.toNatClampNeg v) r hr H1 locs1 ls ⟨(r_e_argument cI cZ q M _ _) ▸ h1, (r_e_argument cI cZ q M _ _) ▸ h2, h3⟩ hl))
theorem r_g_starts (X : gX p s m args meth c cc nL RX5 rt D (tyR cI cZ)) (d : decode cc pc = .ok (.getfield 54, 3)) (kk : gG p l e R s m args below meth c nL (ZR D cI cZ q A H0 M) kc ks QQ (pc + 3) lv (.ref (q 19) :: st) F) : gG p l e R s m args below meth c nL (ZR D cI cZ q A H0 M) kc ks QQ pc lv (.ref (q 34) :: st) F := fun r hr H locs ls hz hl => va_get (D := D) (ci := 5) (C := RX5) (T := TX5) (N := 34) X.1 X.2.1 X.2.2.2.2.1 jX5 X.2.2.2.1 X.2.2.2.2.2.1 hz.1 0 rfl rfl 19 (by decide) (X.2.2.2.2.1 _ fl5_starts) (fun _ h9 => h9) rfl d (kk r hr H locs ls hz hl)
theorem r_l_starts (X : gX p s m args meth c cc nL RX5 rt D (tyR cI cZ)) {i : Int32} {K : Int32 → Option ρ} (d : decode cc pc = .ok (.iaload, 1)) (kk : ∀ v, gG p l e R s m args below meth c nL (ZR D cI cZ q A H0 M) kc ks QQ (pc + 1) lv (.int v :: st) (K v)) : gG p l e R s m args below meth c nL (ZR D cI cZ q A H0 M) kc ks QQ pc lv (.int i :: .ref (q 19) :: st) (rd M 19 22 i K) := g_ite (fun _ => g_none) (fun hin r hr H locs ls hz hl => va_iald X.1 X.2.1 X.2.2.2.2.2.1 hz.1 15 0 rfl rfl hin d (kk _ r hr H locs ls hz hl))
theorem r_e_starts (cI cZ : ClassId) (q : Nat → Nat) (M : MR) (i : Nat) (v : Int32) : (wR cI cZ q M).set 15 (q 19, .inl (cI, 22, .inl (upd (M 19) i v))) = wR cI cZ q (mS M 19 i v) := rfl
theorem r_s_starts (X : gX p s m args meth c cc nL RX5 rt D (tyR cI cZ)) {i v : Int32} {K : MR → Option ρ} (d : decode cc pc = .ok (.iastore, 1)) (kk : ∀ M1, gG p l e R s m args below meth c nL (ZR D cI cZ q A H0 M1) kc ks QQ (pc + 1) lv st (K M1)) : gG p l e R s m args below meth c nL (ZR D cI cZ q A H0 M) kc ks QQ pc lv (.int v :: .int i :: .ref (q 19) :: st) (wr M 19 22 i v K) := g_ite (fun _ => g_none) (fun hin r hr H locs ls hz hl => va_iast X.1 X.2.1 X.2.2.2.2.2.1 hz.1 hz.2.1 hz.2.2 15 0 rfl rfl hin d (fun H1 locs1 h1 h2 h3 => kk (mS M 19 i.toNatClampNeg v) r hr H1 locs1 ls ⟨(r_e_starts cI cZ q M _ _) ▸ h1, (r_e_starts cI cZ q M _ _) ▸ h2, h3⟩ hl))
theorem r_g_frames (X : gX p s m args meth c cc nL RX5 rt D (tyR cI cZ)) {K : Int32 → Option ρ} (d : decode cc pc = .ok (.getfield 150, 3)) (kk : ∀ v, gG p l e R s m args below meth c nL (ZR D cI cZ q A H0 M) kc ks QQ (pc + 3) lv (.int v :: st) (K v)) : gG p l e R s m args below meth c nL (ZR D cI cZ q A H0 M) kc ks QQ pc lv (.ref (q 34) :: st) (gf M 20 K) := fun r hr H locs ls hz hl => va_get (D := D) (ci := 5) (C := RX5) (T := TX5) (N := 34) X.1 X.2.1 X.2.2.2.2.1 jX5 X.2.2.2.1 X.2.2.2.2.2.1 hz.1 0 rfl rfl 20 (by decide) (X.2.2.2.2.1 _ fl5_frames) (fun _ h9 => h9) rfl d (kk _ r hr H locs ls hz hl)
theorem r_f_frames (cI cZ : ClassId) (q : Nat → Nat) (M : MR) (v : Int32) : (wR cI cZ q M).set 0 (q 34, .inr (5, (fsR q M).set 20 (.int v))) = wR cI cZ q (mS M 20 0 v) := rfl
theorem r_p_frames (X : gX p s m args meth c cc nL RX5 rt D (tyR cI cZ)) {v : Int32} {K : MR → Option ρ} (d : decode cc pc = .ok (.putfield 150, 3)) (kk : ∀ M1, gG p l e R s m args below meth c nL (ZR D cI cZ q A H0 M1) kc ks QQ (pc + 3) lv st (K M1)) : gG p l e R s m args below meth c nL (ZR D cI cZ q A H0 M) kc ks QQ pc lv (.int v :: .ref (q 34) :: st) (pf M 20 v K) := fun r hr2 H locs ls hz hl => va_put (D := D) (ci := 5) (v := .int v) (C := RX5) (T := TX5) (N := 34) X.1 X.2.1 X.2.2.2.2.1 jX5 tyX5 tyX5_ok nmX5 X.2.2.2.1 X.2.2.2.2.2.1 hz.1 hz.2.1 hz.2.2 0 rfl rfl 20 (by decide) (X.2.2.2.2.1 _ fl5_frames) (fun _ h9 => h9) rfl (tyX5_ok 20 (by decide)) rfl rfl (by show 20 < 34; decide) d (fun H1 locs1 h1 h2 h3 => kk (mS M 20 0 v) r hr2 H1 locs1 ls ⟨(r_f_frames cI cZ q M v) ▸ h1, (r_f_frames cI cZ q M v) ▸ h2, h3⟩ hl)
theorem r_g_inner (X : gX p s m args meth c cc nL RX5 rt D (tyR cI cZ)) {K : Int32 → Option ρ} (d : decode cc pc = .ok (.getfield 153, 3)) (kk : ∀ v, gG p l e R s m args below meth c nL (ZR D cI cZ q A H0 M) kc ks QQ (pc + 3) lv (.int v :: st) (K v)) : gG p l e R s m args below meth c nL (ZR D cI cZ q A H0 M) kc ks QQ pc lv (.ref (q 34) :: st) (gf M 21 K) := fun r hr H locs ls hz hl => va_get (D := D) (ci := 5) (C := RX5) (T := TX5) (N := 34) X.1 X.2.1 X.2.2.2.2.1 jX5 X.2.2.2.1 X.2.2.2.2.2.1 hz.1 0 rfl rfl 21 (by decide) (X.2.2.2.2.1 _ fl5_inner) (fun _ h9 => h9) rfl d (kk _ r hr H locs ls hz hl)
theorem r_f_inner (cI cZ : ClassId) (q : Nat → Nat) (M : MR) (v : Int32) : (wR cI cZ q M).set 0 (q 34, .inr (5, (fsR q M).set 21 (.int v))) = wR cI cZ q (mS M 21 0 v) := rfl
theorem r_p_inner (X : gX p s m args meth c cc nL RX5 rt D (tyR cI cZ)) {v : Int32} {K : MR → Option ρ} (d : decode cc pc = .ok (.putfield 153, 3)) (kk : ∀ M1, gG p l e R s m args below meth c nL (ZR D cI cZ q A H0 M1) kc ks QQ (pc + 3) lv st (K M1)) : gG p l e R s m args below meth c nL (ZR D cI cZ q A H0 M) kc ks QQ pc lv (.int v :: .ref (q 34) :: st) (pf M 21 v K) := fun r hr2 H locs ls hz hl => va_put (D := D) (ci := 5) (v := .int v) (C := RX5) (T := TX5) (N := 34) X.1 X.2.1 X.2.2.2.2.1 jX5 tyX5 tyX5_ok nmX5 X.2.2.2.1 X.2.2.2.2.2.1 hz.1 hz.2.1 hz.2.2 0 rfl rfl 21 (by decide) (X.2.2.2.2.1 _ fl5_inner) (fun _ h9 => h9) rfl (tyX5_ok 21 (by decide)) rfl rfl (by show 21 < 34; decide) d (fun H1 locs1 h1 h2 h3 => kk (mS M 21 0 v) r hr2 H1 locs1 ls ⟨(r_f_inner cI cZ q M v) ▸ h1, (r_f_inner cI cZ q M v) ▸ h2, h3⟩ hl)
theorem r_g_again (X : gX p s m args meth c cc nL RX5 rt D (tyR cI cZ)) {K : Int32 → Option ρ} (d : decode cc pc = .ok (.getfield 162, 3)) (kk : ∀ v, gG p l e R s m args below meth c nL (ZR D cI cZ q A H0 M) kc ks QQ (pc + 3) lv (.int v :: st) (K v)) : gG p l e R s m args below meth c nL (ZR D cI cZ q A H0 M) kc ks QQ pc lv (.ref (q 34) :: st) (gf M 22 K) := fun r hr H locs ls hz hl => va_get (D := D) (ci := 5) (C := RX5) (T := TX5) (N := 34) X.1 X.2.1 X.2.2.2.2.1 jX5 X.2.2.2.1 X.2.2.2.2.2.1 hz.1 0 rfl rfl 22 (by decide) (X.2.2.2.2.1 _ fl5_again) (fun _ h9 => h9) rfl d (kk _ r hr H locs ls hz hl)
theorem r_f_again (cI cZ : ClassId) (q : Nat → Nat) (M : MR) (v : Int32) : (wR cI cZ q M).set 0 (q 34, .inr (5, (fsR q M).set 22 (.int v))) = wR cI cZ q (mS M 22 0 v) := rfl
theorem r_p_again (X : gX p s m args meth c cc nL RX5 rt D (tyR cI cZ)) {v : Int32} {K : MR → Option ρ} (d : decode cc pc = .ok (.putfield 162, 3)) (kk : ∀ M1, gG p l e R s m args below meth c nL (ZR D cI cZ q A H0 M1) kc ks QQ (pc + 3) lv st (K M1)) : gG p l e R s m args below meth c nL (ZR D cI cZ q A H0 M) kc ks QQ pc lv (.int v :: .ref (q 34) :: st) (zt v (pf M 22 v K)) := fun r hr H locs ls hz hl => by
  obtain ⟨hb, hr2⟩ := zt_bo hr
  exact va_put (D := D) (ci := 5) (v := .int v) (C := RX5) (T := TX5) (N := 34) X.1 X.2.1 X.2.2.2.2.1 jX5 tyX5 tyX5_ok nmX5 X.2.2.2.1 X.2.2.2.2.2.1 hz.1 hz.2.1 hz.2.2 0 rfl rfl 22 (by decide) (X.2.2.2.2.1 _ fl5_again) (fun _ h9 => h9) rfl (tyX5_ok 22 (by decide)) (bo_nar hb).1 (bo_nar hb).2 (by show 22 < 34; decide) d (fun H1 locs1 h1 h2 h3 => kk (mS M 22 0 v) r hr2 H1 locs1 ls ⟨(r_f_again cI cZ q M v) ▸ h1, (r_f_again cI cZ q M v) ▸ h2, h3⟩ hl)
theorem r_g_steps (X : gX p s m args meth c cc nL RX5 rt D (tyR cI cZ)) {K : Int32 → Option ρ} (d : decode cc pc = .ok (.getfield 159, 3)) (kk : ∀ v, gG p l e R s m args below meth c nL (ZR D cI cZ q A H0 M) kc ks QQ (pc + 3) lv (.int v :: st) (K v)) : gG p l e R s m args below meth c nL (ZR D cI cZ q A H0 M) kc ks QQ pc lv (.ref (q 34) :: st) (gf M 23 K) := fun r hr H locs ls hz hl => va_get (D := D) (ci := 5) (C := RX5) (T := TX5) (N := 34) X.1 X.2.1 X.2.2.2.2.1 jX5 X.2.2.2.1 X.2.2.2.2.2.1 hz.1 0 rfl rfl 23 (by decide) (X.2.2.2.2.1 _ fl5_steps) (fun _ h9 => h9) rfl d (kk _ r hr H locs ls hz hl)
theorem r_f_steps (cI cZ : ClassId) (q : Nat → Nat) (M : MR) (v : Int32) : (wR cI cZ q M).set 0 (q 34, .inr (5, (fsR q M).set 23 (.int v))) = wR cI cZ q (mS M 23 0 v) := rfl
theorem r_p_steps (X : gX p s m args meth c cc nL RX5 rt D (tyR cI cZ)) {v : Int32} {K : MR → Option ρ} (d : decode cc pc = .ok (.putfield 159, 3)) (kk : ∀ M1, gG p l e R s m args below meth c nL (ZR D cI cZ q A H0 M1) kc ks QQ (pc + 3) lv st (K M1)) : gG p l e R s m args below meth c nL (ZR D cI cZ q A H0 M) kc ks QQ pc lv (.int v :: .ref (q 34) :: st) (pf M 23 v K) := fun r hr2 H locs ls hz hl => va_put (D := D) (ci := 5) (v := .int v) (C := RX5) (T := TX5) (N := 34) X.1 X.2.1 X.2.2.2.2.1 jX5 tyX5 tyX5_ok nmX5 X.2.2.2.1 X.2.2.2.2.2.1 hz.1 hz.2.1 hz.2.2 0 rfl rfl 23 (by decide) (X.2.2.2.2.1 _ fl5_steps) (fun _ h9 => h9) rfl (tyX5_ok 23 (by decide)) rfl rfl (by show 23 < 34; decide) d (fun H1 locs1 h1 h2 h3 => kk (mS M 23 0 v) r hr2 H1 locs1 ls ⟨(r_f_steps cI cZ q M v) ▸ h1, (r_f_steps cI cZ q M v) ▸ h2, h3⟩ hl)
theorem r_g_failure (X : gX p s m args meth c cc nL RX5 rt D (tyR cI cZ)) {K : Int32 → Option ρ} (d : decode cc pc = .ok (.getfield 156, 3)) (kk : ∀ v, gG p l e R s m args below meth c nL (ZR D cI cZ q A H0 M) kc ks QQ (pc + 3) lv (.int v :: st) (K v)) : gG p l e R s m args below meth c nL (ZR D cI cZ q A H0 M) kc ks QQ pc lv (.ref (q 34) :: st) (gf M 24 K) := fun r hr H locs ls hz hl => va_get (D := D) (ci := 5) (C := RX5) (T := TX5) (N := 34) X.1 X.2.1 X.2.2.2.2.1 jX5 X.2.2.2.1 X.2.2.2.2.2.1 hz.1 0 rfl rfl 24 (by decide) (X.2.2.2.2.1 _ fl5_failure) (fun _ h9 => h9) rfl d (kk _ r hr H locs ls hz hl)
theorem r_f_failure (cI cZ : ClassId) (q : Nat → Nat) (M : MR) (v : Int32) : (wR cI cZ q M).set 0 (q 34, .inr (5, (fsR q M).set 24 (.int v))) = wR cI cZ q (mS M 24 0 v) := rfl
theorem r_p_failure (X : gX p s m args meth c cc nL RX5 rt D (tyR cI cZ)) {v : Int32} {K : MR → Option ρ} (d : decode cc pc = .ok (.putfield 156, 3)) (kk : ∀ M1, gG p l e R s m args below meth c nL (ZR D cI cZ q A H0 M1) kc ks QQ (pc + 3) lv st (K M1)) : gG p l e R s m args below meth c nL (ZR D cI cZ q A H0 M) kc ks QQ pc lv (.int v :: .ref (q 34) :: st) (pf M 24 v K) := fun r hr2 H locs ls hz hl => va_put (D := D) (ci := 5) (v := .int v) (C := RX5) (T := TX5) (N := 34) X.1 X.2.1 X.2.2.2.2.1 jX5 tyX5 tyX5_ok nmX5 X.2.2.2.1 X.2.2.2.2.2.1 hz.1 hz.2.1 hz.2.2 0 rfl rfl 24 (by decide) (X.2.2.2.2.1 _ fl5_failure) (fun _ h9 => h9) rfl (tyX5_ok 24 (by decide)) rfl rfl (by show 24 < 34; decide) d (fun H1 locs1 h1 h2 h3 => kk (mS M 24 0 v) r hr2 H1 locs1 ls ⟨(r_f_failure cI cZ q M v) ▸ h1, (r_f_failure cI cZ q M v) ▸ h2, h3⟩ hl)
theorem r_g_wrote (X : gX p s m args meth c cc nL RX5 rt D (tyR cI cZ)) {K : Int32 → Option ρ} (d : decode cc pc = .ok (.getfield 215, 3)) (kk : ∀ v, gG p l e R s m args below meth c nL (ZR D cI cZ q A H0 M) kc ks QQ (pc + 3) lv (.int v :: st) (K v)) : gG p l e R s m args below meth c nL (ZR D cI cZ q A H0 M) kc ks QQ pc lv (.ref (q 34) :: st) (gf M 25 K) := fun r hr H locs ls hz hl => va_get (D := D) (ci := 5) (C := RX5) (T := TX5) (N := 34) X.1 X.2.1 X.2.2.2.2.1 jX5 X.2.2.2.1 X.2.2.2.2.2.1 hz.1 0 rfl rfl 25 (by decide) (X.2.2.2.2.1 _ fl5_wrote) (fun _ h9 => h9) rfl d (kk _ r hr H locs ls hz hl)
theorem r_f_wrote (cI cZ : ClassId) (q : Nat → Nat) (M : MR) (v : Int32) : (wR cI cZ q M).set 0 (q 34, .inr (5, (fsR q M).set 25 (.int v))) = wR cI cZ q (mS M 25 0 v) := rfl
theorem r_p_wrote (X : gX p s m args meth c cc nL RX5 rt D (tyR cI cZ)) {v : Int32} {K : MR → Option ρ} (d : decode cc pc = .ok (.putfield 215, 3)) (kk : ∀ M1, gG p l e R s m args below meth c nL (ZR D cI cZ q A H0 M1) kc ks QQ (pc + 3) lv st (K M1)) : gG p l e R s m args below meth c nL (ZR D cI cZ q A H0 M) kc ks QQ pc lv (.int v :: .ref (q 34) :: st) (pf M 25 v K) := fun r hr2 H locs ls hz hl => va_put (D := D) (ci := 5) (v := .int v) (C := RX5) (T := TX5) (N := 34) X.1 X.2.1 X.2.2.2.2.1 jX5 tyX5 tyX5_ok nmX5 X.2.2.2.1 X.2.2.2.2.2.1 hz.1 hz.2.1 hz.2.2 0 rfl rfl 25 (by decide) (X.2.2.2.2.1 _ fl5_wrote) (fun _ h9 => h9) rfl (tyX5_ok 25 (by decide)) rfl rfl (by show 25 < 34; decide) d (fun H1 locs1 h1 h2 h3 => kk (mS M 25 0 v) r hr2 H1 locs1 ls ⟨(r_f_wrote cI cZ q M v) ▸ h1, (r_f_wrote cI cZ q M v) ▸ h2, h3⟩ hl)
theorem r_g_isWrittenObj (X : gX p s m args meth c cc nL RX5 rt D (tyR cI cZ)) (d : decode cc pc = .ok (.getfield 57, 3)) (kk : gG p l e R s m args below meth c nL (ZR D cI cZ q A H0 M) kc ks QQ (pc + 3) lv (.ref (q 26) :: st) F) : gG p l e R s m args below meth c nL (ZR D cI cZ q A H0 M) kc ks QQ pc lv (.ref (q 34) :: st) F := fun r hr H locs ls hz hl => va_get (D := D) (ci := 5) (C := RX5) (T := TX5) (N := 34) X.1 X.2.1 X.2.2.2.2.1 jX5 X.2.2.2.1 X.2.2.2.2.2.1 hz.1 0 rfl rfl 26 (by decide) (X.2.2.2.2.1 _ fl5_isWrittenObj) (fun _ h9 => h9) rfl d (kk r hr H locs ls hz hl)
theorem r_l_isWrittenObj (X : gX p s m args meth c cc nL RX5 rt D (tyR cI cZ)) {i : Int32} {K : Int32 → Option ρ} (d : decode cc pc = .ok (.baload, 1)) (kk : ∀ v, gG p l e R s m args below meth c nL (ZR D cI cZ q A H0 M) kc ks QQ (pc + 1) lv (.int v :: st) (K v)) : gG p l e R s m args below meth c nL (ZR D cI cZ q A H0 M) kc ks QQ pc lv (.int i :: .ref (q 26) :: st) (rd M 26 20 i K) := g_ite (fun _ => g_none) (fun hin r hr H locs ls hz hl => va_zald X.1 X.2.1 X.2.2.2.2.2.1 hz.1 16 1 rfl rfl hin d (kk _ r hr H locs ls hz hl))
theorem r_e_isWrittenObj (cI cZ : ClassId) (q : Nat → Nat) (M : MR) (i : Nat) (v : Int32) : (wR cI cZ q M).set 16 (q 26, .inl (cZ, 20, .inl (upd (M 26) i v))) = wR cI cZ q (mS M 26 i v) := rfl
theorem r_s_isWrittenObj (X : gX p s m args meth c cc nL RX5 rt D (tyR cI cZ)) {i v : Int32} {K : MR → Option ρ} (d : decode cc pc = .ok (.bastore, 1)) (kk : ∀ M1, gG p l e R s m args below meth c nL (ZR D cI cZ q A H0 M1) kc ks QQ (pc + 1) lv st (K M1)) : gG p l e R s m args below meth c nL (ZR D cI cZ q A H0 M) kc ks QQ pc lv (.int v :: .int i :: .ref (q 26) :: st) (wz M 26 20 i v K) := g_ite (fun _ => g_none) (fun hin r hr H locs ls hz hl => va_zast X.1 X.2.1 X.2.2.2.2.2.1 hz.1 hz.2.1 hz.2.2 16 1 rfl rfl hin d (fun H1 locs1 h1 h2 h3 => kk (mS M 26 i.toNatClampNeg (vp_nar .boolean v)) r hr H1 locs1 ls ⟨(r_e_isWrittenObj cI cZ q M _ _) ▸ h1, (r_e_isWrittenObj cI cZ q M _ _) ▸ h2, h3⟩ hl))
theorem r_g_writtenValue (X : gX p s m args meth c cc nL RX5 rt D (tyR cI cZ)) (d : decode cc pc = .ok (.getfield 60, 3)) (kk : gG p l e R s m args below meth c nL (ZR D cI cZ q A H0 M) kc ks QQ (pc + 3) lv (.ref (q 27) :: st) F) : gG p l e R s m args below meth c nL (ZR D cI cZ q A H0 M) kc ks QQ pc lv (.ref (q 34) :: st) F := fun r hr H locs ls hz hl => va_get (D := D) (ci := 5) (C := RX5) (T := TX5) (N := 34) X.1 X.2.1 X.2.2.2.2.1 jX5 X.2.2.2.1 X.2.2.2.2.2.1 hz.1 0 rfl rfl 27 (by decide) (X.2.2.2.2.1 _ fl5_writtenValue) (fun _ h9 => h9) rfl d (kk r hr H locs ls hz hl)
theorem r_l_writtenValue (X : gX p s m args meth c cc nL RX5 rt D (tyR cI cZ)) {i : Int32} {K : Int32 → Option ρ} (d : decode cc pc = .ok (.iaload, 1)) (kk : ∀ v, gG p l e R s m args below meth c nL (ZR D cI cZ q A H0 M) kc ks QQ (pc + 1) lv (.int v :: st) (K v)) : gG p l e R s m args below meth c nL (ZR D cI cZ q A H0 M) kc ks QQ pc lv (.int i :: .ref (q 27) :: st) (rd M 27 20 i K) := g_ite (fun _ => g_none) (fun hin r hr H locs ls hz hl => va_iald X.1 X.2.1 X.2.2.2.2.2.1 hz.1 17 0 rfl rfl hin d (kk _ r hr H locs ls hz hl))
theorem r_e_writtenValue (cI cZ : ClassId) (q : Nat → Nat) (M : MR) (i : Nat) (v : Int32) : (wR cI cZ q M).set 17 (q 27, .inl (cI, 20, .inl (upd (M 27) i v))) = wR cI cZ q (mS M 27 i v) := rfl
theorem r_s_writtenValue (X : gX p s m args meth c cc nL RX5 rt D (tyR cI cZ)) {i v : Int32} {K : MR → Option ρ} (d : decode cc pc = .ok (.iastore, 1)) (kk : ∀ M1, gG p l e R s m args below meth c nL (ZR D cI cZ q A H0 M1) kc ks QQ (pc + 1) lv st (K M1)) : gG p l e R s m args below meth c nL (ZR D cI cZ q A H0 M) kc ks QQ pc lv (.int v :: .int i :: .ref (q 27) :: st) (wr M 27 20 i v K) := g_ite (fun _ => g_none) (fun hin r hr H locs ls hz hl => va_iast X.1 X.2.1 X.2.2.2.2.2.1 hz.1 hz.2.1 hz.2.2 17 0 rfl rfl hin d (fun H1 locs1 h1 h2 h3 => kk (mS M 27 i.toNatClampNeg v) r hr H1 locs1 ls ⟨(r_e_writtenValue cI cZ q M _ _) ▸ h1, (r_e_writtenValue cI cZ q M _ _) ▸ h2, h3⟩ hl))
theorem r_g_isStale (X : gX p s m args meth c cc nL RX5 rt D (tyR cI cZ)) (d : decode cc pc = .ok (.getfield 63, 3)) (kk : gG p l e R s m args below meth c nL (ZR D cI cZ q A H0 M) kc ks QQ (pc + 3) lv (.ref (q 28) :: st) F) : gG p l e R s m args below meth c nL (ZR D cI cZ q A H0 M) kc ks QQ pc lv (.ref (q 34) :: st) F := fun r hr H locs ls hz hl => va_get (D := D) (ci := 5) (C := RX5) (T := TX5) (N := 34) X.1 X.2.1 X.2.2.2.2.1 jX5 X.2.2.2.1 X.2.2.2.2.2.1 hz.1 0 rfl rfl 28 (by decide) (X.2.2.2.2.1 _ fl5_isStale) (fun _ h9 => h9) rfl d (kk r hr H locs ls hz hl)
theorem r_l_isStale (X : gX p s m args meth c cc nL RX5 rt D (tyR cI cZ)) {i : Int32} {K : Int32 → Option ρ} (d : decode cc pc = .ok (.baload, 1)) (kk : ∀ v, gG p l e R s m args below meth c nL (ZR D cI cZ q A H0 M) kc ks QQ (pc + 1) lv (.int v :: st) (K v)) : gG p l e R s m args below meth c nL (ZR D cI cZ q A H0 M) kc ks QQ pc lv (.int i :: .ref (q 28) :: st) (rd M 28 40 i K) := g_ite (fun _ => g_none) (fun hin r hr H locs ls hz hl => va_zald X.1 X.2.1 X.2.2.2.2.2.1 hz.1 18 1 rfl rfl hin d (kk _ r hr H locs ls hz hl))
theorem r_e_isStale (cI cZ : ClassId) (q : Nat → Nat) (M : MR) (i : Nat) (v : Int32) : (wR cI cZ q M).set 18 (q 28, .inl (cZ, 40, .inl (upd (M 28) i v))) = wR cI cZ q (mS M 28 i v) := rfl
theorem r_s_isStale (X : gX p s m args meth c cc nL RX5 rt D (tyR cI cZ)) {i v : Int32} {K : MR → Option ρ} (d : decode cc pc = .ok (.bastore, 1)) (kk : ∀ M1, gG p l e R s m args below meth c nL (ZR D cI cZ q A H0 M1) kc ks QQ (pc + 1) lv st (K M1)) : gG p l e R s m args below meth c nL (ZR D cI cZ q A H0 M) kc ks QQ pc lv (.int v :: .int i :: .ref (q 28) :: st) (wz M 28 40 i v K) := g_ite (fun _ => g_none) (fun hin r hr H locs ls hz hl => va_zast X.1 X.2.1 X.2.2.2.2.2.1 hz.1 hz.2.1 hz.2.2 18 1 rfl rfl hin d (fun H1 locs1 h1 h2 h3 => kk (mS M 28 i.toNatClampNeg (vp_nar .boolean v)) r hr H1 locs1 ls ⟨(r_e_isStale cI cZ q M _ _) ▸ h1, (r_e_isStale cI cZ q M _ _) ▸ h2, h3⟩ hl))
theorem r_g_waits (X : gX p s m args meth c cc nL RX5 rt D (tyR cI cZ)) (d : decode cc pc = .ok (.getfield 66, 3)) (kk : gG p l e R s m args below meth c nL (ZR D cI cZ q A H0 M) kc ks QQ (pc + 3) lv (.ref (q 29) :: st) F) : gG p l e R s m args below meth c nL (ZR D cI cZ q A H0 M) kc ks QQ pc lv (.ref (q 34) :: st) F := fun r hr H locs ls hz hl => va_get (D := D) (ci := 5) (C := RX5) (T := TX5) (N := 34) X.1 X.2.1 X.2.2.2.2.1 jX5 X.2.2.2.1 X.2.2.2.2.2.1 hz.1 0 rfl rfl 29 (by decide) (X.2.2.2.2.1 _ fl5_waits) (fun _ h9 => h9) rfl d (kk r hr H locs ls hz hl)
theorem r_l_waits (X : gX p s m args meth c cc nL RX5 rt D (tyR cI cZ)) {i : Int32} {K : Int32 → Option ρ} (d : decode cc pc = .ok (.baload, 1)) (kk : ∀ v, gG p l e R s m args below meth c nL (ZR D cI cZ q A H0 M) kc ks QQ (pc + 1) lv (.int v :: st) (K v)) : gG p l e R s m args below meth c nL (ZR D cI cZ q A H0 M) kc ks QQ pc lv (.int i :: .ref (q 29) :: st) (rd M 29 40 i K) := g_ite (fun _ => g_none) (fun hin r hr H locs ls hz hl => va_zald X.1 X.2.1 X.2.2.2.2.2.1 hz.1 19 1 rfl rfl hin d (kk _ r hr H locs ls hz hl))
theorem r_e_waits (cI cZ : ClassId) (q : Nat → Nat) (M : MR) (i : Nat) (v : Int32) : (wR cI cZ q M).set 19 (q 29, .inl (cZ, 40, .inl (upd (M 29) i v))) = wR cI cZ q (mS M 29 i v) := rfl
theorem r_s_waits (X : gX p s m args meth c cc nL RX5 rt D (tyR cI cZ)) {i v : Int32} {K : MR → Option ρ} (d : decode cc pc = .ok (.bastore, 1)) (kk : ∀ M1, gG p l e R s m args below meth c nL (ZR D cI cZ q A H0 M1) kc ks QQ (pc + 1) lv st (K M1)) : gG p l e R s m args below meth c nL (ZR D cI cZ q A H0 M) kc ks QQ pc lv (.int v :: .int i :: .ref (q 29) :: st) (wz M 29 40 i v K) := g_ite (fun _ => g_none) (fun hin r hr H locs ls hz hl => va_zast X.1 X.2.1 X.2.2.2.2.2.1 hz.1 hz.2.1 hz.2.2 19 1 rfl rfl hin d (fun H1 locs1 h1 h2 h3 => kk (mS M 29 i.toNatClampNeg (vp_nar .boolean v)) r hr H1 locs1 ls ⟨(r_e_waits cI cZ q M _ _) ▸ h1, (r_e_waits cI cZ q M _ _) ▸ h2, h3⟩ hl))
theorem r_g_cameKind (X : gX p s m args meth c cc nL RX5 rt D (tyR cI cZ)) {K : Int32 → Option ρ} (d : decode cc pc = .ok (.getfield 269, 3)) (kk : ∀ v, gG p l e R s m args below meth c nL (ZR D cI cZ q A H0 M) kc ks QQ (pc + 3) lv (.int v :: st) (K v)) : gG p l e R s m args below meth c nL (ZR D cI cZ q A H0 M) kc ks QQ pc lv (.ref (q 34) :: st) (gf M 30 K) := fun r hr H locs ls hz hl => va_get (D := D) (ci := 5) (C := RX5) (T := TX5) (N := 34) X.1 X.2.1 X.2.2.2.2.1 jX5 X.2.2.2.1 X.2.2.2.2.2.1 hz.1 0 rfl rfl 30 (by decide) (X.2.2.2.2.1 _ fl5_cameKind) (fun _ h9 => h9) rfl d (kk _ r hr H locs ls hz hl)
theorem r_f_cameKind (cI cZ : ClassId) (q : Nat → Nat) (M : MR) (v : Int32) : (wR cI cZ q M).set 0 (q 34, .inr (5, (fsR q M).set 30 (.int v))) = wR cI cZ q (mS M 30 0 v) := rfl
theorem r_p_cameKind (X : gX p s m args meth c cc nL RX5 rt D (tyR cI cZ)) {v : Int32} {K : MR → Option ρ} (d : decode cc pc = .ok (.putfield 269, 3)) (kk : ∀ M1, gG p l e R s m args below meth c nL (ZR D cI cZ q A H0 M1) kc ks QQ (pc + 3) lv st (K M1)) : gG p l e R s m args below meth c nL (ZR D cI cZ q A H0 M) kc ks QQ pc lv (.int v :: .ref (q 34) :: st) (pf M 30 v K) := fun r hr2 H locs ls hz hl => va_put (D := D) (ci := 5) (v := .int v) (C := RX5) (T := TX5) (N := 34) X.1 X.2.1 X.2.2.2.2.1 jX5 tyX5 tyX5_ok nmX5 X.2.2.2.1 X.2.2.2.2.2.1 hz.1 hz.2.1 hz.2.2 0 rfl rfl 30 (by decide) (X.2.2.2.2.1 _ fl5_cameKind) (fun _ h9 => h9) rfl (tyX5_ok 30 (by decide)) rfl rfl (by show 30 < 34; decide) d (fun H1 locs1 h1 h2 h3 => kk (mS M 30 0 v) r hr2 H1 locs1 ls ⟨(r_f_cameKind cI cZ q M v) ▸ h1, (r_f_cameKind cI cZ q M v) ▸ h2, h3⟩ hl)
theorem r_g_cameValue (X : gX p s m args meth c cc nL RX5 rt D (tyR cI cZ)) {K : Int32 → Option ρ} (d : decode cc pc = .ok (.getfield 272, 3)) (kk : ∀ v, gG p l e R s m args below meth c nL (ZR D cI cZ q A H0 M) kc ks QQ (pc + 3) lv (.int v :: st) (K v)) : gG p l e R s m args below meth c nL (ZR D cI cZ q A H0 M) kc ks QQ pc lv (.ref (q 34) :: st) (gf M 31 K) := fun r hr H locs ls hz hl => va_get (D := D) (ci := 5) (C := RX5) (T := TX5) (N := 34) X.1 X.2.1 X.2.2.2.2.1 jX5 X.2.2.2.1 X.2.2.2.2.2.1 hz.1 0 rfl rfl 31 (by decide) (X.2.2.2.2.1 _ fl5_cameValue) (fun _ h9 => h9) rfl d (kk _ r hr H locs ls hz hl)
theorem r_f_cameValue (cI cZ : ClassId) (q : Nat → Nat) (M : MR) (v : Int32) : (wR cI cZ q M).set 0 (q 34, .inr (5, (fsR q M).set 31 (.int v))) = wR cI cZ q (mS M 31 0 v) := rfl
theorem r_p_cameValue (X : gX p s m args meth c cc nL RX5 rt D (tyR cI cZ)) {v : Int32} {K : MR → Option ρ} (d : decode cc pc = .ok (.putfield 272, 3)) (kk : ∀ M1, gG p l e R s m args below meth c nL (ZR D cI cZ q A H0 M1) kc ks QQ (pc + 3) lv st (K M1)) : gG p l e R s m args below meth c nL (ZR D cI cZ q A H0 M) kc ks QQ pc lv (.int v :: .ref (q 34) :: st) (pf M 31 v K) := fun r hr2 H locs ls hz hl => va_put (D := D) (ci := 5) (v := .int v) (C := RX5) (T := TX5) (N := 34) X.1 X.2.1 X.2.2.2.2.1 jX5 tyX5 tyX5_ok nmX5 X.2.2.2.1 X.2.2.2.2.2.1 hz.1 hz.2.1 hz.2.2 0 rfl rfl 31 (by decide) (X.2.2.2.2.1 _ fl5_cameValue) (fun _ h9 => h9) rfl (tyX5_ok 31 (by decide)) rfl rfl (by show 31 < 34; decide) d (fun H1 locs1 h1 h2 h3 => kk (mS M 31 0 v) r hr2 H1 locs1 ls ⟨(r_f_cameValue cI cZ q M v) ▸ h1, (r_f_cameValue cI cZ q M v) ▸ h2, h3⟩ hl)
theorem r_g_cameFailure (X : gX p s m args meth c cc nL RX5 rt D (tyR cI cZ)) {K : Int32 → Option ρ} (d : decode cc pc = .ok (.getfield 275, 3)) (kk : ∀ v, gG p l e R s m args below meth c nL (ZR D cI cZ q A H0 M) kc ks QQ (pc + 3) lv (.int v :: st) (K v)) : gG p l e R s m args below meth c nL (ZR D cI cZ q A H0 M) kc ks QQ pc lv (.ref (q 34) :: st) (gf M 32 K) := fun r hr H locs ls hz hl => va_get (D := D) (ci := 5) (C := RX5) (T := TX5) (N := 34) X.1 X.2.1 X.2.2.2.2.1 jX5 X.2.2.2.1 X.2.2.2.2.2.1 hz.1 0 rfl rfl 32 (by decide) (X.2.2.2.2.1 _ fl5_cameFailure) (fun _ h9 => h9) rfl d (kk _ r hr H locs ls hz hl)
theorem r_f_cameFailure (cI cZ : ClassId) (q : Nat → Nat) (M : MR) (v : Int32) : (wR cI cZ q M).set 0 (q 34, .inr (5, (fsR q M).set 32 (.int v))) = wR cI cZ q (mS M 32 0 v) := rfl
theorem r_p_cameFailure (X : gX p s m args meth c cc nL RX5 rt D (tyR cI cZ)) {v : Int32} {K : MR → Option ρ} (d : decode cc pc = .ok (.putfield 275, 3)) (kk : ∀ M1, gG p l e R s m args below meth c nL (ZR D cI cZ q A H0 M1) kc ks QQ (pc + 3) lv st (K M1)) : gG p l e R s m args below meth c nL (ZR D cI cZ q A H0 M) kc ks QQ pc lv (.int v :: .ref (q 34) :: st) (pf M 32 v K) := fun r hr2 H locs ls hz hl => va_put (D := D) (ci := 5) (v := .int v) (C := RX5) (T := TX5) (N := 34) X.1 X.2.1 X.2.2.2.2.1 jX5 tyX5 tyX5_ok nmX5 X.2.2.2.1 X.2.2.2.2.2.1 hz.1 hz.2.1 hz.2.2 0 rfl rfl 32 (by decide) (X.2.2.2.2.1 _ fl5_cameFailure) (fun _ h9 => h9) rfl (tyX5_ok 32 (by decide)) rfl rfl (by show 32 < 34; decide) d (fun H1 locs1 h1 h2 h3 => kk (mS M 32 0 v) r hr2 H1 locs1 ls ⟨(r_f_cameFailure cI cZ q M v) ▸ h1, (r_f_cameFailure cI cZ q M v) ▸ h2, h3⟩ hl)
theorem r_g_cameSteps (X : gX p s m args meth c cc nL RX5 rt D (tyR cI cZ)) {K : Int32 → Option ρ} (d : decode cc pc = .ok (.getfield 278, 3)) (kk : ∀ v, gG p l e R s m args below meth c nL (ZR D cI cZ q A H0 M) kc ks QQ (pc + 3) lv (.int v :: st) (K v)) : gG p l e R s m args below meth c nL (ZR D cI cZ q A H0 M) kc ks QQ pc lv (.ref (q 34) :: st) (gf M 33 K) := fun r hr H locs ls hz hl => va_get (D := D) (ci := 5) (C := RX5) (T := TX5) (N := 34) X.1 X.2.1 X.2.2.2.2.1 jX5 X.2.2.2.1 X.2.2.2.2.2.1 hz.1 0 rfl rfl 33 (by decide) (X.2.2.2.2.1 _ fl5_cameSteps) (fun _ h9 => h9) rfl d (kk _ r hr H locs ls hz hl)
theorem r_f_cameSteps (cI cZ : ClassId) (q : Nat → Nat) (M : MR) (v : Int32) : (wR cI cZ q M).set 0 (q 34, .inr (5, (fsR q M).set 33 (.int v))) = wR cI cZ q (mS M 33 0 v) := rfl
theorem r_p_cameSteps (X : gX p s m args meth c cc nL RX5 rt D (tyR cI cZ)) {v : Int32} {K : MR → Option ρ} (d : decode cc pc = .ok (.putfield 278, 3)) (kk : ∀ M1, gG p l e R s m args below meth c nL (ZR D cI cZ q A H0 M1) kc ks QQ (pc + 3) lv st (K M1)) : gG p l e R s m args below meth c nL (ZR D cI cZ q A H0 M) kc ks QQ pc lv (.int v :: .ref (q 34) :: st) (pf M 33 v K) := fun r hr2 H locs ls hz hl => va_put (D := D) (ci := 5) (v := .int v) (C := RX5) (T := TX5) (N := 34) X.1 X.2.1 X.2.2.2.2.1 jX5 tyX5 tyX5_ok nmX5 X.2.2.2.1 X.2.2.2.2.2.1 hz.1 hz.2.1 hz.2.2 0 rfl rfl 33 (by decide) (X.2.2.2.2.1 _ fl5_cameSteps) (fun _ h9 => h9) rfl (tyX5_ok 33 (by decide)) rfl rfl (by show 33 < 34; decide) d (fun H1 locs1 h1 h2 h3 => kk (mS M 33 0 v) r hr2 H1 locs1 ls ⟨(r_f_cameSteps cI cZ q M v) ▸ h1, (r_f_cameSteps cI cZ q M v) ▸ h2, h3⟩ hl)
end RR
end
section
def rmR (fr lo : Nat) : Room := { frames := fr, cells := 0, slots := 0, locals := lo }
theorem good_in {ws : List Cond} (h : ∀ w ∈ ws, w ∈ tt) : GoodIn tt ws := fun w hw => good_tt (fun _ h => h) w (h w hw)
theorem in_wsM {y : MethodName} {b : ByteArray} {n : Nat} {ret : Option FieldType} (hc : Cond.code y b n ret ∈ tt) : ∀ w ∈ wsM y b n ret, w ∈ tt := fun w h => by
  rcases List.mem_cons.mp h with rfl | h
  · exact hc
  · exact h
theorem ini5 : Cond.initialized RX5 ∈ tt := tt_in (by decide +kernel) (by decide +kernel)
theorem cwVR {R : Room} {s : State} {args : Array Value} {own C : String} {ix n k fr lo : Nat} {y : MethodName} {b : ByteArray} {ret : Option FieldType} (hts : ∀ w ∈ tt, w.before args s = true) (h1 : Cond.methodLink own ix y ∈ tt) (h2 : Cond.instanceMethod y ∈ tt) (h3 : Cond.selects C y y ∈ tt) (h4 : Cond.code y b n ret ∈ tt) (h5 : Cond.initialized C ∈ tt)
    (hd : y.cls = C ∧ y.cls ≠ "java/lang/invoke/MethodHandle" ∧ y.cls ≠ "java/lang/invoke/VarHandle" ∧ (parseMethodDescriptor y.desc).map (fun d => d.parameters.length) = some k) (hR : fr + 1 ≤ R.frames ∧ 8 + (n + 11) + lo ≤ R.locals) : CallW R s args own C ix y b n ret (wsM y b n ret) (rmR fr lo) 0 0 k := by
  refine cwV k hts (good_in fun w hw => ?_) rfl rfl rfl hd hR
  rcases List.mem_append.mp hw with hw | hw
  · simp only [List.mem_cons, List.not_mem_nil, or_false] at hw
    rcases hw with rfl | rfl | rfl | rfl <;> assumption
  · exact in_wsM h4 w hw
theorem cwSR {R : Room} {s : State} {args : Array Value} {own : String} {ix n k fr lo : Nat} {y : MethodName} {b : ByteArray} {ret : Option FieldType} (hts : ∀ w ∈ tt, w.before args s = true) (h1 : Cond.methodLink own ix y ∈ tt) (h2 : Cond.static y ∈ tt) (h4 : Cond.code y b n ret ∈ tt) (h5 : Cond.initialized y.cls ∈ tt)
    (hd : y.cls ≠ "java/lang/invoke/MethodHandle" ∧ y.cls ≠ "java/lang/invoke/VarHandle" ∧ (parseMethodDescriptor y.desc).map (fun d => d.parameters.length) = some k) (hR : fr + 1 ≤ R.frames ∧ 8 + (n + 11) + lo ≤ R.locals) : CallB R s args own ix y b n ret (wsM y b n ret) (rmR fr lo) 0 0 k ∧ (Cond.static y).before args s = true := by
  refine va_cwS k hts (good_in fun w hw => ?_) rfl rfl rfl hd hR
  rcases List.mem_append.mp hw with hw | hw
  · simp only [List.mem_cons, List.not_mem_nil, or_false] at hw
    rcases hw with rfl | rfl | rfl <;> assumption
  · exact in_wsM h4 w hw
def QI (D : va_G) (cI cZ : ClassId) (q : Nat → Nat) (sz : Nat) (r : Int32 × MR) : Array Value → State → Outcome → State → Prop := va_Qi (fun (v : Int32) (M : MR) => v = r.1 ∧ M = r.2) (fun M t => va_P D vwCl (wR cI cZ q M) t.heap ∧ va_K D vwCl (tyR cI cZ) t ∧ va_D (AR q sz) (wR cI cZ q M)) (AR q sz)
def QV (D : va_G) (cI cZ : ClassId) (q : Nat → Nat) (sz : Nat) (r : Int32 × MR) : Array Value → State → Outcome → State → Prop := va_Qv (fun (M : MR) => M = r.2) (fun M t => va_P D vwCl (wR cI cZ q M) t.heap ∧ va_K D vwCl (tyR cI cZ) t ∧ va_D (AR q sz) (wR cI cZ q M)) (AR q sz)
/-- what a method of the reference wants at its start -/
def PcR (D : va_G) (cI cZ : ClassId) (q : Nat → Nat) (sz : Nat) (vs : List Value) (M : MR) : Array Value → State → Prop := va_Pc vs (fun U => U.heap.size = sz ∧ va_P D vwCl (wR cI cZ q M) U.heap ∧ va_K D vwCl (tyR cI cZ) U ∧ va_D (fun _ => True) (wR cI cZ q M))
theorem PcR_blind {D : va_G} {cI cZ : ClassId} {q : Nat → Nat} {sz : Nat} {vs : List Value} {M : MR} : FrameBlind (PcR D cI cZ q sz vs M) := fun a U g mk h => by
  obtain ⟨h0, h1, h2, h3, h4⟩ := h
  exact ⟨h0, h1, h2, va_K.moved (u := U) (U := U.calling g mk a) (Vm.Alike.refl U.vm) h3, h4⟩
/-- a method of the reference does what the pure program F says -/
def MetR (l : Launch) (D : va_G) (cI cZ : ClassId) (q : Nat → Nat) (y : MethodName) (b : ByteArray) (nL : Nat) (ret : Option FieldType) (fr lo : Nat) (Qk : va_G → ClassId → ClassId → (Nat → Nat) → Nat → Int32 × MR → Array Value → State → Outcome → State → Prop) (vs : List Value) (M : MR) (F : Option (Int32 × MR)) : Prop :=
  ∀ sz r, F = some r → Met l y (wsM y b nL ret) (rmR fr lo) (PcR D cI cZ q sz vs M) (Qk D cI cZ q sz r) 0 0 (AR q sz)
theorem MetR.of {l : Launch} {D : va_G} {cI cZ : ClassId} {q : Nat → Nat} {y : MethodName} {b : ByteArray} {nL : Nat} {ret : Option FieldType} {fr lo : Nat} {Qk : va_G → ClassId → ClassId → (Nat → Nat) → Nat → Int32 × MR → Array Value → State → Outcome → State → Prop} {vs : List Value} {M : MR} {F : Option (Int32 × MR)} (hy : plainName y.cls = true) (hcl : y.cls = RX5) (hlen : (lg_sl vs).length ≤ nL)
    (body : ∀ (p : Program) (e : Env) (s : State) (m : MethodId) (args : Array Value) (below : List Frame) (meth : Method) (c : Code), gX p s m args meth c b nL RX5 ret D (tyR cI cZ) → gG p l e (rmR fr lo) s m args below meth c nL (ZR D cI cZ q (AR q s.heap.size) s.heap M) 0 0 (fun r => MQ below (Qk D cI cZ q s.heap.size r) args s 0 0 (AR q s.heap.size)) 0 (lv_args 0 vs) [] F) : MetR l D cI cZ q y b nL ret fr lo Qk vs M F := by
  intro sz r hr
  refine Met.ofW (cc := b) (maxL := nL) (ret := ret) hy rfl ?_
  intro p e s m args below meth c s₁ B hml hv
  obtain ⟨rfl, hsz, hP, hK, hD0⟩ := hv
  have hts : ∀ w ∈ tt, w.before vs.toArray s = true := fun w hw => atoms_spec (ws := wsM y b nL ret) B.pre w (List.mem_cons_of_mem _ hw)
  have hown : s.vm.findClass RX5 = some m.cls := by rw [← hcl]; exact findClass_of_methodNamed B.named
  subst hsz
  have hD := hD0.self (sz := s.heap.size)
  rw [AR_eq] at hD
  have hl := lv_entry vs (n := nL) hlen
  rw [lg_entry_eq]
  exact body p e s m _ below meth c ⟨B.exec, B.bytes, hml, hown, hts, hK, B.notSynchronized, B.returns⟩ r hr _ _ _ ⟨hP, hD, va_S.rf⟩ hl
section RC
variable {ρ : Type} {p : Program} {l : Launch} {e : Env} {R : Room} {s : State} {m : MethodId} {args : Array Value} {below : List Frame} {meth : Method} {c : Code}
variable {cc : ByteArray} {nL : Nat} {rt : Option FieldType} {D : va_G} {cI cZ : ClassId} {q : Nat → Nat} {A : Nat → Prop} {H0 : Heap} {M : MR} {kc ks : Nat} {QQ : ρ → State → Prop} {pc : Nat} {lv : List (Nat × Value)} {st : List Value} {F : Option ρ}
theorem r_iret {v : Int32} (X : gX p s m args meth c cc nL RX5 (some .int) D (tyR cI cZ)) (d : decode cc pc = .ok (.ireturn, 1)) : gG p l e R s m args below meth c nL (ZR D cI cZ q (AR q s.heap.size) s.heap M) 0 0 (fun r => MQ below (QI D cI cZ q s.heap.size r) args s 0 0 (AR q s.heap.size)) pc lv [.int v] (some (v, M)) := fun r hr H locs ls hz hl => by
  cases hr
  exact W.iret (v := v) X.1 X.2.1 X.2.2.2.2.2.2.2 (fun t ht hW => ⟨⟨v, M, rfl, ⟨rfl, rfl⟩, by rw [ht]; exact hz.1, va_K.moved hW.alike X.2.2.2.2.2.1, hz.2.1⟩, hz.2.2.F ht⟩) hz.2.2.2.2 d X.2.2.2.2.2.2.1
theorem r_zret {v : Int32} (X : gX p s m args meth c cc nL RX5 (some .boolean) D (tyR cI cZ)) (d : decode cc pc = .ok (.ireturn, 1)) : gG p l e R s m args below meth c nL (ZR D cI cZ q (AR q s.heap.size) s.heap M) 0 0 (fun r => MQ below (QI D cI cZ q s.heap.size r) args s 0 0 (AR q s.heap.size)) pc lv [.int v] (zt v (some (v, M))) := fun r hr H locs ls hz hl => by
  obtain ⟨hb, hr⟩ := zt_bo hr
  cases hr
  exact W.zret (v := v) X.1 X.2.1 X.2.2.2.2.2.2.2 (bo_nar hb).1 (fun t ht hW => ⟨⟨v, M, rfl, ⟨rfl, rfl⟩, by rw [ht]; exact hz.1, va_K.moved hW.alike X.2.2.2.2.2.1, hz.2.1⟩, hz.2.2.F ht⟩) hz.2.2.2.2 d X.2.2.2.2.2.2.1
theorem r_vret (X : gX p s m args meth c cc nL RX5 none D (tyR cI cZ)) (d : decode cc pc = .ok (.return_, 1)) : gG p l e R s m args below meth c nL (ZR D cI cZ q (AR q s.heap.size) s.heap M) 0 0 (fun r => MQ below (QV D cI cZ q s.heap.size r) args s 0 0 (AR q s.heap.size)) pc lv [] (some (0, M)) := fun r hr H locs ls hz hl => by
  cases hr
  exact W.vret X.1 X.2.1 X.2.2.2.2.2.2.2 (fun t ht hW => ⟨⟨M, rfl, rfl, by rw [ht]; exact hz.1, va_K.moved hW.alike X.2.2.2.2.2.1, hz.2.1⟩, hz.2.2.F ht⟩) hz.2.2.2.2 d X.2.2.2.2.2.2.1
theorem bnd_some {α β : Type} {x : Option (α × β)} {K : α → β → Option ρ} {r : ρ} (h : bnd x K = some r) : ∃ a, x = some a ∧ K a.1 a.2 = some r := by
  unfold bnd at h
  cases x with
  | none => cases h
  | some a => exact ⟨a, rfl, h⟩
theorem r_callVi (X : gX p s m args meth c cc nL RX5 rt D (tyR cI cZ)) {y : MethodName} {b : ByteArray} {nz fr lo n ix : Nat} {ret : Option FieldType} {As rest : List Value} {Fz : Option (Int32 × MR)} {K : Int32 → MR → Option ρ} (hM : MetR l D cI cZ q y b nz ret fr lo QI (.ref (q 34) :: As) M Fz) (cw : CallW R s args RX5 RX5 ix y b nz ret (wsM y b nz ret) (rmR fr lo) 0 0 n) (hn : As.length = n) (hst : st = As.reverse ++ .ref (q 34) :: rest) (hcat : (rest.map fun v => v.category).sum ≤ 8) (d : decode cc pc = .ok (.invokevirtual ix, 3))
    (kk : ∀ v M1, gG p l e R s m args below meth c nL (ZR D cI cZ q (AR q s.heap.size) s.heap M1) 0 0 QQ (pc + 3) lv (.int v :: rest) (K v M1)) : gG p l e R s m args below meth c nL (ZR D cI cZ q (AR q s.heap.size) s.heap M) 0 0 QQ pc lv st (bnd Fz K) := fun r hr H locs ls hz hl => by
  obtain ⟨a, hF, hr⟩ := bnd_some hr
  have hmono : ∀ x, AR q H.size x → AR q s.heap.size x := fun x hx => AR_mono hz.2.2.1 hx
  refine va_calli (va_runV (As := As) (rest := rest) ⟨X.1, X.2.1, X.2.2.1, X.2.2.2.1, X.2.2.2.2.1⟩ (hM H.size a hF) cw ⟨PcR_blind, va_recv X.2.2.2.2.2.1 hz.1 (ci := 5) (q0 := 0) rfl rfl, fun U hU hW => ⟨rfl, by rw [hU], by rw [hU]; exact hz.1, va_K.moved hW.alike X.2.2.2.2.2.1, hz.2.1.weaken (fun _ _ _ _ => trivial)⟩⟩ rfl hn hl.1 hst (lv_room hcat) d ⟨Nat.zero_le _, Nat.zero_le _⟩) hz.2.2 (fun x _ h => hmono x h) (fun x h => hmono x h) (fun v u t H1 locs1 ht hvm hw hB hz1 hk1 hS => ?_)
  obtain ⟨rfl, rfl⟩ := hw
  subst ht
  exact kk _ _ r hr _ _ ls ⟨hB.1, hB.2.2.weaken (fun _ _ _ h => hmono _ h), hS⟩ hl
theorem r_callVv (X : gX p s m args meth c cc nL RX5 rt D (tyR cI cZ)) {y : MethodName} {b : ByteArray} {nz fr lo n ix : Nat} {ret : Option FieldType} {As rest : List Value} {Fz : Option (Int32 × MR)} {K : Int32 → MR → Option ρ} (hM : MetR l D cI cZ q y b nz ret fr lo QV (.ref (q 34) :: As) M Fz) (cw : CallW R s args RX5 RX5 ix y b nz ret (wsM y b nz ret) (rmR fr lo) 0 0 n) (hn : As.length = n) (hst : st = As.reverse ++ .ref (q 34) :: rest) (hcat : (rest.map fun v => v.category).sum ≤ 8) (d : decode cc pc = .ok (.invokevirtual ix, 3))
    (kk : ∀ v M1, gG p l e R s m args below meth c nL (ZR D cI cZ q (AR q s.heap.size) s.heap M1) 0 0 QQ (pc + 3) lv rest (K v M1)) : gG p l e R s m args below meth c nL (ZR D cI cZ q (AR q s.heap.size) s.heap M) 0 0 QQ pc lv st (bnd Fz K) := fun r hr H locs ls hz hl => by
  obtain ⟨a, hF, hr⟩ := bnd_some hr
  have hmono : ∀ x, AR q H.size x → AR q s.heap.size x := fun x hx => AR_mono hz.2.2.1 hx
  refine va_callv (va_runV (As := As) (rest := rest) ⟨X.1, X.2.1, X.2.2.1, X.2.2.2.1, X.2.2.2.2.1⟩ (hM H.size a hF) cw ⟨PcR_blind, va_recv X.2.2.2.2.2.1 hz.1 (ci := 5) (q0 := 0) rfl rfl, fun U hU hW => ⟨rfl, by rw [hU], by rw [hU]; exact hz.1, va_K.moved hW.alike X.2.2.2.2.2.1, hz.2.1.weaken (fun _ _ _ _ => trivial)⟩⟩ rfl hn hl.1 hst (lv_room hcat) d ⟨Nat.zero_le _, Nat.zero_le _⟩) hz.2.2 (fun x _ h => hmono x h) (fun x h => hmono x h) (fun u t H1 locs1 ht hvm hw hB hz1 hk1 hS => ?_)
  subst hw
  subst ht
  exact kk _ _ r hr _ _ ls ⟨hB.1, hB.2.2.weaken (fun _ _ _ h => hmono _ h), hS⟩ hl
theorem r_callSi (X : gX p s m args meth c cc nL RX5 rt D (tyR cI cZ)) {y : MethodName} {b : ByteArray} {nz fr lo n ix : Nat} {ret : Option FieldType} {As rest : List Value} {Fz : Option (Int32 × MR)} {K : Int32 → MR → Option ρ} (hM : MetR l D cI cZ q y b nz ret fr lo QI As M Fz) (cw : CallB R s args RX5 ix y b nz ret (wsM y b nz ret) (rmR fr lo) 0 0 n ∧ (Cond.static y).before args s = true) (hn : As.length = n) (hst : st = As.reverse ++ rest) (hcat : (rest.map fun v => v.category).sum ≤ 8) (d : decode cc pc = .ok (.invokestatic ix, 3))
    (kk : ∀ v M1, gG p l e R s m args below meth c nL (ZR D cI cZ q (AR q s.heap.size) s.heap M1) 0 0 QQ (pc + 3) lv (.int v :: rest) (K v M1)) : gG p l e R s m args below meth c nL (ZR D cI cZ q (AR q s.heap.size) s.heap M) 0 0 QQ pc lv st (bnd Fz K) := fun r hr H locs ls hz hl => by
  obtain ⟨a, hF, hr⟩ := bnd_some hr
  have hmono : ∀ x, AR q H.size x → AR q s.heap.size x := fun x hx => AR_mono hz.2.2.1 hx
  refine va_calli (va_runS (As := As) (rest := rest) ⟨X.1, X.2.1, X.2.2.1, X.2.2.2.1, X.2.2.2.2.1⟩ (hM H.size a hF) cw ⟨PcR_blind, fun U hU hW => ⟨rfl, by rw [hU], by rw [hU]; exact hz.1, va_K.moved hW.alike X.2.2.2.2.2.1, hz.2.1.weaken (fun _ _ _ _ => trivial)⟩⟩ rfl hn hl.1 hst (lv_room hcat) d ⟨Nat.zero_le _, Nat.zero_le _⟩) hz.2.2 (fun x _ h => hmono x h) (fun x h => hmono x h) (fun v u t H1 locs1 ht hvm hw hB hz1 hk1 hS => ?_)
  obtain ⟨rfl, rfl⟩ := hw
  subst ht
  exact kk _ _ r hr _ _ ls ⟨hB.1, hB.2.2.weaken (fun _ _ _ h => hmono _ h), hS⟩ hl
theorem r_callSv (X : gX p s m args meth c cc nL RX5 rt D (tyR cI cZ)) {y : MethodName} {b : ByteArray} {nz fr lo n ix : Nat} {ret : Option FieldType} {As rest : List Value} {Fz : Option (Int32 × MR)} {K : Int32 → MR → Option ρ} (hM : MetR l D cI cZ q y b nz ret fr lo QV As M Fz) (cw : CallB R s args RX5 ix y b nz ret (wsM y b nz ret) (rmR fr lo) 0 0 n ∧ (Cond.static y).before args s = true) (hn : As.length = n) (hst : st = As.reverse ++ rest) (hcat : (rest.map fun v => v.category).sum ≤ 8) (d : decode cc pc = .ok (.invokestatic ix, 3))
    (kk : ∀ v M1, gG p l e R s m args below meth c nL (ZR D cI cZ q (AR q s.heap.size) s.heap M1) 0 0 QQ (pc + 3) lv rest (K v M1)) : gG p l e R s m args below meth c nL (ZR D cI cZ q (AR q s.heap.size) s.heap M) 0 0 QQ pc lv st (bnd Fz K) := fun r hr H locs ls hz hl => by
  obtain ⟨a, hF, hr⟩ := bnd_some hr
  have hmono : ∀ x, AR q H.size x → AR q s.heap.size x := fun x hx => AR_mono hz.2.2.1 hx
  refine va_callv (va_runS (As := As) (rest := rest) ⟨X.1, X.2.1, X.2.2.1, X.2.2.2.1, X.2.2.2.2.1⟩ (hM H.size a hF) cw ⟨PcR_blind, fun U hU hW => ⟨rfl, by rw [hU], by rw [hU]; exact hz.1, va_K.moved hW.alike X.2.2.2.2.2.1, hz.2.1.weaken (fun _ _ _ _ => trivial)⟩⟩ rfl hn hl.1 hst (lv_room hcat) d ⟨Nat.zero_le _, Nat.zero_le _⟩) hz.2.2 (fun x _ h => hmono x h) (fun x h => hmono x h) (fun u t H1 locs1 ht hvm hw hB hz1 hk1 hS => ?_)
  subst hw
  subst ht
  exact kk _ _ r hr _ _ ls ⟨hB.1, hB.2.2.weaken (fun _ _ _ h => hmono _ h), hS⟩ hl
end RC
end
