section
-- ===== PART A: goes FIRST, ahead of the names: the tables' words, and 'selects' of the private methods out of them =====
/-- a private method of a class that the tables say can be made, by its rows of tables_1 -/
def lw_okq (q : MethodName × Nat) : Prop := (q.1.cls ≠ "java/lang/invoke/MethodHandle" ∧ q.1.cls ≠ "java/lang/invoke/VarHandle") ∧ Cond.instantiable q.1.cls q.2 ∈ tables_1 ∧ Cond.privateMethod q.1 ∈ tables_1 ∧ Cond.instanceMethod q.1 ∈ tables_1
theorem lw_p0 : lw_okq (⟨"EditionBook", "putOne", "(I)V"⟩, 10) := ⟨⟨by decide +kernel, by decide +kernel⟩, List.mem_of_getElem? (i := 12) (by decide +kernel), List.mem_of_getElem? (i := 198) (by decide +kernel), List.mem_of_getElem? (i := 199) (by decide +kernel)⟩
theorem lw_p1 : lw_okq (⟨"EditionBook", "faultOfTape", "(I)I"⟩, 10) := ⟨⟨by decide +kernel, by decide +kernel⟩, List.mem_of_getElem? (i := 12) (by decide +kernel), List.mem_of_getElem? (i := 222) (by decide +kernel), List.mem_of_getElem? (i := 223) (by decide +kernel)⟩
theorem lw_p2 : lw_okq (⟨"EditionBook$Reader", "codeFault", "(IIZ)I"⟩, 11) := ⟨⟨by decide +kernel, by decide +kernel⟩, List.mem_of_getElem? (i := 20) (by decide +kernel), List.mem_of_getElem? (i := 251) (by decide +kernel), List.mem_of_getElem? (i := 252) (by decide +kernel)⟩
theorem lw_p3 : lw_okq (⟨"EditionBook$Reader", "textAt", "(I)I"⟩, 11) := ⟨⟨by decide +kernel, by decide +kernel⟩, List.mem_of_getElem? (i := 20) (by decide +kernel), List.mem_of_getElem? (i := 255) (by decide +kernel), List.mem_of_getElem? (i := 256) (by decide +kernel)⟩
theorem lw_p4 : lw_okq (⟨"EditionBook$Reader", "isIntRight", "(II)Z"⟩, 11) := ⟨⟨by decide +kernel, by decide +kernel⟩, List.mem_of_getElem? (i := 20) (by decide +kernel), List.mem_of_getElem? (i := 264) (by decide +kernel), List.mem_of_getElem? (i := 265) (by decide +kernel)⟩
theorem lw_p5 : lw_okq (⟨"EditionBook$Reader", "standsFor", "(II)Z"⟩, 11) := ⟨⟨by decide +kernel, by decide +kernel⟩, List.mem_of_getElem? (i := 20) (by decide +kernel), List.mem_of_getElem? (i := 268) (by decide +kernel), List.mem_of_getElem? (i := 269) (by decide +kernel)⟩
theorem lw_p6 : lw_okq (⟨"EditionBook$Reader", "bind", "(I)V"⟩, 11) := ⟨⟨by decide +kernel, by decide +kernel⟩, List.mem_of_getElem? (i := 20) (by decide +kernel), List.mem_of_getElem? (i := 275) (by decide +kernel), List.mem_of_getElem? (i := 276) (by decide +kernel)⟩
theorem lw_p7 : lw_okq (⟨"EditionBook$Reader", "readParent", "()Z"⟩, 11) := ⟨⟨by decide +kernel, by decide +kernel⟩, List.mem_of_getElem? (i := 20) (by decide +kernel), List.mem_of_getElem? (i := 280) (by decide +kernel), List.mem_of_getElem? (i := 281) (by decide +kernel)⟩
theorem lw_p8 : lw_okq (⟨"EditionBook$Reader", "isThere", "(III)Z"⟩, 11) := ⟨⟨by decide +kernel, by decide +kernel⟩, List.mem_of_getElem? (i := 20) (by decide +kernel), List.mem_of_getElem? (i := 284) (by decide +kernel), List.mem_of_getElem? (i := 285) (by decide +kernel)⟩
theorem lw_p9 : lw_okq (⟨"EditionBook$Reader", "readFields", "()I"⟩, 11) := ⟨⟨by decide +kernel, by decide +kernel⟩, List.mem_of_getElem? (i := 20) (by decide +kernel), List.mem_of_getElem? (i := 292) (by decide +kernel), List.mem_of_getElem? (i := 293) (by decide +kernel)⟩
theorem lw_p10 : lw_okq (⟨"EditionBook$Reader", "readMethods", "()I"⟩, 11) := ⟨⟨by decide +kernel, by decide +kernel⟩, List.mem_of_getElem? (i := 20) (by decide +kernel), List.mem_of_getElem? (i := 336) (by decide +kernel), List.mem_of_getElem? (i := 337) (by decide +kernel)⟩
theorem lw_p11 : lw_okq (⟨"EditionBook", "takeTape", "(I)V"⟩, 10) := ⟨⟨by decide +kernel, by decide +kernel⟩, List.mem_of_getElem? (i := 12) (by decide +kernel), List.mem_of_getElem? (i := 347) (by decide +kernel), List.mem_of_getElem? (i := 348) (by decide +kernel)⟩
theorem lw_p12 : lw_okq (⟨"EditionBook", "runCell", "(I)I"⟩, 10) := ⟨⟨by decide +kernel, by decide +kernel⟩, List.mem_of_getElem? (i := 12) (by decide +kernel), List.mem_of_getElem? (i := 352) (by decide +kernel), List.mem_of_getElem? (i := 353) (by decide +kernel)⟩
theorem lw_p13 : lw_okq (⟨"EditionBook$Image", "addEdition", "(I)I"⟩, 4) := ⟨⟨by decide +kernel, by decide +kernel⟩, List.mem_of_getElem? (i := 96) (by decide +kernel), List.mem_of_getElem? (i := 380) (by decide +kernel), List.mem_of_getElem? (i := 381) (by decide +kernel)⟩
theorem lw_p14 : lw_okq (⟨"EditionBook$Image", "inherit", "(II)V"⟩, 4) := ⟨⟨by decide +kernel, by decide +kernel⟩, List.mem_of_getElem? (i := 96) (by decide +kernel), List.mem_of_getElem? (i := 384) (by decide +kernel), List.mem_of_getElem? (i := 385) (by decide +kernel)⟩
theorem lw_p15 : lw_okq (⟨"EditionBook$Worker", "openFrame", "(III)I"⟩, 9) := ⟨⟨by decide +kernel, by decide +kernel⟩, List.mem_of_getElem? (i := 90) (by decide +kernel), List.mem_of_getElem? (i := 395) (by decide +kernel), List.mem_of_getElem? (i := 396) (by decide +kernel)⟩
def lw_privs_1 : List (MethodName × Nat) := [(⟨"EditionBook", "putOne", "(I)V"⟩, 10), (⟨"EditionBook", "faultOfTape", "(I)I"⟩, 10), (⟨"EditionBook$Reader", "codeFault", "(IIZ)I"⟩, 11), (⟨"EditionBook$Reader", "textAt", "(I)I"⟩, 11), (⟨"EditionBook$Reader", "isIntRight", "(II)Z"⟩, 11), (⟨"EditionBook$Reader", "standsFor", "(II)Z"⟩, 11), (⟨"EditionBook$Reader", "bind", "(I)V"⟩, 11), (⟨"EditionBook$Reader", "readParent", "()Z"⟩, 11), (⟨"EditionBook$Reader", "isThere", "(III)Z"⟩, 11), (⟨"EditionBook$Reader", "readFields", "()I"⟩, 11), (⟨"EditionBook$Reader", "readMethods", "()I"⟩, 11), (⟨"EditionBook", "takeTape", "(I)V"⟩, 10), (⟨"EditionBook", "runCell", "(I)I"⟩, 10), (⟨"EditionBook$Image", "addEdition", "(I)I"⟩, 4), (⟨"EditionBook$Image", "inherit", "(II)V"⟩, 4), (⟨"EditionBook$Worker", "openFrame", "(III)I"⟩, 9)]
theorem lw_r1 : ∀ q ∈ lw_privs_1, lw_okq q := List.forall_mem_cons.mpr ⟨lw_p0, List.forall_mem_cons.mpr ⟨lw_p1, List.forall_mem_cons.mpr ⟨lw_p2, List.forall_mem_cons.mpr ⟨lw_p3, List.forall_mem_cons.mpr ⟨lw_p4, List.forall_mem_cons.mpr ⟨lw_p5, List.forall_mem_cons.mpr ⟨lw_p6, List.forall_mem_cons.mpr ⟨lw_p7, List.forall_mem_cons.mpr ⟨lw_p8, List.forall_mem_cons.mpr ⟨lw_p9, List.forall_mem_cons.mpr ⟨lw_p10, List.forall_mem_cons.mpr ⟨lw_p11, List.forall_mem_cons.mpr ⟨lw_p12, List.forall_mem_cons.mpr ⟨lw_p13, List.forall_mem_cons.mpr ⟨lw_p14, List.forall_mem_cons.mpr ⟨lw_p15, fun _ h => absurd h List.not_mem_nil⟩⟩⟩⟩⟩⟩⟩⟩⟩⟩⟩⟩⟩⟩⟩⟩
theorem lw_p16 : lw_okq (⟨"EditionBook$Worker", "closeFrame", "()I"⟩, 9) := ⟨⟨by decide +kernel, by decide +kernel⟩, List.mem_of_getElem? (i := 90) (by decide +kernel), List.mem_of_getElem? (i := 408) (by decide +kernel), List.mem_of_getElem? (i := 409) (by decide +kernel)⟩
theorem lw_p17 : lw_okq (⟨"EditionBook$Worker", "make", "(I)I"⟩, 9) := ⟨⟨by decide +kernel, by decide +kernel⟩, List.mem_of_getElem? (i := 90) (by decide +kernel), List.mem_of_getElem? (i := 416) (by decide +kernel), List.mem_of_getElem? (i := 417) (by decide +kernel)⟩
theorem lw_p18 : lw_okq (⟨"EditionBook$Image", "nextToStart", "(I)I"⟩, 4) := ⟨⟨by decide +kernel, by decide +kernel⟩, List.mem_of_getElem? (i := 96) (by decide +kernel), List.mem_of_getElem? (i := 428) (by decide +kernel), List.mem_of_getElem? (i := 429) (by decide +kernel)⟩
theorem lw_p19 : lw_okq (⟨"EditionBook$Worker", "takeAndPut", "(III)I"⟩, 9) := ⟨⟨by decide +kernel, by decide +kernel⟩, List.mem_of_getElem? (i := 90) (by decide +kernel), List.mem_of_getElem? (i := 436) (by decide +kernel), List.mem_of_getElem? (i := 437) (by decide +kernel)⟩
theorem lw_p20 : lw_okq (⟨"EditionBook$Worker", "isDeep", "()Z"⟩, 9) := ⟨⟨by decide +kernel, by decide +kernel⟩, List.mem_of_getElem? (i := 90) (by decide +kernel), List.mem_of_getElem? (i := 440) (by decide +kernel), List.mem_of_getElem? (i := 441) (by decide +kernel)⟩
theorem lw_p21 : lw_okq (⟨"EditionBook$Worker", "breakStarts", "()Z"⟩, 9) := ⟨⟨by decide +kernel, by decide +kernel⟩, List.mem_of_getElem? (i := 90) (by decide +kernel), List.mem_of_getElem? (i := 444) (by decide +kernel), List.mem_of_getElem? (i := 445) (by decide +kernel)⟩
theorem lw_p22 : lw_okq (⟨"EditionBook$Worker", "act", "(I)I"⟩, 9) := ⟨⟨by decide +kernel, by decide +kernel⟩, List.mem_of_getElem? (i := 90) (by decide +kernel), List.mem_of_getElem? (i := 448) (by decide +kernel), List.mem_of_getElem? (i := 449) (by decide +kernel)⟩
theorem lw_p23 : lw_okq (⟨"EditionBook$Worker", "codeAt", "(II)I"⟩, 9) := ⟨⟨by decide +kernel, by decide +kernel⟩, List.mem_of_getElem? (i := 90) (by decide +kernel), List.mem_of_getElem? (i := 452) (by decide +kernel), List.mem_of_getElem? (i := 453) (by decide +kernel)⟩
theorem lw_p24 : lw_okq (⟨"EditionBook$Worker", "isLastOf", "(I)Z"⟩, 9) := ⟨⟨by decide +kernel, by decide +kernel⟩, List.mem_of_getElem? (i := 90) (by decide +kernel), List.mem_of_getElem? (i := 457) (by decide +kernel), List.mem_of_getElem? (i := 458) (by decide +kernel)⟩
theorem lw_p25 : lw_okq (⟨"EditionBook$Worker", "kindAt", "(I)I"⟩, 9) := ⟨⟨by decide +kernel, by decide +kernel⟩, List.mem_of_getElem? (i := 90) (by decide +kernel), List.mem_of_getElem? (i := 461) (by decide +kernel), List.mem_of_getElem? (i := 462) (by decide +kernel)⟩
theorem lw_p26 : lw_okq (⟨"EditionBook$Worker", "numberAt", "(I)I"⟩, 9) := ⟨⟨by decide +kernel, by decide +kernel⟩, List.mem_of_getElem? (i := 90) (by decide +kernel), List.mem_of_getElem? (i := 465) (by decide +kernel), List.mem_of_getElem? (i := 466) (by decide +kernel)⟩
theorem lw_p27 : lw_okq (⟨"EditionBook$Worker", "readField", "(I)I"⟩, 9) := ⟨⟨by decide +kernel, by decide +kernel⟩, List.mem_of_getElem? (i := 90) (by decide +kernel), List.mem_of_getElem? (i := 473) (by decide +kernel), List.mem_of_getElem? (i := 474) (by decide +kernel)⟩
theorem lw_p28 : lw_okq (⟨"EditionBook$Worker", "writeField", "(I)I"⟩, 9) := ⟨⟨by decide +kernel, by decide +kernel⟩, List.mem_of_getElem? (i := 90) (by decide +kernel), List.mem_of_getElem? (i := 481) (by decide +kernel), List.mem_of_getElem? (i := 482) (by decide +kernel)⟩
theorem lw_p29 : lw_okq (⟨"EditionBook$Worker", "callMethod", "(I)I"⟩, 9) := ⟨⟨by decide +kernel, by decide +kernel⟩, List.mem_of_getElem? (i := 90) (by decide +kernel), List.mem_of_getElem? (i := 489) (by decide +kernel), List.mem_of_getElem? (i := 490) (by decide +kernel)⟩
theorem lw_p30 : lw_okq (⟨"EditionBook$Worker", "isSame", "()Z"⟩, 9) := ⟨⟨by decide +kernel, by decide +kernel⟩, List.mem_of_getElem? (i := 90) (by decide +kernel), List.mem_of_getElem? (i := 493) (by decide +kernel), List.mem_of_getElem? (i := 494) (by decide +kernel)⟩
theorem lw_p31 : lw_okq (⟨"EditionBook$Worker", "choose", "()I"⟩, 9) := ⟨⟨by decide +kernel, by decide +kernel⟩, List.mem_of_getElem? (i := 90) (by decide +kernel), List.mem_of_getElem? (i := 497) (by decide +kernel), List.mem_of_getElem? (i := 498) (by decide +kernel)⟩
def lw_privs_2 : List (MethodName × Nat) := [(⟨"EditionBook$Worker", "closeFrame", "()I"⟩, 9), (⟨"EditionBook$Worker", "make", "(I)I"⟩, 9), (⟨"EditionBook$Image", "nextToStart", "(I)I"⟩, 4), (⟨"EditionBook$Worker", "takeAndPut", "(III)I"⟩, 9), (⟨"EditionBook$Worker", "isDeep", "()Z"⟩, 9), (⟨"EditionBook$Worker", "breakStarts", "()Z"⟩, 9), (⟨"EditionBook$Worker", "act", "(I)I"⟩, 9), (⟨"EditionBook$Worker", "codeAt", "(II)I"⟩, 9), (⟨"EditionBook$Worker", "isLastOf", "(I)Z"⟩, 9), (⟨"EditionBook$Worker", "kindAt", "(I)I"⟩, 9), (⟨"EditionBook$Worker", "numberAt", "(I)I"⟩, 9), (⟨"EditionBook$Worker", "readField", "(I)I"⟩, 9), (⟨"EditionBook$Worker", "writeField", "(I)I"⟩, 9), (⟨"EditionBook$Worker", "callMethod", "(I)I"⟩, 9), (⟨"EditionBook$Worker", "isSame", "()Z"⟩, 9), (⟨"EditionBook$Worker", "choose", "()I"⟩, 9)]
theorem lw_r2 : ∀ q ∈ lw_privs_2, lw_okq q := List.forall_mem_cons.mpr ⟨lw_p16, List.forall_mem_cons.mpr ⟨lw_p17, List.forall_mem_cons.mpr ⟨lw_p18, List.forall_mem_cons.mpr ⟨lw_p19, List.forall_mem_cons.mpr ⟨lw_p20, List.forall_mem_cons.mpr ⟨lw_p21, List.forall_mem_cons.mpr ⟨lw_p22, List.forall_mem_cons.mpr ⟨lw_p23, List.forall_mem_cons.mpr ⟨lw_p24, List.forall_mem_cons.mpr ⟨lw_p25, List.forall_mem_cons.mpr ⟨lw_p26, List.forall_mem_cons.mpr ⟨lw_p27, List.forall_mem_cons.mpr ⟨lw_p28, List.forall_mem_cons.mpr ⟨lw_p29, List.forall_mem_cons.mpr ⟨lw_p30, List.forall_mem_cons.mpr ⟨lw_p31, fun _ h => absurd h List.not_mem_nil⟩⟩⟩⟩⟩⟩⟩⟩⟩⟩⟩⟩⟩⟩⟩⟩
theorem lw_p32 : lw_okq (⟨"EditionBook$Worker", "write", "()I"⟩, 9) := ⟨⟨by decide +kernel, by decide +kernel⟩, List.mem_of_getElem? (i := 90) (by decide +kernel), List.mem_of_getElem? (i := 501) (by decide +kernel), List.mem_of_getElem? (i := 502) (by decide +kernel)⟩
theorem lw_p33 : lw_okq (⟨"EditionBook$Worker", "reckon", "(I)I"⟩, 9) := ⟨⟨by decide +kernel, by decide +kernel⟩, List.mem_of_getElem? (i := 90) (by decide +kernel), List.mem_of_getElem? (i := 506) (by decide +kernel), List.mem_of_getElem? (i := 507) (by decide +kernel)⟩
theorem lw_p34 : lw_okq (⟨"EditionBook", "noteRun", "(III)V"⟩, 10) := ⟨⟨by decide +kernel, by decide +kernel⟩, List.mem_of_getElem? (i := 12) (by decide +kernel), List.mem_of_getElem? (i := 522) (by decide +kernel), List.mem_of_getElem? (i := 523) (by decide +kernel)⟩
theorem lw_p35 : lw_okq (⟨"EditionBook", "faultOfCell", "(I)I"⟩, 10) := ⟨⟨by decide +kernel, by decide +kernel⟩, List.mem_of_getElem? (i := 12) (by decide +kernel), List.mem_of_getElem? (i := 535) (by decide +kernel), List.mem_of_getElem? (i := 536) (by decide +kernel)⟩
theorem lw_p36 : lw_okq (⟨"EditionBook$Image", "isStaleBy", "(JI)Z"⟩, 4) := ⟨⟨by decide +kernel, by decide +kernel⟩, List.mem_of_getElem? (i := 96) (by decide +kernel), List.mem_of_getElem? (i := 550) (by decide +kernel), List.mem_of_getElem? (i := 551) (by decide +kernel)⟩
theorem lw_p37 : lw_okq (⟨"EditionBook$Image", "leansOnWaiting", "(IJ)Z"⟩, 4) := ⟨⟨by decide +kernel, by decide +kernel⟩, List.mem_of_getElem? (i := 96) (by decide +kernel), List.mem_of_getElem? (i := 568) (by decide +kernel), List.mem_of_getElem? (i := 569) (by decide +kernel)⟩
theorem lw_p38 : lw_okq (⟨"EditionBookModel", "lookAtTape", "(I)I"⟩, 34) := ⟨⟨by decide +kernel, by decide +kernel⟩, List.mem_of_getElem? (i := 681) (by decide +kernel), List.mem_of_getElem? (i := 811) (by decide +kernel), List.mem_of_getElem? (i := 812) (by decide +kernel)⟩
theorem lw_p39 : lw_okq (⟨"EditionBookModel", "looked", "(I)I"⟩, 34) := ⟨⟨by decide +kernel, by decide +kernel⟩, List.mem_of_getElem? (i := 681) (by decide +kernel), List.mem_of_getElem? (i := 815) (by decide +kernel), List.mem_of_getElem? (i := 816) (by decide +kernel)⟩
theorem lw_p40 : lw_okq (⟨"EditionBookModel", "code", "(IIZ)V"⟩, 34) := ⟨⟨by decide +kernel, by decide +kernel⟩, List.mem_of_getElem? (i := 681) (by decide +kernel), List.mem_of_getElem? (i := 819) (by decide +kernel), List.mem_of_getElem? (i := 820) (by decide +kernel)⟩
theorem lw_p41 : lw_okq (⟨"EditionBookModel", "isActRight", "(IIIZ)Z"⟩, 34) := ⟨⟨by decide +kernel, by decide +kernel⟩, List.mem_of_getElem? (i := 681) (by decide +kernel), List.mem_of_getElem? (i := 823) (by decide +kernel), List.mem_of_getElem? (i := 824) (by decide +kernel)⟩
theorem lw_p42 : lw_okq (⟨"EditionBookModel", "means", "(III)Z"⟩, 34) := ⟨⟨by decide +kernel, by decide +kernel⟩, List.mem_of_getElem? (i := 681) (by decide +kernel), List.mem_of_getElem? (i := 833) (by decide +kernel), List.mem_of_getElem? (i := 834) (by decide +kernel)⟩
theorem lw_p43 : lw_okq (⟨"EditionBookModel", "wrong", "(I)V"⟩, 34) := ⟨⟨by decide +kernel, by decide +kernel⟩, List.mem_of_getElem? (i := 681) (by decide +kernel), List.mem_of_getElem? (i := 841) (by decide +kernel), List.mem_of_getElem? (i := 842) (by decide +kernel)⟩
theorem lw_p44 : lw_okq (⟨"EditionBookModel", "classText", "()V"⟩, 34) := ⟨⟨by decide +kernel, by decide +kernel⟩, List.mem_of_getElem? (i := 681) (by decide +kernel), List.mem_of_getElem? (i := 845) (by decide +kernel), List.mem_of_getElem? (i := 846) (by decide +kernel)⟩
theorem lw_p45 : lw_okq (⟨"EditionBookModel", "take", "()I"⟩, 34) := ⟨⟨by decide +kernel, by decide +kernel⟩, List.mem_of_getElem? (i := 681) (by decide +kernel), List.mem_of_getElem? (i := 849) (by decide +kernel), List.mem_of_getElem? (i := 850) (by decide +kernel)⟩
theorem lw_p46 : lw_okq (⟨"EditionBookModel", "names", "(IIZ)V"⟩, 34) := ⟨⟨by decide +kernel, by decide +kernel⟩, List.mem_of_getElem? (i := 681) (by decide +kernel), List.mem_of_getElem? (i := 853) (by decide +kernel), List.mem_of_getElem? (i := 854) (by decide +kernel)⟩
theorem lw_p47 : lw_okq (⟨"EditionBookModel", "layText", "(I)V"⟩, 34) := ⟨⟨by decide +kernel, by decide +kernel⟩, List.mem_of_getElem? (i := 681) (by decide +kernel), List.mem_of_getElem? (i := 860) (by decide +kernel), List.mem_of_getElem? (i := 861) (by decide +kernel)⟩
def lw_privs_3 : List (MethodName × Nat) := [(⟨"EditionBook$Worker", "write", "()I"⟩, 9), (⟨"EditionBook$Worker", "reckon", "(I)I"⟩, 9), (⟨"EditionBook", "noteRun", "(III)V"⟩, 10), (⟨"EditionBook", "faultOfCell", "(I)I"⟩, 10), (⟨"EditionBook$Image", "isStaleBy", "(JI)Z"⟩, 4), (⟨"EditionBook$Image", "leansOnWaiting", "(IJ)Z"⟩, 4), (⟨"EditionBookModel", "lookAtTape", "(I)I"⟩, 34), (⟨"EditionBookModel", "looked", "(I)I"⟩, 34), (⟨"EditionBookModel", "code", "(IIZ)V"⟩, 34), (⟨"EditionBookModel", "isActRight", "(IIIZ)Z"⟩, 34), (⟨"EditionBookModel", "means", "(III)Z"⟩, 34), (⟨"EditionBookModel", "wrong", "(I)V"⟩, 34), (⟨"EditionBookModel", "classText", "()V"⟩, 34), (⟨"EditionBookModel", "take", "()I"⟩, 34), (⟨"EditionBookModel", "names", "(IIZ)V"⟩, 34), (⟨"EditionBookModel", "layText", "(I)V"⟩, 34)]
theorem lw_r3 : ∀ q ∈ lw_privs_3, lw_okq q := List.forall_mem_cons.mpr ⟨lw_p32, List.forall_mem_cons.mpr ⟨lw_p33, List.forall_mem_cons.mpr ⟨lw_p34, List.forall_mem_cons.mpr ⟨lw_p35, List.forall_mem_cons.mpr ⟨lw_p36, List.forall_mem_cons.mpr ⟨lw_p37, List.forall_mem_cons.mpr ⟨lw_p38, List.forall_mem_cons.mpr ⟨lw_p39, List.forall_mem_cons.mpr ⟨lw_p40, List.forall_mem_cons.mpr ⟨lw_p41, List.forall_mem_cons.mpr ⟨lw_p42, List.forall_mem_cons.mpr ⟨lw_p43, List.forall_mem_cons.mpr ⟨lw_p44, List.forall_mem_cons.mpr ⟨lw_p45, List.forall_mem_cons.mpr ⟨lw_p46, List.forall_mem_cons.mpr ⟨lw_p47, fun _ h => absurd h List.not_mem_nil⟩⟩⟩⟩⟩⟩⟩⟩⟩⟩⟩⟩⟩⟩⟩⟩
theorem lw_p48 : lw_okq (⟨"EditionBookModel", "run", "(I)I"⟩, 34) := ⟨⟨by decide +kernel, by decide +kernel⟩, List.mem_of_getElem? (i := 681) (by decide +kernel), List.mem_of_getElem? (i := 864) (by decide +kernel), List.mem_of_getElem? (i := 865) (by decide +kernel)⟩
theorem lw_p49 : lw_okq (⟨"EditionBookModel", "frame", "(IIIII)V"⟩, 34) := ⟨⟨by decide +kernel, by decide +kernel⟩, List.mem_of_getElem? (i := 681) (by decide +kernel), List.mem_of_getElem? (i := 868) (by decide +kernel), List.mem_of_getElem? (i := 869) (by decide +kernel)⟩
theorem lw_p50 : lw_okq (⟨"EditionBookModel", "work", "()V"⟩, 34) := ⟨⟨by decide +kernel, by decide +kernel⟩, List.mem_of_getElem? (i := 681) (by decide +kernel), List.mem_of_getElem? (i := 872) (by decide +kernel), List.mem_of_getElem? (i := 873) (by decide +kernel)⟩
theorem lw_p51 : lw_okq (⟨"EditionBookModel", "finish", "()V"⟩, 34) := ⟨⟨by decide +kernel, by decide +kernel⟩, List.mem_of_getElem? (i := 681) (by decide +kernel), List.mem_of_getElem? (i := 876) (by decide +kernel), List.mem_of_getElem? (i := 877) (by decide +kernel)⟩
theorem lw_p52 : lw_okq (⟨"EditionBookModel", "fail", "(I)V"⟩, 34) := ⟨⟨by decide +kernel, by decide +kernel⟩, List.mem_of_getElem? (i := 681) (by decide +kernel), List.mem_of_getElem? (i := 880) (by decide +kernel), List.mem_of_getElem? (i := 881) (by decide +kernel)⟩
theorem lw_p53 : lw_okq (⟨"EditionBookModel", "act", "()V"⟩, 34) := ⟨⟨by decide +kernel, by decide +kernel⟩, List.mem_of_getElem? (i := 681) (by decide +kernel), List.mem_of_getElem? (i := 884) (by decide +kernel), List.mem_of_getElem? (i := 885) (by decide +kernel)⟩
theorem lw_p54 : lw_okq (⟨"EditionBookModel", "intAt", "(I)I"⟩, 34) := ⟨⟨by decide +kernel, by decide +kernel⟩, List.mem_of_getElem? (i := 681) (by decide +kernel), List.mem_of_getElem? (i := 888) (by decide +kernel), List.mem_of_getElem? (i := 889) (by decide +kernel)⟩
theorem lw_p55 : lw_okq (⟨"EditionBookModel", "textOf", "(II)I"⟩, 34) := ⟨⟨by decide +kernel, by decide +kernel⟩, List.mem_of_getElem? (i := 681) (by decide +kernel), List.mem_of_getElem? (i := 892) (by decide +kernel), List.mem_of_getElem? (i := 893) (by decide +kernel)⟩
theorem lw_p56 : lw_okq (⟨"EditionBookModel", "make", "(I)V"⟩, 34) := ⟨⟨by decide +kernel, by decide +kernel⟩, List.mem_of_getElem? (i := 681) (by decide +kernel), List.mem_of_getElem? (i := 896) (by decide +kernel), List.mem_of_getElem? (i := 897) (by decide +kernel)⟩
theorem lw_p57 : lw_okq (⟨"EditionBookModel", "parentOf", "(I)I"⟩, 34) := ⟨⟨by decide +kernel, by decide +kernel⟩, List.mem_of_getElem? (i := 681) (by decide +kernel), List.mem_of_getElem? (i := 900) (by decide +kernel), List.mem_of_getElem? (i := 901) (by decide +kernel)⟩
theorem lw_p58 : lw_okq (⟨"EditionBookModel", "start", "(I)V"⟩, 34) := ⟨⟨by decide +kernel, by decide +kernel⟩, List.mem_of_getElem? (i := 681) (by decide +kernel), List.mem_of_getElem? (i := 904) (by decide +kernel), List.mem_of_getElem? (i := 905) (by decide +kernel)⟩
theorem lw_p59 : lw_okq (⟨"EditionBookModel", "startPlace", "(I)I"⟩, 34) := ⟨⟨by decide +kernel, by decide +kernel⟩, List.mem_of_getElem? (i := 681) (by decide +kernel), List.mem_of_getElem? (i := 908) (by decide +kernel), List.mem_of_getElem? (i := 909) (by decide +kernel)⟩
theorem lw_p60 : lw_okq (⟨"EditionBookModel", "place0", "(I)I"⟩, 34) := ⟨⟨by decide +kernel, by decide +kernel⟩, List.mem_of_getElem? (i := 681) (by decide +kernel), List.mem_of_getElem? (i := 912) (by decide +kernel), List.mem_of_getElem? (i := 913) (by decide +kernel)⟩
theorem lw_p61 : lw_okq (⟨"EditionBookModel", "methodPlace", "(II)I"⟩, 34) := ⟨⟨by decide +kernel, by decide +kernel⟩, List.mem_of_getElem? (i := 681) (by decide +kernel), List.mem_of_getElem? (i := 916) (by decide +kernel), List.mem_of_getElem? (i := 917) (by decide +kernel)⟩
theorem lw_p62 : lw_okq (⟨"EditionBookModel", "lengthOf", "(I)I"⟩, 34) := ⟨⟨by decide +kernel, by decide +kernel⟩, List.mem_of_getElem? (i := 681) (by decide +kernel), List.mem_of_getElem? (i := 920) (by decide +kernel), List.mem_of_getElem? (i := 921) (by decide +kernel)⟩
theorem lw_p63 : lw_okq (⟨"EditionBookModel", "newObject", "(I)I"⟩, 34) := ⟨⟨by decide +kernel, by decide +kernel⟩, List.mem_of_getElem? (i := 681) (by decide +kernel), List.mem_of_getElem? (i := 924) (by decide +kernel), List.mem_of_getElem? (i := 925) (by decide +kernel)⟩
def lw_privs_4 : List (MethodName × Nat) := [(⟨"EditionBookModel", "run", "(I)I"⟩, 34), (⟨"EditionBookModel", "frame", "(IIIII)V"⟩, 34), (⟨"EditionBookModel", "work", "()V"⟩, 34), (⟨"EditionBookModel", "finish", "()V"⟩, 34), (⟨"EditionBookModel", "fail", "(I)V"⟩, 34), (⟨"EditionBookModel", "act", "()V"⟩, 34), (⟨"EditionBookModel", "intAt", "(I)I"⟩, 34), (⟨"EditionBookModel", "textOf", "(II)I"⟩, 34), (⟨"EditionBookModel", "make", "(I)V"⟩, 34), (⟨"EditionBookModel", "parentOf", "(I)I"⟩, 34), (⟨"EditionBookModel", "start", "(I)V"⟩, 34), (⟨"EditionBookModel", "startPlace", "(I)I"⟩, 34), (⟨"EditionBookModel", "place0", "(I)I"⟩, 34), (⟨"EditionBookModel", "methodPlace", "(II)I"⟩, 34), (⟨"EditionBookModel", "lengthOf", "(I)I"⟩, 34), (⟨"EditionBookModel", "newObject", "(I)I"⟩, 34)]
theorem lw_r4 : ∀ q ∈ lw_privs_4, lw_okq q := List.forall_mem_cons.mpr ⟨lw_p48, List.forall_mem_cons.mpr ⟨lw_p49, List.forall_mem_cons.mpr ⟨lw_p50, List.forall_mem_cons.mpr ⟨lw_p51, List.forall_mem_cons.mpr ⟨lw_p52, List.forall_mem_cons.mpr ⟨lw_p53, List.forall_mem_cons.mpr ⟨lw_p54, List.forall_mem_cons.mpr ⟨lw_p55, List.forall_mem_cons.mpr ⟨lw_p56, List.forall_mem_cons.mpr ⟨lw_p57, List.forall_mem_cons.mpr ⟨lw_p58, List.forall_mem_cons.mpr ⟨lw_p59, List.forall_mem_cons.mpr ⟨lw_p60, List.forall_mem_cons.mpr ⟨lw_p61, List.forall_mem_cons.mpr ⟨lw_p62, List.forall_mem_cons.mpr ⟨lw_p63, fun _ h => absurd h List.not_mem_nil⟩⟩⟩⟩⟩⟩⟩⟩⟩⟩⟩⟩⟩⟩⟩⟩
theorem lw_p64 : lw_okq (⟨"EditionBookModel", "ownField", "(II)I"⟩, 34) := ⟨⟨by decide +kernel, by decide +kernel⟩, List.mem_of_getElem? (i := 681) (by decide +kernel), List.mem_of_getElem? (i := 931) (by decide +kernel), List.mem_of_getElem? (i := 932) (by decide +kernel)⟩
theorem lw_p65 : lw_okq (⟨"EditionBookModel", "push", "(ZI)V"⟩, 34) := ⟨⟨by decide +kernel, by decide +kernel⟩, List.mem_of_getElem? (i := 681) (by decide +kernel), List.mem_of_getElem? (i := 935) (by decide +kernel), List.mem_of_getElem? (i := 936) (by decide +kernel)⟩
theorem lw_p66 : lw_okq (⟨"EditionBookModel", "ask", "(II)V"⟩, 34) := ⟨⟨by decide +kernel, by decide +kernel⟩, List.mem_of_getElem? (i := 681) (by decide +kernel), List.mem_of_getElem? (i := 939) (by decide +kernel), List.mem_of_getElem? (i := 940) (by decide +kernel)⟩
theorem lw_p67 : lw_okq (⟨"EditionBookModel", "isBelow", "(II)Z"⟩, 34) := ⟨⟨by decide +kernel, by decide +kernel⟩, List.mem_of_getElem? (i := 681) (by decide +kernel), List.mem_of_getElem? (i := 943) (by decide +kernel), List.mem_of_getElem? (i := 944) (by decide +kernel)⟩
theorem lw_p68 : lw_okq (⟨"EditionBookModel", "ofObject", "(II)V"⟩, 34) := ⟨⟨by decide +kernel, by decide +kernel⟩, List.mem_of_getElem? (i := 681) (by decide +kernel), List.mem_of_getElem? (i := 947) (by decide +kernel), List.mem_of_getElem? (i := 948) (by decide +kernel)⟩
theorem lw_p69 : lw_okq (⟨"EditionBookModel", "method", "(II)V"⟩, 34) := ⟨⟨by decide +kernel, by decide +kernel⟩, List.mem_of_getElem? (i := 681) (by decide +kernel), List.mem_of_getElem? (i := 951) (by decide +kernel), List.mem_of_getElem? (i := 952) (by decide +kernel)⟩
theorem lw_p70 : lw_okq (⟨"EditionBookModel", "ownMethod", "(II)I"⟩, 34) := ⟨⟨by decide +kernel, by decide +kernel⟩, List.mem_of_getElem? (i := 681) (by decide +kernel), List.mem_of_getElem? (i := 955) (by decide +kernel), List.mem_of_getElem? (i := 956) (by decide +kernel)⟩
theorem lw_p71 : lw_okq (⟨"EditionBookModel", "reckon", "(I)V"⟩, 34) := ⟨⟨by decide +kernel, by decide +kernel⟩, List.mem_of_getElem? (i := 681) (by decide +kernel), List.mem_of_getElem? (i := 959) (by decide +kernel), List.mem_of_getElem? (i := 960) (by decide +kernel)⟩
theorem lw_p72 : lw_okq (⟨"EditionBookModel", "choose", "()V"⟩, 34) := ⟨⟨by decide +kernel, by decide +kernel⟩, List.mem_of_getElem? (i := 681) (by decide +kernel), List.mem_of_getElem? (i := 963) (by decide +kernel), List.mem_of_getElem? (i := 964) (by decide +kernel)⟩
theorem lw_p73 : lw_okq (⟨"EditionBookModel", "write", "()V"⟩, 34) := ⟨⟨by decide +kernel, by decide +kernel⟩, List.mem_of_getElem? (i := 681) (by decide +kernel), List.mem_of_getElem? (i := 967) (by decide +kernel), List.mem_of_getElem? (i := 968) (by decide +kernel)⟩
theorem lw_p74 : lw_okq (⟨"EditionBookModel", "newEdition", "(I)I"⟩, 34) := ⟨⟨by decide +kernel, by decide +kernel⟩, List.mem_of_getElem? (i := 681) (by decide +kernel), List.mem_of_getElem? (i := 971) (by decide +kernel), List.mem_of_getElem? (i := 972) (by decide +kernel)⟩
theorem lw_p75 : lw_okq (⟨"EditionBookModel", "isCell", "(I)Z"⟩, 34) := ⟨⟨by decide +kernel, by decide +kernel⟩, List.mem_of_getElem? (i := 681) (by decide +kernel), List.mem_of_getElem? (i := 979) (by decide +kernel), List.mem_of_getElem? (i := 980) (by decide +kernel)⟩
theorem lw_p76 : lw_okq (⟨"EditionBookModel", "lookAtCell", "(I)I"⟩, 34) := ⟨⟨by decide +kernel, by decide +kernel⟩, List.mem_of_getElem? (i := 681) (by decide +kernel), List.mem_of_getElem? (i := 987) (by decide +kernel), List.mem_of_getElem? (i := 988) (by decide +kernel)⟩
theorem lw_p77 : lw_okq (⟨"EditionBookModel", "tellStale", "()V"⟩, 34) := ⟨⟨by decide +kernel, by decide +kernel⟩, List.mem_of_getElem? (i := 681) (by decide +kernel), List.mem_of_getElem? (i := 995) (by decide +kernel), List.mem_of_getElem? (i := 996) (by decide +kernel)⟩
theorem lw_p78 : lw_okq (⟨"EditionBookModel", "isFree", "(I)Z"⟩, 34) := ⟨⟨by decide +kernel, by decide +kernel⟩, List.mem_of_getElem? (i := 681) (by decide +kernel), List.mem_of_getElem? (i := 999) (by decide +kernel), List.mem_of_getElem? (i := 1000) (by decide +kernel)⟩
theorem lw_p79 : lw_okq (⟨"EditionBookModel", "isEdition", "(I)Z"⟩, 34) := ⟨⟨by decide +kernel, by decide +kernel⟩, List.mem_of_getElem? (i := 681) (by decide +kernel), List.mem_of_getElem? (i := 1031) (by decide +kernel), List.mem_of_getElem? (i := 1032) (by decide +kernel)⟩
def lw_privs_5 : List (MethodName × Nat) := [(⟨"EditionBookModel", "ownField", "(II)I"⟩, 34), (⟨"EditionBookModel", "push", "(ZI)V"⟩, 34), (⟨"EditionBookModel", "ask", "(II)V"⟩, 34), (⟨"EditionBookModel", "isBelow", "(II)Z"⟩, 34), (⟨"EditionBookModel", "ofObject", "(II)V"⟩, 34), (⟨"EditionBookModel", "method", "(II)V"⟩, 34), (⟨"EditionBookModel", "ownMethod", "(II)I"⟩, 34), (⟨"EditionBookModel", "reckon", "(I)V"⟩, 34), (⟨"EditionBookModel", "choose", "()V"⟩, 34), (⟨"EditionBookModel", "write", "()V"⟩, 34), (⟨"EditionBookModel", "newEdition", "(I)I"⟩, 34), (⟨"EditionBookModel", "isCell", "(I)Z"⟩, 34), (⟨"EditionBookModel", "lookAtCell", "(I)I"⟩, 34), (⟨"EditionBookModel", "tellStale", "()V"⟩, 34), (⟨"EditionBookModel", "isFree", "(I)Z"⟩, 34), (⟨"EditionBookModel", "isEdition", "(I)Z"⟩, 34)]
theorem lw_r5 : ∀ q ∈ lw_privs_5, lw_okq q := List.forall_mem_cons.mpr ⟨lw_p64, List.forall_mem_cons.mpr ⟨lw_p65, List.forall_mem_cons.mpr ⟨lw_p66, List.forall_mem_cons.mpr ⟨lw_p67, List.forall_mem_cons.mpr ⟨lw_p68, List.forall_mem_cons.mpr ⟨lw_p69, List.forall_mem_cons.mpr ⟨lw_p70, List.forall_mem_cons.mpr ⟨lw_p71, List.forall_mem_cons.mpr ⟨lw_p72, List.forall_mem_cons.mpr ⟨lw_p73, List.forall_mem_cons.mpr ⟨lw_p74, List.forall_mem_cons.mpr ⟨lw_p75, List.forall_mem_cons.mpr ⟨lw_p76, List.forall_mem_cons.mpr ⟨lw_p77, List.forall_mem_cons.mpr ⟨lw_p78, List.forall_mem_cons.mpr ⟨lw_p79, fun _ h => absurd h List.not_mem_nil⟩⟩⟩⟩⟩⟩⟩⟩⟩⟩⟩⟩⟩⟩⟩⟩
theorem lw_p80 : lw_okq (⟨"EditionBookModel", "isObject", "(I)Z"⟩, 34) := ⟨⟨by decide +kernel, by decide +kernel⟩, List.mem_of_getElem? (i := 681) (by decide +kernel), List.mem_of_getElem? (i := 1039) (by decide +kernel), List.mem_of_getElem? (i := 1040) (by decide +kernel)⟩
theorem lw_p81 : lw_okq (⟨"EditionBookModel", "isClass", "(I)Z"⟩, 34) := ⟨⟨by decide +kernel, by decide +kernel⟩, List.mem_of_getElem? (i := 681) (by decide +kernel), List.mem_of_getElem? (i := 1051) (by decide +kernel), List.mem_of_getElem? (i := 1052) (by decide +kernel)⟩
def lw_privs_6 : List (MethodName × Nat) := [(⟨"EditionBookModel", "isObject", "(I)Z"⟩, 34), (⟨"EditionBookModel", "isClass", "(I)Z"⟩, 34)]
theorem lw_r6 : ∀ q ∈ lw_privs_6, lw_okq q := List.forall_mem_cons.mpr ⟨lw_p80, List.forall_mem_cons.mpr ⟨lw_p81, fun _ h => absurd h List.not_mem_nil⟩⟩
def lw_privs : List (MethodName × Nat) := lw_privs_1 ++ (lw_privs_2 ++ (lw_privs_3 ++ (lw_privs_4 ++ (lw_privs_5 ++ (lw_privs_6)))))
def lw_tbl : List Cond := k2_sels lw_privs ++ tables_1
theorem lw_privs_ok : ∀ q ∈ lw_privs, lw_okq q := by
  show ∀ q ∈ lw_privs_1 ++ (lw_privs_2 ++ (lw_privs_3 ++ (lw_privs_4 ++ (lw_privs_5 ++ (lw_privs_6))))), lw_okq q
  exact List.forall_mem_append.mpr ⟨lw_r1, List.forall_mem_append.mpr ⟨lw_r2, List.forall_mem_append.mpr ⟨lw_r3, List.forall_mem_append.mpr ⟨lw_r4, List.forall_mem_append.mpr ⟨lw_r5, lw_r6⟩⟩⟩⟩⟩
end
section
def RX0 : String := "EditionBook$Image"
def TX0 : u_T := fun k => match k with
  | 0 => ("EditionBook$Image", "cells", "LEditionBook$Table;", true)
  | 1 => ("EditionBook$Image", "editions", "LEditionBook$Table;", true)
  | 2 => ("EditionBook$Image", "objects", "LEditionBook$Table;", true)
  | _ => ("EditionBook$Image", "newestOfName", "[I", true)
def tyX0 : Nat → FieldType := fun k => match k with
  | 0 => .object "EditionBook$Table"
  | 1 => .object "EditionBook$Table"
  | 2 => .object "EditionBook$Table"
  | _ => .array .int
abbrev wsX00 : List Cond := u_ws RX0 TX0 4
theorem nmX0 : ∀ a, a < 4 → ∀ b, b < 4 → a ≠ b → (TX0 a).2.1 ≠ (TX0 b).2.1 := by decide +kernel
theorem tyX0_ok : ∀ k, k < 4 → parseFieldDescriptor (TX0 k).2.2.1 = some (tyX0 k) := by decide +kernel
abbrev cX0_init : ByteArray := prog_2_method_1_code
def yX0_init : MethodName := ⟨RX0, "<init>", "()V"⟩
abbrev cX0_copyFrom : ByteArray := prog_2_method_2_code
def yX0_copyFrom : MethodName := ⟨RX0, "copyFrom", "(LEditionBook$Image;)V"⟩
abbrev cX0_newestOf : ByteArray := prog_2_method_3_code
def yX0_newestOf : MethodName := ⟨RX0, "newestOf", "(I)I"⟩
abbrev cX0_dropNewest : ByteArray := prog_2_method_4_code
def yX0_dropNewest : MethodName := ⟨RX0, "dropNewest", "(I)Z"⟩
abbrev cX0_isNewest : ByteArray := prog_2_method_5_code
def yX0_isNewest : MethodName := ⟨RX0, "isNewest", "(I)Z"⟩
abbrev cX0_isFullOfEditions : ByteArray := prog_2_method_6_code
def yX0_isFullOfEditions : MethodName := ⟨RX0, "isFullOfEditions", "()Z"⟩
abbrev cX0_isClass : ByteArray := prog_2_method_7_code
def yX0_isClass : MethodName := ⟨RX0, "isClass", "(I)Z"⟩
abbrev cX0_addEdition : ByteArray := prog_2_method_8_code
def yX0_addEdition : MethodName := ⟨RX0, "addEdition", "(I)I"⟩
abbrev cX0_addValue : ByteArray := prog_2_method_9_code
def yX0_addValue : MethodName := ⟨RX0, "addValue", "(III)I"⟩
abbrev cX0_addClass : ByteArray := prog_2_method_10_code
def yX0_addClass : MethodName := ⟨RX0, "addClass", "(ILEditionBook$Reader;)I"⟩
abbrev cX0_inherit : ByteArray := prog_2_method_11_code
def yX0_inherit : MethodName := ⟨RX0, "inherit", "(II)V"⟩
abbrev cX0_countOlder : ByteArray := prog_2_method_12_code
def yX0_countOlder : MethodName := ⟨RX0, "countOlder", "(I)I"⟩
abbrev cX0_countMadeOf : ByteArray := prog_2_method_13_code
def yX0_countMadeOf : MethodName := ⟨RX0, "countMadeOf", "(I)I"⟩
abbrev cX0_isBelow : ByteArray := prog_2_method_14_code
def yX0_isBelow : MethodName := ⟨RX0, "isBelow", "(II)Z"⟩
abbrev cX0_hasBrokenStart : ByteArray := prog_2_method_15_code
def yX0_hasBrokenStart : MethodName := ⟨RX0, "hasBrokenStart", "(I)Z"⟩
abbrev cX0_nextToStart : ByteArray := prog_2_method_16_code
def yX0_nextToStart : MethodName := ⟨RX0, "nextToStart", "(I)I"⟩
abbrev cX0_beginUpToStart : ByteArray := prog_2_method_17_code
def yX0_beginUpToStart : MethodName := ⟨RX0, "beginUpToStart", "(I)I"⟩
abbrev cX0_addObject : ByteArray := prog_2_method_18_code
def yX0_addObject : MethodName := ⟨RX0, "addObject", "(I)I"⟩
abbrev cX0_hasField : ByteArray := prog_2_method_19_code
def yX0_hasField : MethodName := ⟨RX0, "hasField", "(II)Z"⟩
abbrev cX0_setField : ByteArray := prog_2_method_20_code
def yX0_setField : MethodName := ⟨RX0, "setField", "(IIII)V"⟩
abbrev cX0_carryFields : ByteArray := prog_2_method_21_code
def yX0_carryFields : MethodName := ⟨RX0, "carryFields", "(II)V"⟩
abbrev cX0_addCell : ByteArray := prog_2_method_22_code
def yX0_addCell : MethodName := ⟨RX0, "addCell", "(II)I"⟩
abbrev cX0_leanOf : ByteArray := prog_2_method_23_code
def yX0_leanOf : MethodName := ⟨RX0, "leanOf", "(II)I"⟩
abbrev cX0_noteLeans : ByteArray := prog_2_method_24_code
def yX0_noteLeans : MethodName := ⟨RX0, "noteLeans", "(II)V"⟩
abbrev cX0_isMarked : ByteArray := prog_2_method_25_code
def yX0_isMarked : MethodName := ⟨RX0, "isMarked", "(JI)Z"⟩
abbrev cX0_staleCells : ByteArray := prog_2_method_26_code
def yX0_staleCells : MethodName := ⟨RX0, "staleCells", "()J"⟩
abbrev cX0_isStaleBy : ByteArray := prog_2_method_27_code
def yX0_isStaleBy : MethodName := ⟨RX0, "isStaleBy", "(JI)Z"⟩
abbrev cX0_nextToRun : ByteArray := prog_2_method_28_code
def yX0_nextToRun : MethodName := ⟨RX0, "nextToRun", "(J)I"⟩
abbrev cX0_leansOnWaiting : ByteArray := prog_2_method_29_code
def yX0_leansOnWaiting : MethodName := ⟨RX0, "leansOnWaiting", "(IJ)Z"⟩
def RX1 : String := "EditionBook$Reader"
def TX1 : u_T := fun k => match k with
  | 0 => ("EditionBook$Reader", "fields", "LEditionBook$Table;", true)
  | 1 => ("EditionBook$Reader", "methods", "LEditionBook$Table;", true)
  | 2 => ("EditionBook$Reader", "length", "I", false)
  | 3 => ("EditionBook$Reader", "used", "I", false)
  | 4 => ("EditionBook$Reader", "parent", "I", false)
  | 5 => ("EditionBook$Reader", "startFrom", "I", false)
  | 6 => ("EditionBook$Reader", "newest", "[I", true)
  | 7 => ("EditionBook$Reader", "sorts", "[I", true)
  | 8 => ("EditionBook$Reader", "text", "[I", true)
  | 9 => ("EditionBook$Reader", "bound", "[I", true)
  | _ => ("EditionBook$Reader", "at", "I", false)
def tyX1 : Nat → FieldType := fun k => match k with
  | 0 => .object "EditionBook$Table"
  | 1 => .object "EditionBook$Table"
  | 2 => .int
  | 3 => .int
  | 4 => .int
  | 5 => .int
  | 6 => .array .int
  | 7 => .array .int
  | 8 => .array .int
  | 9 => .array .int
  | _ => .int
abbrev wsX10 : List Cond := u_ws RX1 TX1 11
theorem nmX1 : ∀ a, a < 11 → ∀ b, b < 11 → a ≠ b → (TX1 a).2.1 ≠ (TX1 b).2.1 := by decide +kernel
theorem tyX1_ok : ∀ k, k < 11 → parseFieldDescriptor (TX1 k).2.2.1 = some (tyX1 k) := by decide +kernel
abbrev cX1_init : ByteArray := prog_3_method_1_code
def yX1_init : MethodName := ⟨RX1, "<init>", "()V"⟩
abbrev cX1_open : ByteArray := prog_3_method_2_code
def yX1_open : MethodName := ⟨RX1, "open", "(LEditionBook$Image;)V"⟩
abbrev cX1_addInt : ByteArray := prog_3_method_3_code
def yX1_addInt : MethodName := ⟨RX1, "addInt", "(I)V"⟩
abbrev cX1_boundAt : ByteArray := prog_3_method_4_code
def yX1_boundAt : MethodName := ⟨RX1, "boundAt", "(I)I"⟩
abbrev cX1_findFault : ByteArray := prog_3_method_5_code
def yX1_findFault : MethodName := ⟨RX1, "findFault", "(I)I"⟩
abbrev cX1_textAt : ByteArray := prog_3_method_6_code
def yX1_textAt : MethodName := ⟨RX1, "textAt", "(I)I"⟩
abbrev cX1_isThere : ByteArray := prog_3_method_7_code
def yX1_isThere : MethodName := ⟨RX1, "isThere", "(III)Z"⟩
abbrev cX1_readParent : ByteArray := prog_3_method_8_code
def yX1_readParent : MethodName := ⟨RX1, "readParent", "()Z"⟩
abbrev cX1_readFields : ByteArray := prog_3_method_9_code
def yX1_readFields : MethodName := ⟨RX1, "readFields", "()I"⟩
abbrev cX1_readMethods : ByteArray := prog_3_method_10_code
def yX1_readMethods : MethodName := ⟨RX1, "readMethods", "()I"⟩
abbrev cX1_codeFault : ByteArray := prog_3_method_11_code
def yX1_codeFault : MethodName := ⟨RX1, "codeFault", "(IIZ)I"⟩
abbrev cX1_sizeOf : ByteArray := prog_3_method_12_code
def yX1_sizeOf : MethodName := ⟨RX1, "sizeOf", "(I)I"⟩
abbrev cX1_usesName : ByteArray := prog_3_method_13_code
def yX1_usesName : MethodName := ⟨RX1, "usesName", "(I)Z"⟩
abbrev cX1_isIntRight : ByteArray := prog_3_method_14_code
def yX1_isIntRight : MethodName := ⟨RX1, "isIntRight", "(II)Z"⟩
abbrev cX1_standsFor : ByteArray := prog_3_method_15_code
def yX1_standsFor : MethodName := ⟨RX1, "standsFor", "(II)Z"⟩
abbrev cX1_bind : ByteArray := prog_3_method_16_code
def yX1_bind : MethodName := ⟨RX1, "bind", "(I)V"⟩
def RX2 : String := "EditionBook$Table"
def TX2 : u_T := fun k => match k with
  | 0 => ("EditionBook$Table", "width", "I", true)
  | 1 => ("EditionBook$Table", "most", "I", true)
  | 2 => ("EditionBook$Table", "ints", "[I", false)
  | _ => ("EditionBook$Table", "rows", "I", false)
def tyX2 : Nat → FieldType := fun k => match k with
  | 0 => .int
  | 1 => .int
  | 2 => .array .int
  | _ => .int
abbrev wsX20 : List Cond := u_ws RX2 TX2 4
theorem nmX2 : ∀ a, a < 4 → ∀ b, b < 4 → a ≠ b → (TX2 a).2.1 ≠ (TX2 b).2.1 := by decide +kernel
theorem tyX2_ok : ∀ k, k < 4 → parseFieldDescriptor (TX2 k).2.2.1 = some (tyX2 k) := by decide +kernel
abbrev cX2_init : ByteArray := prog_4_method_1_code
def yX2_init : MethodName := ⟨RX2, "<init>", "(II)V"⟩
abbrev cX2_size : ByteArray := prog_4_method_2_code
def yX2_size : MethodName := ⟨RX2, "size", "()I"⟩
abbrev cX2_has : ByteArray := prog_4_method_3_code
def yX2_has : MethodName := ⟨RX2, "has", "(I)Z"⟩
abbrev cX2_get : ByteArray := prog_4_method_4_code
def yX2_get : MethodName := ⟨RX2, "get", "(II)I"⟩
abbrev cX2_set : ByteArray := prog_4_method_5_code
def yX2_set : MethodName := ⟨RX2, "set", "(III)V"⟩
abbrev cX2_add : ByteArray := prog_4_method_6_code
def yX2_add : MethodName := ⟨RX2, "add", "()I"⟩
abbrev cX2_addPair : ByteArray := prog_4_method_7_code
def yX2_addPair : MethodName := ⟨RX2, "addPair", "(II)V"⟩
abbrev cX2_dropLast : ByteArray := prog_4_method_8_code
def yX2_dropLast : MethodName := ⟨RX2, "dropLast", "()V"⟩
abbrev cX2_clear : ByteArray := prog_4_method_9_code
def yX2_clear : MethodName := ⟨RX2, "clear", "()V"⟩
abbrev cX2_holdsFirst : ByteArray := prog_4_method_10_code
def yX2_holdsFirst : MethodName := ⟨RX2, "holdsFirst", "(I)Z"⟩
abbrev cX2_copyFrom : ByteArray := prog_4_method_11_code
def yX2_copyFrom : MethodName := ⟨RX2, "copyFrom", "(LEditionBook$Table;)V"⟩
def RX3 : String := "EditionBook$Worker"
def TX3 : u_T := fun k => match k with
  | 0 => ("EditionBook$Worker", "book", "LEditionBook$Image;", true)
  | 1 => ("EditionBook$Worker", "written", "LEditionBook$Table;", true)
  | 2 => ("EditionBook$Worker", "wrote", "I", false)
  | 3 => ("EditionBook$Worker", "steps", "I", false)
  | 4 => ("EditionBook$Worker", "failure", "I", false)
  | 5 => ("EditionBook$Worker", "pile", "LEditionBook$Table;", true)
  | 6 => ("EditionBook$Worker", "frames", "LEditionBook$Table;", true)
  | 7 => ("EditionBook$Worker", "cellCode", "[I", true)
  | _ => ("EditionBook$Worker", "cellFrames", "I", false)
def tyX3 : Nat → FieldType := fun k => match k with
  | 0 => .object "EditionBook$Image"
  | 1 => .object "EditionBook$Table"
  | 2 => .int
  | 3 => .int
  | 4 => .int
  | 5 => .object "EditionBook$Table"
  | 6 => .object "EditionBook$Table"
  | 7 => .array .int
  | _ => .int
abbrev wsX30 : List Cond := u_ws RX3 TX3 9
theorem nmX3 : ∀ a, a < 9 → ∀ b, b < 9 → a ≠ b → (TX3 a).2.1 ≠ (TX3 b).2.1 := by decide +kernel
theorem tyX3_ok : ∀ k, k < 9 → parseFieldDescriptor (TX3 k).2.2.1 = some (tyX3 k) := by decide +kernel
abbrev cX3_init : ByteArray := prog_5_method_1_code
def yX3_init : MethodName := ⟨RX3, "<init>", "()V"⟩
abbrev cX3_clear : ByteArray := prog_5_method_2_code
def yX3_clear : MethodName := ⟨RX3, "clear", "()V"⟩
abbrev cX3_beginCell : ByteArray := prog_5_method_3_code
def yX3_beginCell : MethodName := ⟨RX3, "beginCell", "(LEditionBook$Reader;)V"⟩
abbrev cX3_beginByHand : ByteArray := prog_5_method_4_code
def yX3_beginByHand : MethodName := ⟨RX3, "beginByHand", "(III)V"⟩
abbrev cX3_lastKind : ByteArray := prog_5_method_5_code
def yX3_lastKind : MethodName := ⟨RX3, "lastKind", "()I"⟩
abbrev cX3_lastNumber : ByteArray := prog_5_method_6_code
def yX3_lastNumber : MethodName := ⟨RX3, "lastNumber", "()I"⟩
abbrev cX3_work : ByteArray := prog_5_method_7_code
def yX3_work : MethodName := ⟨RX3, "work", "()I"⟩
abbrev cX3_breakStarts : ByteArray := prog_5_method_8_code
def yX3_breakStarts : MethodName := ⟨RX3, "breakStarts", "()Z"⟩
abbrev cX3_openFrame : ByteArray := prog_5_method_9_code
def yX3_openFrame : MethodName := ⟨RX3, "openFrame", "(III)I"⟩
abbrev cX3_isDeep : ByteArray := prog_5_method_10_code
def yX3_isDeep : MethodName := ⟨RX3, "isDeep", "()Z"⟩
abbrev cX3_closeFrame : ByteArray := prog_5_method_11_code
def yX3_closeFrame : MethodName := ⟨RX3, "closeFrame", "()I"⟩
abbrev cX3_kindAt : ByteArray := prog_5_method_12_code
def yX3_kindAt : MethodName := ⟨RX3, "kindAt", "(I)I"⟩
abbrev cX3_numberAt : ByteArray := prog_5_method_13_code
def yX3_numberAt : MethodName := ⟨RX3, "numberAt", "(I)I"⟩
abbrev cX3_takeAndPut : ByteArray := prog_5_method_14_code
def yX3_takeAndPut : MethodName := ⟨RX3, "takeAndPut", "(III)I"⟩
abbrev cX3_codeAt : ByteArray := prog_5_method_15_code
def yX3_codeAt : MethodName := ⟨RX3, "codeAt", "(II)I"⟩
abbrev cX3_act : ByteArray := prog_5_method_16_code
def yX3_act : MethodName := ⟨RX3, "act", "(I)I"⟩
abbrev cX3_isSame : ByteArray := prog_5_method_17_code
def yX3_isSame : MethodName := ⟨RX3, "isSame", "()Z"⟩
abbrev cX3_isLastOf : ByteArray := prog_5_method_18_code
def yX3_isLastOf : MethodName := ⟨RX3, "isLastOf", "(I)Z"⟩
abbrev cX3_make : ByteArray := prog_5_method_19_code
def yX3_make : MethodName := ⟨RX3, "make", "(I)I"⟩
abbrev cX3_readField : ByteArray := prog_5_method_20_code
def yX3_readField : MethodName := ⟨RX3, "readField", "(I)I"⟩
abbrev cX3_writeField : ByteArray := prog_5_method_21_code
def yX3_writeField : MethodName := ⟨RX3, "writeField", "(I)I"⟩
abbrev cX3_callMethod : ByteArray := prog_5_method_22_code
def yX3_callMethod : MethodName := ⟨RX3, "callMethod", "(I)I"⟩
abbrev cX3_reckon : ByteArray := prog_5_method_23_code
def yX3_reckon : MethodName := ⟨RX3, "reckon", "(I)I"⟩
abbrev cX3_choose : ByteArray := prog_5_method_24_code
def yX3_choose : MethodName := ⟨RX3, "choose", "()I"⟩
abbrev cX3_write : ByteArray := prog_5_method_25_code
def yX3_write : MethodName := ⟨RX3, "write", "()I"⟩
def RX4 : String := "EditionBook"
def TX4 : u_T := fun k => match k with
  | 0 => ("EditionBook", "tape", "[I", true)
  | 1 => ("EditionBook", "onTape", "I", false)
  | 2 => ("EditionBook", "reader", "LEditionBook$Reader;", true)
  | 3 => ("EditionBook", "worker", "LEditionBook$Worker;", true)
  | 4 => ("EditionBook", "now", "LEditionBook$Image;", true)
  | 5 => ("EditionBook", "kept", "[LEditionBook$Image;", true)
  | 6 => ("EditionBook", "cameKind", "I", false)
  | 7 => ("EditionBook", "cameNumber", "I", false)
  | 8 => ("EditionBook", "cameFailure", "I", false)
  | _ => ("EditionBook", "cameSteps", "I", false)
def tyX4 : Nat → FieldType := fun k => match k with
  | 0 => .array .int
  | 1 => .int
  | 2 => .object "EditionBook$Reader"
  | 3 => .object "EditionBook$Worker"
  | 4 => .object "EditionBook$Image"
  | 5 => .array (.object "EditionBook$Image")
  | 6 => .int
  | 7 => .int
  | 8 => .int
  | _ => .int
abbrev wsX40 : List Cond := u_ws RX4 TX4 10
theorem nmX4 : ∀ a, a < 10 → ∀ b, b < 10 → a ≠ b → (TX4 a).2.1 ≠ (TX4 b).2.1 := by decide +kernel
theorem tyX4_ok : ∀ k, k < 10 → parseFieldDescriptor (TX4 k).2.2.1 = some (tyX4 k) := by decide +kernel
abbrev cX4_init : ByteArray := prog_1_method_1_code
def yX4_init : MethodName := ⟨RX4, "<init>", "()V"⟩
abbrev cX4_put : ByteArray := prog_1_method_2_code
def yX4_put : MethodName := ⟨RX4, "put", "(IIIII)I"⟩
abbrev cX4_putOne : ByteArray := prog_1_method_3_code
def yX4_putOne : MethodName := ⟨RX4, "putOne", "(I)V"⟩
abbrev cX4_wipe : ByteArray := prog_1_method_4_code
def yX4_wipe : MethodName := ⟨RX4, "wipe", "()I"⟩
abbrev cX4_cell : ByteArray := prog_1_method_5_code
def yX4_cell : MethodName := ⟨RX4, "cell", "(II)I"⟩
abbrev cX4_redo : ByteArray := prog_1_method_6_code
def yX4_redo : MethodName := ⟨RX4, "redo", "(I)I"⟩
abbrev cX4_rerun : ByteArray := prog_1_method_7_code
def yX4_rerun : MethodName := ⟨RX4, "rerun", "(I)I"⟩
abbrev cX4_rerunStale : ByteArray := prog_1_method_8_code
def yX4_rerunStale : MethodName := ⟨RX4, "rerunStale", "()I"⟩
abbrev cX4_forget : ByteArray := prog_1_method_9_code
def yX4_forget : MethodName := ⟨RX4, "forget", "(I)I"⟩
abbrev cX4_of : ByteArray := prog_1_method_10_code
def yX4_of : MethodName := ⟨RX4, "of", "(II)I"⟩
abbrev cX4_leans : ByteArray := prog_1_method_11_code
def yX4_leans : MethodName := ⟨RX4, "leans", "(II)I"⟩
abbrev cX4_stale : ByteArray := prog_1_method_12_code
def yX4_stale : MethodName := ⟨RX4, "stale", "(I)Z"⟩
abbrev cX4_written : ByteArray := prog_1_method_13_code
def yX4_written : MethodName := ⟨RX4, "written", "(III)I"⟩
abbrev cX4_count : ByteArray := prog_1_method_14_code
def yX4_count : MethodName := ⟨RX4, "count", "(I)I"⟩
abbrev cX4_newest : ByteArray := prog_1_method_15_code
def yX4_newest : MethodName := ⟨RX4, "newest", "(I)I"⟩
abbrev cX4_edition : ByteArray := prog_1_method_16_code
def yX4_edition : MethodName := ⟨RX4, "edition", "(II)I"⟩
abbrev cX4_classOf : ByteArray := prog_1_method_17_code
def yX4_classOf : MethodName := ⟨RX4, "classOf", "(I)I"⟩
abbrev cX4_field : ByteArray := prog_1_method_18_code
def yX4_field : MethodName := ⟨RX4, "field", "(III)I"⟩
abbrev cX4_is : ByteArray := prog_1_method_19_code
def yX4_is : MethodName := ⟨RX4, "is", "(II)Z"⟩
abbrev cX4_call : ByteArray := prog_1_method_20_code
def yX4_call : MethodName := ⟨RX4, "call", "(III)I"⟩
abbrev cX4_came : ByteArray := prog_1_method_21_code
def yX4_came : MethodName := ⟨RX4, "came", "(I)I"⟩
abbrev cX4_convert : ByteArray := prog_1_method_22_code
def yX4_convert : MethodName := ⟨RX4, "convert", "(II)I"⟩
abbrev cX4_keep : ByteArray := prog_1_method_23_code
def yX4_keep : MethodName := ⟨RX4, "keep", "(I)Z"⟩
abbrev cX4_back : ByteArray := prog_1_method_24_code
def yX4_back : MethodName := ⟨RX4, "back", "(I)Z"⟩
abbrev cX4_isName : ByteArray := prog_1_method_25_code
def yX4_isName : MethodName := ⟨RX4, "isName", "(I)Z"⟩
abbrev cX4_faultOfTape : ByteArray := prog_1_method_26_code
def yX4_faultOfTape : MethodName := ⟨RX4, "faultOfTape", "(I)I"⟩
abbrev cX4_faultOfCell : ByteArray := prog_1_method_27_code
def yX4_faultOfCell : MethodName := ⟨RX4, "faultOfCell", "(I)I"⟩
abbrev cX4_takeTape : ByteArray := prog_1_method_28_code
def yX4_takeTape : MethodName := ⟨RX4, "takeTape", "(I)V"⟩
abbrev cX4_runCell : ByteArray := prog_1_method_29_code
def yX4_runCell : MethodName := ⟨RX4, "runCell", "(I)I"⟩
abbrev cX4_noteRun : ByteArray := prog_1_method_30_code
def yX4_noteRun : MethodName := ⟨RX4, "noteRun", "(III)V"⟩
def RX5 : String := "EditionBookModel"
def TX5 : u_T := fun k => match k with
  | 0 => ("EditionBookModel", "m", "[I", true)
  | 1 => ("EditionBookModel", "isKept", "[Z", true)
  | 2 => ("EditionBookModel", "tape", "[I", true)
  | 3 => ("EditionBookModel", "taped", "I", false)
  | 4 => ("EditionBookModel", "text", "[I", true)
  | 5 => ("EditionBookModel", "meant", "[I", true)
  | 6 => ("EditionBookModel", "length", "I", false)
  | 7 => ("EditionBookModel", "fault", "I", false)
  | 8 => ("EditionBookModel", "at", "I", false)
  | 9 => ("EditionBookModel", "leaned", "[Z", true)
  | 10 => ("EditionBookModel", "isObj", "[Z", true)
  | 11 => ("EditionBookModel", "value", "[I", true)
  | 12 => ("EditionBookModel", "top", "I", false)
  | 13 => ("EditionBookModel", "source", "[I", true)
  | 14 => ("EditionBookModel", "place", "[I", true)
  | 15 => ("EditionBookModel", "end", "[I", true)
  | 16 => ("EditionBookModel", "self", "[I", true)
  | 17 => ("EditionBookModel", "isArgObj", "[Z", true)
  | 18 => ("EditionBookModel", "argument", "[I", true)
  | 19 => ("EditionBookModel", "starts", "[I", true)
  | 20 => ("EditionBookModel", "frames", "I", false)
  | 21 => ("EditionBookModel", "inner", "I", false)
  | 22 => ("EditionBookModel", "again", "Z", false)
  | 23 => ("EditionBookModel", "steps", "I", false)
  | 24 => ("EditionBookModel", "failure", "I", false)
  | 25 => ("EditionBookModel", "wrote", "I", false)
  | 26 => ("EditionBookModel", "isWrittenObj", "[Z", true)
  | 27 => ("EditionBookModel", "writtenValue", "[I", true)
  | 28 => ("EditionBookModel", "isStale", "[Z", true)
  | 29 => ("EditionBookModel", "waits", "[Z", true)
  | 30 => ("EditionBookModel", "cameKind", "I", false)
  | 31 => ("EditionBookModel", "cameValue", "I", false)
  | 32 => ("EditionBookModel", "cameFailure", "I", false)
  | _ => ("EditionBookModel", "cameSteps", "I", false)
def tyX5 : Nat → FieldType := fun k => match k with
  | 0 => .array .int
  | 1 => .array .boolean
  | 2 => .array .int
  | 3 => .int
  | 4 => .array .int
  | 5 => .array .int
  | 6 => .int
  | 7 => .int
  | 8 => .int
  | 9 => .array .boolean
  | 10 => .array .boolean
  | 11 => .array .int
  | 12 => .int
  | 13 => .array .int
  | 14 => .array .int
  | 15 => .array .int
  | 16 => .array .int
  | 17 => .array .boolean
  | 18 => .array .int
  | 19 => .array .int
  | 20 => .int
  | 21 => .int
  | 22 => .boolean
  | 23 => .int
  | 24 => .int
  | 25 => .int
  | 26 => .array .boolean
  | 27 => .array .int
  | 28 => .array .boolean
  | 29 => .array .boolean
  | 30 => .int
  | 31 => .int
  | 32 => .int
  | _ => .int
abbrev wsX50 : List Cond := u_ws RX5 TX5 34
theorem nmX5 : ∀ a, a < 34 → ∀ b, b < 34 → a ≠ b → (TX5 a).2.1 ≠ (TX5 b).2.1 := by decide +kernel
theorem tyX5_ok : ∀ k, k < 34 → parseFieldDescriptor (TX5 k).2.2.1 = some (tyX5 k) := by decide +kernel
abbrev cX5_init : ByteArray := prog_7_method_1_code
def yX5_init : MethodName := ⟨RX5, "<init>", "()V"⟩
abbrev cX5_cellAt : ByteArray := prog_7_method_2_code
def yX5_cellAt : MethodName := ⟨RX5, "cellAt", "(I)I"⟩
abbrev cX5_editAt : ByteArray := prog_7_method_3_code
def yX5_editAt : MethodName := ⟨RX5, "editAt", "(I)I"⟩
abbrev cX5_objAt : ByteArray := prog_7_method_4_code
def yX5_objAt : MethodName := ⟨RX5, "objAt", "(I)I"⟩
abbrev cX5_isCell : ByteArray := prog_7_method_5_code
def yX5_isCell : MethodName := ⟨RX5, "isCell", "(I)Z"⟩
abbrev cX5_isEdition : ByteArray := prog_7_method_6_code
def yX5_isEdition : MethodName := ⟨RX5, "isEdition", "(I)Z"⟩
abbrev cX5_isObject : ByteArray := prog_7_method_7_code
def yX5_isObject : MethodName := ⟨RX5, "isObject", "(I)Z"⟩
abbrev cX5_isName : ByteArray := prog_7_method_8_code
def yX5_isName : MethodName := ⟨RX5, "isName", "(I)Z"⟩
abbrev cX5_isClass : ByteArray := prog_7_method_9_code
def yX5_isClass : MethodName := ⟨RX5, "isClass", "(I)Z"⟩
abbrev cX5_newest : ByteArray := prog_7_method_10_code
def yX5_newest : MethodName := ⟨RX5, "newest", "(I)I"⟩
abbrev cX5_put : ByteArray := prog_7_method_11_code
def yX5_put : MethodName := ⟨RX5, "put", "(IIIII)I"⟩
abbrev cX5_wipe : ByteArray := prog_7_method_12_code
def yX5_wipe : MethodName := ⟨RX5, "wipe", "()I"⟩
abbrev cX5_wrong : ByteArray := prog_7_method_13_code
def yX5_wrong : MethodName := ⟨RX5, "wrong", "(I)V"⟩
abbrev cX5_take : ByteArray := prog_7_method_14_code
def yX5_take : MethodName := ⟨RX5, "take", "()I"⟩
abbrev cX5_means : ByteArray := prog_7_method_15_code
def yX5_means : MethodName := ⟨RX5, "means", "(III)Z"⟩
abbrev cX5_hasInt : ByteArray := prog_7_method_16_code
def yX5_hasInt : MethodName := ⟨RX5, "hasInt", "(I)Z"⟩
abbrev cX5_takes : ByteArray := prog_7_method_17_code
def yX5_takes : MethodName := ⟨RX5, "takes", "(I)I"⟩
abbrev cX5_isActRight : ByteArray := prog_7_method_18_code
def yX5_isActRight : MethodName := ⟨RX5, "isActRight", "(IIIZ)Z"⟩
abbrev cX5_code : ByteArray := prog_7_method_19_code
def yX5_code : MethodName := ⟨RX5, "code", "(IIZ)V"⟩
abbrev cX5_names : ByteArray := prog_7_method_20_code
def yX5_names : MethodName := ⟨RX5, "names", "(IIZ)V"⟩
abbrev cX5_classText : ByteArray := prog_7_method_21_code
def yX5_classText : MethodName := ⟨RX5, "classText", "()V"⟩
abbrev cX5_looked : ByteArray := prog_7_method_22_code
def yX5_looked : MethodName := ⟨RX5, "looked", "(I)I"⟩
abbrev cX5_textOf : ByteArray := prog_7_method_23_code
def yX5_textOf : MethodName := ⟨RX5, "textOf", "(II)I"⟩
abbrev cX5_parentOf : ByteArray := prog_7_method_24_code
def yX5_parentOf : MethodName := ⟨RX5, "parentOf", "(I)I"⟩
abbrev cX5_ownField : ByteArray := prog_7_method_25_code
def yX5_ownField : MethodName := ⟨RX5, "ownField", "(II)I"⟩
abbrev cX5_methodPlace : ByteArray := prog_7_method_26_code
def yX5_methodPlace : MethodName := ⟨RX5, "methodPlace", "(II)I"⟩
abbrev cX5_place0 : ByteArray := prog_7_method_27_code
def yX5_place0 : MethodName := ⟨RX5, "place0", "(I)I"⟩
abbrev cX5_ownMethod : ByteArray := prog_7_method_28_code
def yX5_ownMethod : MethodName := ⟨RX5, "ownMethod", "(II)I"⟩
abbrev cX5_startPlace : ByteArray := prog_7_method_29_code
def yX5_startPlace : MethodName := ⟨RX5, "startPlace", "(I)I"⟩
abbrev cX5_lengthOf : ByteArray := prog_7_method_30_code
def yX5_lengthOf : MethodName := ⟨RX5, "lengthOf", "(I)I"⟩
abbrev cX5_isBelow : ByteArray := prog_7_method_31_code
def yX5_isBelow : MethodName := ⟨RX5, "isBelow", "(II)Z"⟩
abbrev cX5_newObject : ByteArray := prog_7_method_32_code
def yX5_newObject : MethodName := ⟨RX5, "newObject", "(I)I"⟩
abbrev cX5_push : ByteArray := prog_7_method_33_code
def yX5_push : MethodName := ⟨RX5, "push", "(ZI)V"⟩
abbrev cX5_frame : ByteArray := prog_7_method_34_code
def yX5_frame : MethodName := ⟨RX5, "frame", "(IIIII)V"⟩
abbrev cX5_intAt : ByteArray := prog_7_method_35_code
def yX5_intAt : MethodName := ⟨RX5, "intAt", "(I)I"⟩
abbrev cX5_fail : ByteArray := prog_7_method_36_code
def yX5_fail : MethodName := ⟨RX5, "fail", "(I)V"⟩
abbrev cX5_work : ByteArray := prog_7_method_37_code
def yX5_work : MethodName := ⟨RX5, "work", "()V"⟩
abbrev cX5_finish : ByteArray := prog_7_method_38_code
def yX5_finish : MethodName := ⟨RX5, "finish", "()V"⟩
abbrev cX5_act : ByteArray := prog_7_method_39_code
def yX5_act : MethodName := ⟨RX5, "act", "()V"⟩
abbrev cX5_ask : ByteArray := prog_7_method_40_code
def yX5_ask : MethodName := ⟨RX5, "ask", "(II)V"⟩
abbrev cX5_ofObject : ByteArray := prog_7_method_41_code
def yX5_ofObject : MethodName := ⟨RX5, "ofObject", "(II)V"⟩
abbrev cX5_method : ByteArray := prog_7_method_42_code
def yX5_method : MethodName := ⟨RX5, "method", "(II)V"⟩
abbrev cX5_reckon : ByteArray := prog_7_method_43_code
def yX5_reckon : MethodName := ⟨RX5, "reckon", "(I)V"⟩
abbrev cX5_choose : ByteArray := prog_7_method_44_code
def yX5_choose : MethodName := ⟨RX5, "choose", "()V"⟩
abbrev cX5_write : ByteArray := prog_7_method_45_code
def yX5_write : MethodName := ⟨RX5, "write", "()V"⟩
abbrev cX5_make : ByteArray := prog_7_method_46_code
def yX5_make : MethodName := ⟨RX5, "make", "(I)V"⟩
abbrev cX5_start : ByteArray := prog_7_method_47_code
def yX5_start : MethodName := ⟨RX5, "start", "(I)V"⟩
abbrev cX5_newEdition : ByteArray := prog_7_method_48_code
def yX5_newEdition : MethodName := ⟨RX5, "newEdition", "(I)I"⟩
abbrev cX5_run : ByteArray := prog_7_method_49_code
def yX5_run : MethodName := ⟨RX5, "run", "(I)I"⟩
abbrev cX5_lookAtTape : ByteArray := prog_7_method_50_code
def yX5_lookAtTape : MethodName := ⟨RX5, "lookAtTape", "(I)I"⟩
abbrev cX5_lookAtCell : ByteArray := prog_7_method_51_code
def yX5_lookAtCell : MethodName := ⟨RX5, "lookAtCell", "(I)I"⟩
abbrev cX5_layText : ByteArray := prog_7_method_52_code
def yX5_layText : MethodName := ⟨RX5, "layText", "(I)V"⟩
abbrev cX5_cell : ByteArray := prog_7_method_53_code
def yX5_cell : MethodName := ⟨RX5, "cell", "(II)I"⟩
abbrev cX5_redo : ByteArray := prog_7_method_54_code
def yX5_redo : MethodName := ⟨RX5, "redo", "(I)I"⟩
abbrev cX5_rerun : ByteArray := prog_7_method_55_code
def yX5_rerun : MethodName := ⟨RX5, "rerun", "(I)I"⟩
abbrev cX5_tellStale : ByteArray := prog_7_method_56_code
def yX5_tellStale : MethodName := ⟨RX5, "tellStale", "()V"⟩
abbrev cX5_isFree : ByteArray := prog_7_method_57_code
def yX5_isFree : MethodName := ⟨RX5, "isFree", "(I)Z"⟩
abbrev cX5_rerunStale : ByteArray := prog_7_method_58_code
def yX5_rerunStale : MethodName := ⟨RX5, "rerunStale", "()I"⟩
abbrev cX5_forget : ByteArray := prog_7_method_59_code
def yX5_forget : MethodName := ⟨RX5, "forget", "(I)I"⟩
abbrev cX5_of : ByteArray := prog_7_method_60_code
def yX5_of : MethodName := ⟨RX5, "of", "(II)I"⟩
abbrev cX5_leans : ByteArray := prog_7_method_61_code
def yX5_leans : MethodName := ⟨RX5, "leans", "(II)I"⟩
abbrev cX5_stale : ByteArray := prog_7_method_62_code
def yX5_stale : MethodName := ⟨RX5, "stale", "(I)Z"⟩
abbrev cX5_written : ByteArray := prog_7_method_63_code
def yX5_written : MethodName := ⟨RX5, "written", "(III)I"⟩
abbrev cX5_count : ByteArray := prog_7_method_64_code
def yX5_count : MethodName := ⟨RX5, "count", "(I)I"⟩
abbrev cX5_edition : ByteArray := prog_7_method_65_code
def yX5_edition : MethodName := ⟨RX5, "edition", "(II)I"⟩
abbrev cX5_classOf : ByteArray := prog_7_method_66_code
def yX5_classOf : MethodName := ⟨RX5, "classOf", "(I)I"⟩
abbrev cX5_field : ByteArray := prog_7_method_67_code
def yX5_field : MethodName := ⟨RX5, "field", "(III)I"⟩
abbrev cX5_is : ByteArray := prog_7_method_68_code
def yX5_is : MethodName := ⟨RX5, "is", "(II)Z"⟩
abbrev cX5_call : ByteArray := prog_7_method_69_code
def yX5_call : MethodName := ⟨RX5, "call", "(III)I"⟩
abbrev cX5_came : ByteArray := prog_7_method_70_code
def yX5_came : MethodName := ⟨RX5, "came", "(I)I"⟩
abbrev cX5_convert : ByteArray := prog_7_method_71_code
def yX5_convert : MethodName := ⟨RX5, "convert", "(II)I"⟩
abbrev cX5_keep : ByteArray := prog_7_method_72_code
def yX5_keep : MethodName := ⟨RX5, "keep", "(I)Z"⟩
abbrev cX5_back : ByteArray := prog_7_method_73_code
def yX5_back : MethodName := ⟨RX5, "back", "(I)Z"⟩
def RJx8e188 : String := "java/lang/Cloneable"
def TJx8e188 : u_T := fun k => match k with
  | _ => ("", "", "", false)
def tyJx8e188 : Nat → FieldType := fun k => match k with
  | _ => .int
abbrev wsJx8e1880 : List Cond := u_ws RJx8e188 TJx8e188 0
theorem nmJx8e188 : ∀ a, a < 0 → ∀ b, b < 0 → a ≠ b → (TJx8e188 a).2.1 ≠ (TJx8e188 b).2.1 := by decide +kernel
theorem tyJx8e188_ok : ∀ k, k < 0 → parseFieldDescriptor (TJx8e188 k).2.2.1 = some (tyJx8e188 k) := by decide +kernel
def RJ13 : String := "java/lang/Long"
def TJ13 : u_T := fun k => match k with
  | _ => ("", "", "", false)
def tyJ13 : Nat → FieldType := fun k => match k with
  | _ => .int
abbrev wsJ130 : List Cond := u_ws RJ13 TJ13 0
theorem nmJ13 : ∀ a, a < 0 → ∀ b, b < 0 → a ≠ b → (TJ13 a).2.1 ≠ (TJ13 b).2.1 := by decide +kernel
theorem tyJ13_ok : ∀ k, k < 0 → parseFieldDescriptor (TJ13 k).2.2.1 = some (tyJ13 k) := by decide +kernel
abbrev cJ13_bitCount_95d88 : ByteArray := prog_9_method_50_code
def yJ13_bitCount_95d88 : MethodName := ⟨RJ13, "bitCount", "(J)I"⟩
def RJ9 : String := "java/lang/Math"
def TJ9 : u_T := fun k => match k with
  | _ => ("", "", "", false)
def tyJ9 : Nat → FieldType := fun k => match k with
  | _ => .int
abbrev wsJ90 : List Cond := u_ws RJ9 TJ9 0
theorem nmJ9 : ∀ a, a < 0 → ∀ b, b < 0 → a ≠ b → (TJ9 a).2.1 ≠ (TJ9 b).2.1 := by decide +kernel
theorem tyJ9_ok : ∀ k, k < 0 → parseFieldDescriptor (TJ9 k).2.2.1 = some (tyJ9 k) := by decide +kernel
abbrev cJ9_max_7cf53 : ByteArray := prog_10_method_65_code
def yJ9_max_7cf53 : MethodName := ⟨RJ9, "max", "(II)I"⟩
abbrev cJ9_min_7cf53 : ByteArray := prog_10_method_69_code
def yJ9_min_7cf53 : MethodName := ⟨RJ9, "min", "(II)I"⟩
def RJ10 : String := "java/lang/System"
def TJ10 : u_T := fun k => match k with
  | _ => ("", "", "", false)
def tyJ10 : Nat → FieldType := fun k => match k with
  | _ => .int
abbrev wsJ100 : List Cond := u_ws RJ10 TJ10 0
theorem nmJ10 : ∀ a, a < 0 → ∀ b, b < 0 → a ≠ b → (TJ10 a).2.1 ≠ (TJ10 b).2.1 := by decide +kernel
theorem tyJ10_ok : ∀ k, k < 0 → parseFieldDescriptor (TJ10 k).2.2.1 = some (tyJ10 k) := by decide +kernel
def RJ7 : String := "java/util/Arrays"
def TJ7 : u_T := fun k => match k with
  | _ => ("", "", "", false)
def tyJ7 : Nat → FieldType := fun k => match k with
  | _ => .int
abbrev wsJ70 : List Cond := u_ws RJ7 TJ7 0
theorem nmJ7 : ∀ a, a < 0 → ∀ b, b < 0 → a ≠ b → (TJ7 a).2.1 ≠ (TJ7 b).2.1 := by decide +kernel
theorem tyJ7_ok : ∀ k, k < 0 → parseFieldDescriptor (TJ7 k).2.2.1 = some (tyJ7 k) := by decide +kernel
abbrev cJ7_rangeCheck_23922 : ByteArray := prog_12_method_30_code
def yJ7_rangeCheck_23922 : MethodName := ⟨RJ7, "rangeCheck", "(III)V"⟩
abbrev cJ7_fill_53178 : ByteArray := prog_12_method_103_code
def yJ7_fill_53178 : MethodName := ⟨RJ7, "fill", "([II)V"⟩
abbrev cJ7_fill_fda19 : ByteArray := prog_12_method_104_code
def yJ7_fill_fda19 : MethodName := ⟨RJ7, "fill", "([IIII)V"⟩
abbrev cJ7_copyOf_59c91 : ByteArray := prog_12_method_123_code
def yJ7_copyOf_59c91 : MethodName := ⟨RJ7, "copyOf", "([II)[I"⟩
def RL : String := "EditionBookLaw"
abbrev cL_law : ByteArray := code
abbrev vwCl : List vw_C := [(RX0, TX0, 4), (RX1, TX1, 11), (RX2, TX2, 4), (RX3, TX3, 9), (RX4, TX4, 10), (RX5, TX5, 34)]
theorem iX0 : ∀ w ∈ u_ws RX0 TX0 4, w ∈ lw_tbl := by decide +kernel
theorem iX1 : ∀ w ∈ u_ws RX1 TX1 11, w ∈ lw_tbl := by decide +kernel
theorem iX2 : ∀ w ∈ u_ws RX2 TX2 4, w ∈ lw_tbl := by decide +kernel
theorem iX3 : ∀ w ∈ u_ws RX3 TX3 9, w ∈ lw_tbl := by decide +kernel
theorem iX4 : ∀ w ∈ u_ws RX4 TX4 10, w ∈ lw_tbl := by decide +kernel
theorem iX5 : ∀ w ∈ u_ws RX5 TX5 34, w ∈ lw_tbl := by decide +kernel
end
section
def tt : List Cond := lw_tbl.filter goodWord
theorem tt_in {w : Cond} (h : w ∈ lw_tbl) (hg : goodWord w = true) : w ∈ tt := List.mem_filter.mpr ⟨h, hg⟩
def wsM (y : MethodName) (b : ByteArray) (n : Nat) (ret : Option FieldType) : List Cond := .code y b n ret :: tt
theorem good_tt {big : List Cond} (hb : ∀ w ∈ tt, w ∈ big) : GoodIn big tt := fun w h => ⟨hb w h, good_of_word (List.mem_filter.mp h).2⟩
theorem good_ws {big : List Cond} {y : MethodName} {b : ByteArray} {n : Nat} {ret : Option FieldType} (hb : ∀ w ∈ tt, w ∈ big) (hc : Cond.code y b n ret ∈ tt) : GoodIn big (wsM y b n ret) := fun w h => by
  rcases List.mem_cons.mp h with rfl | h
  · exact good_tt hb _ hc
  · exact good_tt hb _ h
def lvg : List (Nat × Value) → Nat → Option Value
  | [], _ => none
  | q :: l, i => if q.1 = i then some q.2 else lvg l i
theorem lvg_mem : ∀ {l : List (Nat × Value)} {i : Nat} {v : Value}, lvg l i = some v → (i, v) ∈ l
  | [], _, _, h => by cases h
  | q :: l, i, v, h => by
    unfold lvg at h
    by_cases hq : q.1 = i
    · rw [if_pos hq] at h
      cases h
      subst hq
      exact List.mem_cons_self
    · rw [if_neg hq] at h
      exact List.mem_cons_of_mem _ (lvg_mem h)
theorem lvg_at {ls : Array Slot} {nL : Nat} {l : List (Nat × Value)} {i : Nat} {v : Value} (h : lv_has ls nL l) (hk : lvg l i = some v) : ls[i]? = some (.val v) := h.2.2 (i, v) (lvg_mem hk)
def gX (p : Program) (s : State) (m : MethodId) (args : Array Value) (meth : Method) (c : Code) (cc : ByteArray) (nL : Nat) (own : String) (rt : Option FieldType) (D : va_G) (tys : List (ClassId × FieldType)) : Prop :=
  p.tables.exec = Jvm.exec ∧ c.code = cc ∧ c.maxLocals = nL ∧ s.vm.findClass own = some m.cls ∧ (∀ w ∈ tt, w.before args s = true) ∧ va_K D vwCl tys s ∧ meth.locks = false ∧ meth.sig.returnType = rt
/-- the machine at pc, with these locals and this stack, in a world Z, does what the pure program F says -/
def gG {ρ : Type} (p : Program) (l : Launch) (e : Env) (R : Room) (s : State) (m : MethodId) (args : Array Value) (below : List Frame) (meth : Method) (c : Code) (nL : Nat) (Z : Heap → List Loc → Prop) (kc ks : Nat) (QQ : ρ → State → Prop) (pc : Nat) (lv : List (Nat × Value)) (st : List Value) (F : Option ρ) : Prop :=
  ∀ r, F = some r → ∀ (H : Heap) (locs : List Loc) (ls : Array Slot), Z H locs → lv_has ls nL lv → W p l e R s m args below meth c H locs kc ks (QQ r) (F0 m pc ls st)
section GG
variable {ρ : Type} {p : Program} {l : Launch} {e : Env} {R : Room} {s : State} {m : MethodId} {args : Array Value} {below : List Frame} {meth : Method} {c : Code}
variable {cc : ByteArray} {nL : Nat} {own : String} {rt : Option FieldType} {D : va_G} {tys : List (ClassId × FieldType)} {Z : Heap → List Loc → Prop} {kc ks : Nat} {QQ : ρ → State → Prop} {pc : Nat} {lv : List (Nat × Value)} {st : List Value} {F F1 F2 : Option ρ}
theorem g_none : gG p l e R s m args below meth c nL Z kc ks QQ pc lv st (none : Option ρ) := fun r hr => by cases hr
theorem g_pick (kx : List Nat) {lv' : List (Nat × Value)} (h : lv_pick lv kx = lv') (kk : gG p l e R s m args below meth c nL Z kc ks QQ pc lv' st F) : gG p l e R s m args below meth c nL Z kc ks QQ pc lv st F := fun r hr H locs ls hz hl => kk r hr H locs ls hz (lv_sub hl kx h)
theorem g_ite {P : Prop} [Decidable P] (kt : P → gG p l e R s m args below meth c nL Z kc ks QQ pc lv st F1) (kf : ¬ P → gG p l e R s m args below meth c nL Z kc ks QQ pc lv st F2) : gG p l e R s m args below meth c nL Z kc ks QQ pc lv st (if P then F1 else F2) := by
  by_cases h : P
  · rw [if_pos h]; exact kt h
  · rw [if_neg h]; exact kf h
theorem g_iconst (X : gX p s m args meth c cc nL own rt D tys) {n : Int} {v : Int32} (d : decode cc pc = .ok (.iconst n, 1)) (hv : Int32.ofInt n = v) (kk : gG p l e R s m args below meth c nL Z kc ks QQ (pc + 1) lv (.int v :: st) F) : gG p l e R s m args below meth c nL Z kc ks QQ pc lv st F := fun r hr H locs ls hz hl => lv_iconst X.1 X.2.1 d hv (kk r hr H locs ls hz hl)
theorem g_bipush (X : gX p s m args meth c cc nL own rt D tys) {n : Int} {v : Int32} (d : decode cc pc = .ok (.bipush n, 2)) (hv : (Int8.ofInt n).toInt32 = v) (kk : gG p l e R s m args below meth c nL Z kc ks QQ (pc + 2) lv (.int v :: st) F) : gG p l e R s m args below meth c nL Z kc ks QQ pc lv st F := fun r hr H locs ls hz hl => lv_bipush X.1 X.2.1 d hv (kk r hr H locs ls hz hl)
theorem g_sipush (X : gX p s m args meth c cc nL own rt D tys) {n : Int} {v : Int32} (d : decode cc pc = .ok (.sipush n, 3)) (hv : (Int16.ofInt n).toInt32 = v) (kk : gG p l e R s m args below meth c nL Z kc ks QQ (pc + 3) lv (.int v :: st) F) : gG p l e R s m args below meth c nL Z kc ks QQ pc lv st F := fun r hr H locs ls hz hl => lv_sipush X.1 X.2.1 d hv (kk r hr H locs ls hz hl)
theorem g_ldc (X : gX p s m args meth c cc nL own rt D tys) {ix : Nat} {v : Int32} (hc : Cond.constant own ix v ∈ tt) (d : decode cc pc = .ok (.ldc ix, 2)) (kk : gG p l e R s m args below meth c nL Z kc ks QQ (pc + 2) lv (.int v :: st) F) : gG p l e R s m args below meth c nL Z kc ks QQ pc lv st F := fun r hr H locs ls hz hl => lv_ldc X.1 X.2.1 X.2.2.2.1 (X.2.2.2.2.1 _ hc) d (kk r hr H locs ls hz hl)
theorem g_iload_n (X : gX p s m args meth c cc nL own rt D tys) {k : Fin 4} {i : Nat} {x : Int32} (d : decode cc pc = .ok (.iload_n k, 1)) (hi : (k : Nat) = i) (hk : lvg lv i = some (.int x)) (kk : gG p l e R s m args below meth c nL Z kc ks QQ (pc + 1) lv (.int x :: st) F) : gG p l e R s m args below meth c nL Z kc ks QQ pc lv st F := fun r hr H locs ls hz hl => lv_iload_n X.1 X.2.1 d hi (lvg_at hl hk) (kk r hr H locs ls hz hl)
theorem g_iload (X : gX p s m args meth c cc nL own rt D tys) {i : Nat} {x : Int32} (d : decode cc pc = .ok (.iload i, 2)) (hk : lvg lv i = some (.int x)) (kk : gG p l e R s m args below meth c nL Z kc ks QQ (pc + 2) lv (.int x :: st) F) : gG p l e R s m args below meth c nL Z kc ks QQ pc lv st F := fun r hr H locs ls hz hl => lv_iload X.1 X.2.1 d (lvg_at hl hk) (kk r hr H locs ls hz hl)
theorem g_aload_n (X : gX p s m args meth c cc nL own rt D tys) {k : Fin 4} {i : Nat} {x : Nat} (d : decode cc pc = .ok (.aload_n k, 1)) (hi : (k : Nat) = i) (hk : lvg lv i = some (.ref x)) (kk : gG p l e R s m args below meth c nL Z kc ks QQ (pc + 1) lv (.ref x :: st) F) : gG p l e R s m args below meth c nL Z kc ks QQ pc lv st F := fun r hr H locs ls hz hl => lv_aload_n X.1 X.2.1 d hi (lvg_at hl hk) (kk r hr H locs ls hz hl)
theorem g_aload (X : gX p s m args meth c cc nL own rt D tys) {i : Nat} {x : Nat} (d : decode cc pc = .ok (.aload i, 2)) (hk : lvg lv i = some (.ref x)) (kk : gG p l e R s m args below meth c nL Z kc ks QQ (pc + 2) lv (.ref x :: st) F) : gG p l e R s m args below meth c nL Z kc ks QQ pc lv st F := fun r hr H locs ls hz hl => lv_aload X.1 X.2.1 d (lvg_at hl hk) (kk r hr H locs ls hz hl)
theorem g_istore_n (X : gX p s m args meth c cc nL own rt D tys) {k : Fin 4} {i : Nat} {x : Int32} {lv' : List (Nat × Value)} (d : decode cc pc = .ok (.istore_n k, 1)) (hi : (k : Nat) = i) (hn : i < nL) (hl' : (i, Value.int x) :: lv.filter (fun q => !(q.1 == i) && !(q.1 + 1 == i && q.2.category == 2)) = lv') (kk : gG p l e R s m args below meth c nL Z kc ks QQ (pc + 1) lv' st F) : gG p l e R s m args below meth c nL Z kc ks QQ pc lv (.int x :: st) F := fun r hr H locs ls hz hl => lv_istore_n X.1 X.2.1 d hi hl hn hl' (fun ls2 h2 => kk r hr H locs ls2 hz h2)
theorem g_istore (X : gX p s m args meth c cc nL own rt D tys) {i : Nat} {x : Int32} {lv' : List (Nat × Value)} (d : decode cc pc = .ok (.istore i, 2)) (hn : i < nL) (hl' : (i, Value.int x) :: lv.filter (fun q => !(q.1 == i) && !(q.1 + 1 == i && q.2.category == 2)) = lv') (kk : gG p l e R s m args below meth c nL Z kc ks QQ (pc + 2) lv' st F) : gG p l e R s m args below meth c nL Z kc ks QQ pc lv (.int x :: st) F := fun r hr H locs ls hz hl => lv_istore X.1 X.2.1 d hl hn hl' (fun ls2 h2 => kk r hr H locs ls2 hz h2)
theorem g_iinc (X : gX p s m args meth c cc nL own rt D tys) {i : Nat} {n : Int} {x v : Int32} {lv' : List (Nat × Value)} (d : decode cc pc = .ok (.iinc i n, 3)) (hk : lvg lv i = some (.int x)) (hv : Int32.ofInt n = v) (hn : i < nL) (hl' : (i, Value.int (x + v)) :: lv.filter (fun q => !(q.1 == i) && !(q.1 + 1 == i && q.2.category == 2)) = lv') (kk : gG p l e R s m args below meth c nL Z kc ks QQ (pc + 3) lv' st F) : gG p l e R s m args below meth c nL Z kc ks QQ pc lv st F := fun r hr H locs ls hz hl => by
  obtain ⟨k, hk2⟩ := List.getElem?_of_mem (lvg_mem hk)
  exact lv_iinc X.1 X.2.1 d hl hk2 (by rw [hv]) hn hl' (fun ls2 h2 => kk r hr H locs ls2 hz h2)
theorem g_iadd (X : gX p s m args meth c cc nL own rt D tys) {x y : Int32} (d : decode cc pc = .ok (.iadd, 1)) (kk : gG p l e R s m args below meth c nL Z kc ks QQ (pc + 1) lv (.int (x + y) :: st) F) : gG p l e R s m args below meth c nL Z kc ks QQ pc lv (.int y :: .int x :: st) F := fun r hr H locs ls hz hl => lv_iadd X.1 X.2.1 d (kk r hr H locs ls hz hl)
theorem g_isub (X : gX p s m args meth c cc nL own rt D tys) {x y : Int32} (d : decode cc pc = .ok (.isub, 1)) (kk : gG p l e R s m args below meth c nL Z kc ks QQ (pc + 1) lv (.int (x - y) :: st) F) : gG p l e R s m args below meth c nL Z kc ks QQ pc lv (.int y :: .int x :: st) F := fun r hr H locs ls hz hl => lv_isub X.1 X.2.1 d (kk r hr H locs ls hz hl)
theorem g_imul (X : gX p s m args meth c cc nL own rt D tys) {x y : Int32} (d : decode cc pc = .ok (.imul, 1)) (kk : gG p l e R s m args below meth c nL Z kc ks QQ (pc + 1) lv (.int (x * y) :: st) F) : gG p l e R s m args below meth c nL Z kc ks QQ pc lv (.int y :: .int x :: st) F := fun r hr H locs ls hz hl => lv_imul X.1 X.2.1 d (kk r hr H locs ls hz hl)
theorem g_iand (X : gX p s m args meth c cc nL own rt D tys) {x y : Int32} (d : decode cc pc = .ok (.iand, 1)) (kk : gG p l e R s m args below meth c nL Z kc ks QQ (pc + 1) lv (.int (x &&& y) :: st) F) : gG p l e R s m args below meth c nL Z kc ks QQ pc lv (.int y :: .int x :: st) F := fun r hr H locs ls hz hl => lv_iand X.1 X.2.1 d (kk r hr H locs ls hz hl)
theorem g_ior (X : gX p s m args meth c cc nL own rt D tys) {x y : Int32} (d : decode cc pc = .ok (.ior, 1)) (kk : gG p l e R s m args below meth c nL Z kc ks QQ (pc + 1) lv (.int (x ||| y) :: st) F) : gG p l e R s m args below meth c nL Z kc ks QQ pc lv (.int y :: .int x :: st) F := fun r hr H locs ls hz hl => lv_ior X.1 X.2.1 d (kk r hr H locs ls hz hl)
theorem g_ishl (X : gX p s m args meth c cc nL own rt D tys) {x y : Int32} (d : decode cc pc = .ok (.ishl, 1)) (kk : gG p l e R s m args below meth c nL Z kc ks QQ (pc + 1) lv (.int (x <<< (y &&& 31)) :: st) F) : gG p l e R s m args below meth c nL Z kc ks QQ pc lv (.int y :: .int x :: st) F := fun r hr H locs ls hz hl => lv_ishl X.1 X.2.1 d (kk r hr H locs ls hz hl)
theorem g_ishr (X : gX p s m args meth c cc nL own rt D tys) {x y : Int32} (d : decode cc pc = .ok (.ishr, 1)) (kk : gG p l e R s m args below meth c nL Z kc ks QQ (pc + 1) lv (.int (x >>> (y &&& 31)) :: st) F) : gG p l e R s m args below meth c nL Z kc ks QQ pc lv (.int y :: .int x :: st) F := fun r hr H locs ls hz hl => lv_ishr X.1 X.2.1 d (kk r hr H locs ls hz hl)
theorem g_idiv (X : gX p s m args meth c cc nL own rt D tys) {x y : Int32} (d : decode cc pc = .ok (.idiv, 1)) (kk : gG p l e R s m args below meth c nL Z kc ks QQ (pc + 1) lv (.int (x / y) :: st) F) : gG p l e R s m args below meth c nL Z kc ks QQ pc lv (.int y :: .int x :: st) (if y = 0 then none else F) := g_ite (fun _ => g_none) (fun hne r hr H locs ls hz hl => lv_idiv X.1 X.2.1 d hne (kk r hr H locs ls hz hl))
theorem g_dup (X : gX p s m args meth c cc nL own rt D tys) {v : Value} (d : decode cc pc = .ok (.dup, 1)) (hc : v.category = 1) (kk : gG p l e R s m args below meth c nL Z kc ks QQ (pc + 1) lv (v :: v :: st) F) : gG p l e R s m args below meth c nL Z kc ks QQ pc lv (v :: st) F := fun r hr H locs ls hz hl => lv_dup X.1 X.2.1 d hc (kk r hr H locs ls hz hl)
theorem g_dup2 (X : gX p s m args meth c cc nL own rt D tys) {v w : Value} (d : decode cc pc = .ok (.dup2, 1)) (hc : v.category = 1) (hw : w.category = 1) (kk : gG p l e R s m args below meth c nL Z kc ks QQ (pc + 1) lv (v :: w :: v :: w :: st) F) : gG p l e R s m args below meth c nL Z kc ks QQ pc lv (v :: w :: st) F := fun r hr H locs ls hz hl => lv_dup2_11 X.1 X.2.1 d hc hw (kk r hr H locs ls hz hl)
theorem g_pop (X : gX p s m args meth c cc nL own rt D tys) {v : Value} (d : decode cc pc = .ok (.pop, 1)) (hc : v.category = 1) (kk : gG p l e R s m args below meth c nL Z kc ks QQ (pc + 1) lv st F) : gG p l e R s m args below meth c nL Z kc ks QQ pc lv (v :: st) F := fun r hr H locs ls hz hl => lv_pop X.1 X.2.1 d hc (kk r hr H locs ls hz hl)
theorem g_goto (X : gX p s m args meth c cc nL own rt D tys) {off : Int} {tgt : Nat} (d : decode cc pc = .ok (.goto off, 3)) (ht : (pc : Int) + off = (tgt : Int)) (kk : gG p l e R s m args below meth c nL Z kc ks QQ tgt lv st F) : gG p l e R s m args below meth c nL Z kc ks QQ pc lv st F := fun r hr H locs ls hz hl => lv_goto X.1 X.2.1 d ht (kk r hr H locs ls hz hl)
theorem g_if_eq (X : gX p s m args meth c cc nL own rt D tys) {x : Int32} {off : Int} {tgt : Nat} (d : decode cc pc = .ok (.ifCond .eq off, 3)) (ht : (pc : Int) + off = (tgt : Int)) (kt : gG p l e R s m args below meth c nL Z kc ks QQ tgt lv st F1) (kf : gG p l e R s m args below meth c nL Z kc ks QQ (pc + 3) lv st F2) : gG p l e R s m args below meth c nL Z kc ks QQ pc lv (.int x :: st) (if x = 0 then F1 else F2) := fun r hr H locs ls hz hl => lv_if_eq X.1 X.2.1 d ht (fun hc => kt r (by rw [if_pos hc] at hr; exact hr) H locs ls hz hl) (fun hc => kf r (by rw [if_neg hc] at hr; exact hr) H locs ls hz hl)
theorem g_icmp_eq (X : gX p s m args meth c cc nL own rt D tys) {x y : Int32} {off : Int} {tgt : Nat} (d : decode cc pc = .ok (.if_icmp .eq off, 3)) (ht : (pc : Int) + off = (tgt : Int)) (kt : gG p l e R s m args below meth c nL Z kc ks QQ tgt lv st F1) (kf : gG p l e R s m args below meth c nL Z kc ks QQ (pc + 3) lv st F2) : gG p l e R s m args below meth c nL Z kc ks QQ pc lv (.int y :: .int x :: st) (if x = y then F1 else F2) := fun r hr H locs ls hz hl => lv_icmp_eq X.1 X.2.1 d ht (fun hc => kt r (by rw [if_pos hc] at hr; exact hr) H locs ls hz hl) (fun hc => kf r (by rw [if_neg hc] at hr; exact hr) H locs ls hz hl)
theorem g_if_ne (X : gX p s m args meth c cc nL own rt D tys) {x : Int32} {off : Int} {tgt : Nat} (d : decode cc pc = .ok (.ifCond .ne off, 3)) (ht : (pc : Int) + off = (tgt : Int)) (kt : gG p l e R s m args below meth c nL Z kc ks QQ tgt lv st F1) (kf : gG p l e R s m args below meth c nL Z kc ks QQ (pc + 3) lv st F2) : gG p l e R s m args below meth c nL Z kc ks QQ pc lv (.int x :: st) (if x = 0 then F2 else F1) := fun r hr H locs ls hz hl => lv_if_ne X.1 X.2.1 d ht (fun hc => kt r (by rw [if_neg hc] at hr; exact hr) H locs ls hz hl) (fun hc => kf r (by rw [if_pos hc] at hr; exact hr) H locs ls hz hl)
theorem g_icmp_ne (X : gX p s m args meth c cc nL own rt D tys) {x y : Int32} {off : Int} {tgt : Nat} (d : decode cc pc = .ok (.if_icmp .ne off, 3)) (ht : (pc : Int) + off = (tgt : Int)) (kt : gG p l e R s m args below meth c nL Z kc ks QQ tgt lv st F1) (kf : gG p l e R s m args below meth c nL Z kc ks QQ (pc + 3) lv st F2) : gG p l e R s m args below meth c nL Z kc ks QQ pc lv (.int y :: .int x :: st) (if x = y then F2 else F1) := fun r hr H locs ls hz hl => lv_icmp_ne X.1 X.2.1 d ht (fun hc => kt r (by rw [if_neg hc] at hr; exact hr) H locs ls hz hl) (fun hc => kf r (by rw [if_pos hc] at hr; exact hr) H locs ls hz hl)
theorem g_if_lt (X : gX p s m args meth c cc nL own rt D tys) {x : Int32} {off : Int} {tgt : Nat} (d : decode cc pc = .ok (.ifCond .lt off, 3)) (ht : (pc : Int) + off = (tgt : Int)) (kt : gG p l e R s m args below meth c nL Z kc ks QQ tgt lv st F1) (kf : gG p l e R s m args below meth c nL Z kc ks QQ (pc + 3) lv st F2) : gG p l e R s m args below meth c nL Z kc ks QQ pc lv (.int x :: st) (if x < 0 then F1 else F2) := fun r hr H locs ls hz hl => lv_if_lt X.1 X.2.1 d ht (fun hc => kt r (by rw [if_pos hc] at hr; exact hr) H locs ls hz hl) (fun hc => kf r (by rw [if_neg hc] at hr; exact hr) H locs ls hz hl)
theorem g_icmp_lt (X : gX p s m args meth c cc nL own rt D tys) {x y : Int32} {off : Int} {tgt : Nat} (d : decode cc pc = .ok (.if_icmp .lt off, 3)) (ht : (pc : Int) + off = (tgt : Int)) (kt : gG p l e R s m args below meth c nL Z kc ks QQ tgt lv st F1) (kf : gG p l e R s m args below meth c nL Z kc ks QQ (pc + 3) lv st F2) : gG p l e R s m args below meth c nL Z kc ks QQ pc lv (.int y :: .int x :: st) (if x < y then F1 else F2) := fun r hr H locs ls hz hl => lv_icmp_lt X.1 X.2.1 d ht (fun hc => kt r (by rw [if_pos hc] at hr; exact hr) H locs ls hz hl) (fun hc => kf r (by rw [if_neg hc] at hr; exact hr) H locs ls hz hl)
theorem g_if_ge (X : gX p s m args meth c cc nL own rt D tys) {x : Int32} {off : Int} {tgt : Nat} (d : decode cc pc = .ok (.ifCond .ge off, 3)) (ht : (pc : Int) + off = (tgt : Int)) (kt : gG p l e R s m args below meth c nL Z kc ks QQ tgt lv st F1) (kf : gG p l e R s m args below meth c nL Z kc ks QQ (pc + 3) lv st F2) : gG p l e R s m args below meth c nL Z kc ks QQ pc lv (.int x :: st) (if 0 ≤ x then F1 else F2) := fun r hr H locs ls hz hl => lv_if_ge X.1 X.2.1 d ht (fun hc => kt r (by rw [if_pos hc] at hr; exact hr) H locs ls hz hl) (fun hc => kf r (by rw [if_neg hc] at hr; exact hr) H locs ls hz hl)
theorem g_icmp_ge (X : gX p s m args meth c cc nL own rt D tys) {x y : Int32} {off : Int} {tgt : Nat} (d : decode cc pc = .ok (.if_icmp .ge off, 3)) (ht : (pc : Int) + off = (tgt : Int)) (kt : gG p l e R s m args below meth c nL Z kc ks QQ tgt lv st F1) (kf : gG p l e R s m args below meth c nL Z kc ks QQ (pc + 3) lv st F2) : gG p l e R s m args below meth c nL Z kc ks QQ pc lv (.int y :: .int x :: st) (if y ≤ x then F1 else F2) := fun r hr H locs ls hz hl => lv_icmp_ge X.1 X.2.1 d ht (fun hc => kt r (by rw [if_pos hc] at hr; exact hr) H locs ls hz hl) (fun hc => kf r (by rw [if_neg hc] at hr; exact hr) H locs ls hz hl)
theorem g_if_gt (X : gX p s m args meth c cc nL own rt D tys) {x : Int32} {off : Int} {tgt : Nat} (d : decode cc pc = .ok (.ifCond .gt off, 3)) (ht : (pc : Int) + off = (tgt : Int)) (kt : gG p l e R s m args below meth c nL Z kc ks QQ tgt lv st F1) (kf : gG p l e R s m args below meth c nL Z kc ks QQ (pc + 3) lv st F2) : gG p l e R s m args below meth c nL Z kc ks QQ pc lv (.int x :: st) (if 0 < x then F1 else F2) := fun r hr H locs ls hz hl => lv_if_gt X.1 X.2.1 d ht (fun hc => kt r (by rw [if_pos hc] at hr; exact hr) H locs ls hz hl) (fun hc => kf r (by rw [if_neg hc] at hr; exact hr) H locs ls hz hl)
theorem g_icmp_gt (X : gX p s m args meth c cc nL own rt D tys) {x y : Int32} {off : Int} {tgt : Nat} (d : decode cc pc = .ok (.if_icmp .gt off, 3)) (ht : (pc : Int) + off = (tgt : Int)) (kt : gG p l e R s m args below meth c nL Z kc ks QQ tgt lv st F1) (kf : gG p l e R s m args below meth c nL Z kc ks QQ (pc + 3) lv st F2) : gG p l e R s m args below meth c nL Z kc ks QQ pc lv (.int y :: .int x :: st) (if y < x then F1 else F2) := fun r hr H locs ls hz hl => lv_icmp_gt X.1 X.2.1 d ht (fun hc => kt r (by rw [if_pos hc] at hr; exact hr) H locs ls hz hl) (fun hc => kf r (by rw [if_neg hc] at hr; exact hr) H locs ls hz hl)
theorem g_if_le (X : gX p s m args meth c cc nL own rt D tys) {x : Int32} {off : Int} {tgt : Nat} (d : decode cc pc = .ok (.ifCond .le off, 3)) (ht : (pc : Int) + off = (tgt : Int)) (kt : gG p l e R s m args below meth c nL Z kc ks QQ tgt lv st F1) (kf : gG p l e R s m args below meth c nL Z kc ks QQ (pc + 3) lv st F2) : gG p l e R s m args below meth c nL Z kc ks QQ pc lv (.int x :: st) (if x ≤ 0 then F1 else F2) := fun r hr H locs ls hz hl => lv_if_le X.1 X.2.1 d ht (fun hc => kt r (by rw [if_pos hc] at hr; exact hr) H locs ls hz hl) (fun hc => kf r (by rw [if_neg hc] at hr; exact hr) H locs ls hz hl)
theorem g_icmp_le (X : gX p s m args meth c cc nL own rt D tys) {x y : Int32} {off : Int} {tgt : Nat} (d : decode cc pc = .ok (.if_icmp .le off, 3)) (ht : (pc : Int) + off = (tgt : Int)) (kt : gG p l e R s m args below meth c nL Z kc ks QQ tgt lv st F1) (kf : gG p l e R s m args below meth c nL Z kc ks QQ (pc + 3) lv st F2) : gG p l e R s m args below meth c nL Z kc ks QQ pc lv (.int y :: .int x :: st) (if x ≤ y then F1 else F2) := fun r hr H locs ls hz hl => lv_icmp_le X.1 X.2.1 d ht (fun hc => kt r (by rw [if_pos hc] at hr; exact hr) H locs ls hz hl) (fun hc => kf r (by rw [if_neg hc] at hr; exact hr) H locs ls hz hl)
theorem g_tOut (X : gX p s m args meth c cc nL own rt D tys) {x : Int32} {df lo hi : Int} {offs : Array Int} {len tgt : Nat} (d : decode cc pc = .ok (.tableswitch df lo hi offs, len)) (h : x.toInt < lo ∨ hi < x.toInt) (ht : (pc : Int) + df = (tgt : Int)) (kk : gG p l e R s m args below meth c nL Z kc ks QQ tgt lv st F) : gG p l e R s m args below meth c nL Z kc ks QQ pc lv (.int x :: st) F := fun r hr H locs ls hz hl => lv_tableOut X.1 X.2.1 d h ht (kk r hr H locs ls hz hl)
theorem g_tIn (X : gX p s m args meth c cc nL own rt D tys) {x : Int32} {df lo hi off : Int} {offs : Array Int} {len tgt : Nat} (d : decode cc pc = .ok (.tableswitch df lo hi offs, len)) (h1 : ¬ x.toInt < lo) (h2 : ¬ hi < x.toInt) (ho : offs[(x.toInt - lo).toNat]? = some off) (ht : (pc : Int) + off = (tgt : Int)) (kk : gG p l e R s m args below meth c nL Z kc ks QQ tgt lv st F) : gG p l e R s m args below meth c nL Z kc ks QQ pc lv (.int x :: st) F := fun r hr H locs ls hz hl => lv_tableIn X.1 X.2.1 d h1 h2 ho ht (kk r hr H locs ls hz hl)
theorem tn_i {x k : Int32} {n : Int} (h : ¬ x = k) (hk : k.toInt = n) : ¬ x.toInt = n := fun e => h (Int32.toInt_inj.mp (e.trans hk.symm))
end GG
end
section
abbrev MR : Type := Nat → Nat → Int32
def mS (M : MR) (j i : Nat) (v : Int32) : MR := fun a b => if a = j then (if b = i then v else M a b) else M a b
def fsR (q : Nat → Nat) (M : MR) : List Value := [.ref (q 0), .ref (q 1), .ref (q 2), .int (M 3 0), .ref (q 4), .ref (q 5), .int (M 6 0), .int (M 7 0), .int (M 8 0), .ref (q 9), .ref (q 10), .ref (q 11), .int (M 12 0), .ref (q 13), .ref (q 14), .ref (q 15), .ref (q 16), .ref (q 17), .ref (q 18), .ref (q 19), .int (M 20 0), .int (M 21 0), .int (M 22 0), .int (M 23 0), .int (M 24 0), .int (M 25 0), .ref (q 26), .ref (q 27), .ref (q 28), .ref (q 29), .int (M 30 0), .int (M 31 0), .int (M 32 0), .int (M 33 0)]
def wR (cI cZ : ClassId) (q : Nat → Nat) (M : MR) : va_W := [(q 34, .inr (5, fsR q M)), (q 0, .inl (cI, 62610, .inl (M 0))), (q 1, .inl (cZ, 2, .inl (M 1))), (q 2, .inl (cI, 60, .inl (M 2))), (q 4, .inl (cI, 60, .inl (M 4))), (q 5, .inl (cI, 60, .inl (M 5))), (q 9, .inl (cZ, 150, .inl (M 9))), (q 10, .inl (cZ, 2000, .inl (M 10))), (q 11, .inl (cI, 2000, .inl (M 11))), (q 13, .inl (cI, 22, .inl (M 13))), (q 14, .inl (cI, 22, .inl (M 14))), (q 15, .inl (cI, 22, .inl (M 15))), (q 16, .inl (cI, 22, .inl (M 16))), (q 17, .inl (cZ, 22, .inl (M 17))), (q 18, .inl (cI, 22, .inl (M 18))), (q 19, .inl (cI, 22, .inl (M 19))), (q 26, .inl (cZ, 20, .inl (M 26))), (q 27, .inl (cI, 20, .inl (M 27))), (q 28, .inl (cZ, 40, .inl (M 28))), (q 29, .inl (cZ, 40, .inl (M 29)))]
abbrev tyR (cI cZ : ClassId) : List (ClassId × FieldType) := [(cI, .int), (cZ, .boolean)]
def AR (q : Nat → Nat) (sz : Nat) : Nat → Prop := fun x => (x = q 34 ∨ x = q 0 ∨ x = q 1 ∨ x = q 2 ∨ x = q 4 ∨ x = q 5 ∨ x = q 9 ∨ x = q 10 ∨ x = q 11 ∨ x = q 13 ∨ x = q 14 ∨ x = q 15 ∨ x = q 16 ∨ x = q 17 ∨ x = q 18 ∨ x = q 19 ∨ x = q 26 ∨ x = q 27 ∨ x = q 28 ∨ x = q 29) ∨ sz ≤ x
theorem wR_len (cI cZ : ClassId) (q : Nat → Nat) (M : MR) : (wR cI cZ q M).map (fun x => x.1) = [q 34, q 0, q 1, q 2, q 4, q 5, q 9, q 10, q 11, q 13, q 14, q 15, q 16, q 17, q 18, q 19, q 26, q 27, q 28, q 29] := rfl
theorem AR_in {cI cZ : ClassId} {q : Nat → Nat} {M : MR} {sz x : Nat} : va_A (wR cI cZ q M) sz x ↔ AR q sz x := by
  have h : (∃ (k : Nat) (e : va_E), (wR cI cZ q M)[k]? = some (x, e)) ↔ x ∈ (wR cI cZ q M).map (fun y => y.1) := by
    constructor
    · rintro ⟨k, e, h⟩
      exact List.mem_map.mpr ⟨_, List.mem_of_getElem? h, rfl⟩
    · intro h
      obtain ⟨y, hy, rfl⟩ := List.mem_map.mp h
      obtain ⟨k, hk⟩ := List.getElem?_of_mem hy
      exact ⟨k, y.2, hk⟩
  unfold va_A AR
  rw [h, wR_len]
  simp only [List.mem_cons, List.not_mem_nil, or_false]
theorem AR_eq {cI cZ : ClassId} {q : Nat → Nat} {M : MR} {sz : Nat} : va_A (wR cI cZ q M) sz = AR q sz := funext fun _ => propext AR_in
theorem AR_mono {q : Nat → Nat} {a b x : Nat} (h : a ≤ b) (hx : AR q b x) : AR q a x := by
  rcases hx with hx | hx
  · exact Or.inl hx
  · exact Or.inr (Nat.le_trans h hx)
/-- the world of the reference holds -/
def ZR (D : va_G) (cI cZ : ClassId) (q : Nat → Nat) (A : Nat → Prop) (H0 : Heap) (M : MR) : Heap → List Loc → Prop := fun H locs => va_P D vwCl (wR cI cZ q M) H ∧ va_D A (wR cI cZ q M) ∧ va_S A H0 H locs
-- the pure program's words
def rd {ρ : Type} (M : MR) (j n : Nat) (i : Int32) (K : Int32 → Option ρ) : Option ρ := if i < 0 ∨ n ≤ i.toNatClampNeg then none else K (M j i.toNatClampNeg)
def wr {ρ : Type} (M : MR) (j n : Nat) (i v : Int32) (K : MR → Option ρ) : Option ρ := if i < 0 ∨ n ≤ i.toNatClampNeg then none else K (mS M j i.toNatClampNeg v)
def wz {ρ : Type} (M : MR) (j n : Nat) (i v : Int32) (K : MR → Option ρ) : Option ρ := if i < 0 ∨ n ≤ i.toNatClampNeg then none else K (mS M j i.toNatClampNeg (vp_nar .boolean v))
def gf {ρ : Type} (M : MR) (j : Nat) (K : Int32 → Option ρ) : Option ρ := K (M j 0)
def pf {ρ : Type} (M : MR) (j : Nat) (v : Int32) (K : MR → Option ρ) : Option ρ := K (mS M j 0 v)
def bnd {α β ρ : Type} (x : Option (α × β)) (K : α → β → Option ρ) : Option ρ := match x with
  | none => none
  | some a => K a.1 a.2
def bo (v : Int32) : Prop := v = 0 ∨ v = 1
def zt {ρ : Type} (v : Int32) (F : Option ρ) : Option ρ := if v = 0 then F else if v = 1 then F else none
theorem zt_bo {ρ : Type} {v : Int32} {F : Option ρ} {r : ρ} (h : zt v F = some r) : bo v ∧ F = some r := by
  unfold zt at h
  by_cases h0 : v = 0
  · rw [if_pos h0] at h; exact ⟨Or.inl h0, h⟩
  · rw [if_neg h0] at h
    by_cases h1 : v = 1
    · rw [if_pos h1] at h; exact ⟨Or.inr h1, h⟩
    · rw [if_neg h1] at h; cases h
theorem bo_nar {v : Int32} (h : bo v) : narrow .boolean (.int v) = .int v ∧ fits .boolean (.int v) = true := by
  rcases h with rfl | rfl <;> exact ⟨by decide +kernel, by decide +kernel⟩
theorem gX5 : ∀ w ∈ u_ws RX5 TX5 34, goodWord w = true := by decide +kernel
theorem jX5 : ∀ w ∈ u_ws RX5 TX5 34, w ∈ tt := fun w h => tt_in (iX5 w h) (gX5 w h)
theorem fl5_m : Cond.fieldLink RX5 8 "EditionBookModel" "m" "[I" ∈ tt := tt_in (List.mem_of_getElem? (i := 769) (by decide +kernel)) (by decide +kernel)
theorem fl5_isKept : Cond.fieldLink RX5 14 "EditionBookModel" "isKept" "[Z" ∈ tt := tt_in (List.mem_of_getElem? (i := 770) (by decide +kernel)) (by decide +kernel)
theorem fl5_tape : Cond.fieldLink RX5 18 "EditionBookModel" "tape" "[I" ∈ tt := tt_in (List.mem_of_getElem? (i := 771) (by decide +kernel)) (by decide +kernel)
theorem fl5_taped : Cond.fieldLink RX5 80 "EditionBookModel" "taped" "I" ∈ tt := tt_in (List.mem_of_getElem? (i := 772) (by decide +kernel)) (by decide +kernel)
theorem fl5_text : Cond.fieldLink RX5 21 "EditionBookModel" "text" "[I" ∈ tt := tt_in (List.mem_of_getElem? (i := 773) (by decide +kernel)) (by decide +kernel)
theorem fl5_meant : Cond.fieldLink RX5 24 "EditionBookModel" "meant" "[I" ∈ tt := tt_in (List.mem_of_getElem? (i := 774) (by decide +kernel)) (by decide +kernel)
theorem fl5_length : Cond.fieldLink RX5 90 "EditionBookModel" "length" "I" ∈ tt := tt_in (List.mem_of_getElem? (i := 775) (by decide +kernel)) (by decide +kernel)
theorem fl5_fault : Cond.fieldLink RX5 84 "EditionBookModel" "fault" "I" ∈ tt := tt_in (List.mem_of_getElem? (i := 776) (by decide +kernel)) (by decide +kernel)
theorem fl5_at : Cond.fieldLink RX5 87 "EditionBookModel" "at" "I" ∈ tt := tt_in (List.mem_of_getElem? (i := 777) (by decide +kernel)) (by decide +kernel)
theorem fl5_leaned : Cond.fieldLink RX5 27 "EditionBookModel" "leaned" "[Z" ∈ tt := tt_in (List.mem_of_getElem? (i := 778) (by decide +kernel)) (by decide +kernel)
theorem fl5_isObj : Cond.fieldLink RX5 30 "EditionBookModel" "isObj" "[Z" ∈ tt := tt_in (List.mem_of_getElem? (i := 779) (by decide +kernel)) (by decide +kernel)
theorem fl5_value : Cond.fieldLink RX5 33 "EditionBookModel" "value" "[I" ∈ tt := tt_in (List.mem_of_getElem? (i := 780) (by decide +kernel)) (by decide +kernel)
theorem fl5_top : Cond.fieldLink RX5 147 "EditionBookModel" "top" "I" ∈ tt := tt_in (List.mem_of_getElem? (i := 781) (by decide +kernel)) (by decide +kernel)
theorem fl5_source : Cond.fieldLink RX5 36 "EditionBookModel" "source" "[I" ∈ tt := tt_in (List.mem_of_getElem? (i := 782) (by decide +kernel)) (by decide +kernel)
theorem fl5_place : Cond.fieldLink RX5 39 "EditionBookModel" "place" "[I" ∈ tt := tt_in (List.mem_of_getElem? (i := 783) (by decide +kernel)) (by decide +kernel)
theorem fl5_end : Cond.fieldLink RX5 42 "EditionBookModel" "end" "[I" ∈ tt := tt_in (List.mem_of_getElem? (i := 784) (by decide +kernel)) (by decide +kernel)
theorem fl5_self : Cond.fieldLink RX5 45 "EditionBookModel" "self" "[I" ∈ tt := tt_in (List.mem_of_getElem? (i := 785) (by decide +kernel)) (by decide +kernel)
theorem fl5_isArgObj : Cond.fieldLink RX5 48 "EditionBookModel" "isArgObj" "[Z" ∈ tt := tt_in (List.mem_of_getElem? (i := 786) (by decide +kernel)) (by decide +kernel)
theorem fl5_argument : Cond.fieldLink RX5 51 "EditionBookModel" "argument" "[I" ∈ tt := tt_in (List.mem_of_getElem? (i := 787) (by decide +kernel)) (by decide +kernel)
theorem fl5_starts : Cond.fieldLink RX5 54 "EditionBookModel" "starts" "[I" ∈ tt := tt_in (List.mem_of_getElem? (i := 788) (by decide +kernel)) (by decide +kernel)
theorem fl5_frames : Cond.fieldLink RX5 150 "EditionBookModel" "frames" "I" ∈ tt := tt_in (List.mem_of_getElem? (i := 789) (by decide +kernel)) (by decide +kernel)
theorem fl5_inner : Cond.fieldLink RX5 153 "EditionBookModel" "inner" "I" ∈ tt := tt_in (List.mem_of_getElem? (i := 790) (by decide +kernel)) (by decide +kernel)
theorem fl5_again : Cond.fieldLink RX5 162 "EditionBookModel" "again" "Z" ∈ tt := tt_in (List.mem_of_getElem? (i := 791) (by decide +kernel)) (by decide +kernel)
theorem fl5_steps : Cond.fieldLink RX5 159 "EditionBookModel" "steps" "I" ∈ tt := tt_in (List.mem_of_getElem? (i := 792) (by decide +kernel)) (by decide +kernel)
theorem fl5_failure : Cond.fieldLink RX5 156 "EditionBookModel" "failure" "I" ∈ tt := tt_in (List.mem_of_getElem? (i := 793) (by decide +kernel)) (by decide +kernel)
theorem fl5_wrote : Cond.fieldLink RX5 215 "EditionBookModel" "wrote" "I" ∈ tt := tt_in (List.mem_of_getElem? (i := 794) (by decide +kernel)) (by decide +kernel)
theorem fl5_isWrittenObj : Cond.fieldLink RX5 57 "EditionBookModel" "isWrittenObj" "[Z" ∈ tt := tt_in (List.mem_of_getElem? (i := 795) (by decide +kernel)) (by decide +kernel)
theorem fl5_writtenValue : Cond.fieldLink RX5 60 "EditionBookModel" "writtenValue" "[I" ∈ tt := tt_in (List.mem_of_getElem? (i := 796) (by decide +kernel)) (by decide +kernel)
theorem fl5_isStale : Cond.fieldLink RX5 63 "EditionBookModel" "isStale" "[Z" ∈ tt := tt_in (List.mem_of_getElem? (i := 797) (by decide +kernel)) (by decide +kernel)
theorem fl5_waits : Cond.fieldLink RX5 66 "EditionBookModel" "waits" "[Z" ∈ tt := tt_in (List.mem_of_getElem? (i := 798) (by decide +kernel)) (by decide +kernel)
theorem fl5_cameKind : Cond.fieldLink RX5 269 "EditionBookModel" "cameKind" "I" ∈ tt := tt_in (List.mem_of_getElem? (i := 799) (by decide +kernel)) (by decide +kernel)
theorem fl5_cameValue : Cond.fieldLink RX5 272 "EditionBookModel" "cameValue" "I" ∈ tt := tt_in (List.mem_of_getElem? (i := 800) (by decide +kernel)) (by decide +kernel)
theorem fl5_cameFailure : Cond.fieldLink RX5 275 "EditionBookModel" "cameFailure" "I" ∈ tt := tt_in (List.mem_of_getElem? (i := 801) (by decide +kernel)) (by decide +kernel)
theorem fl5_cameSteps : Cond.fieldLink RX5 278 "EditionBookModel" "cameSteps" "I" ∈ tt := tt_in (List.mem_of_getElem? (i := 802) (by decide +kernel)) (by decide +kernel)
section RR
variable {ρ : Type} {p : Program} {l : Launch} {e : Env} {R : Room} {s : State} {m : MethodId} {args : Array Value} {below : List Frame} {meth : Method} {c : Code}
variable {cc : ByteArray} {nL : Nat} {rt : Option FieldType} {D : va_G} {cI cZ : ClassId} {q : Nat → Nat} {A : Nat → Prop} {H0 : Heap} {M : MR} {kc ks : Nat} {QQ : ρ → State → Prop} {pc : Nat} {lv : List (Nat × Value)} {st : List Value} {F : Option ρ}
theorem r_g_m (X : gX p s m args meth c cc nL RX5 rt D (tyR cI cZ)) (d : decode cc pc = .ok (.getfield 8, 3)) (kk : gG p l e R s m args below meth c nL (ZR D cI cZ q A H0 M) kc ks QQ (pc + 3) lv (.ref (q 0) :: st) F) : gG p l e R s m args below meth c nL (ZR D cI cZ q A H0 M) kc ks QQ pc lv (.ref (q 34) :: st) F := fun r hr H locs ls hz hl => va_get (D := D) (ci := 5) (C := RX5) (T := TX5) (N := 34) X.1 X.2.1 X.2.2.2.2.1 jX5 X.2.2.2.1 X.2.2.2.2.2.1 hz.1 0 rfl rfl 0 (by decide) (X.2.2.2.2.1 _ fl5_m) (fun _ h9 => h9) rfl d (kk r hr H locs ls hz hl)
theorem r_l_m (X : gX p s m args meth c cc nL RX5 rt D (tyR cI cZ)) {i : Int32} {K : Int32 → Option ρ} (d : decode cc pc = .ok (.iaload, 1)) (kk : ∀ v, gG p l e R s m args below meth c nL (ZR D cI cZ q A H0 M) kc ks QQ (pc + 1) lv (.int v :: st) (K v)) : gG p l e R s m args below meth c nL (ZR D cI cZ q A H0 M) kc ks QQ pc lv (.int i :: .ref (q 0) :: st) (rd M 0 62610 i K) := g_ite (fun _ => g_none) (fun hin r hr H locs ls hz hl => va_iald X.1 X.2.1 X.2.2.2.2.2.1 hz.1 1 0 rfl rfl hin d (kk _ r hr H locs ls hz hl))
theorem r_e_m (cI cZ : ClassId) (q : Nat → Nat) (M : MR) (i : Nat) (v : Int32) : (wR cI cZ q M).set 1 (q 0, .inl (cI, 62610, .inl (upd (M 0) i v))) = wR cI cZ q (mS M 0 i v) := rfl
theorem r_s_m (X : gX p s m args meth c cc nL RX5 rt D (tyR cI cZ)) {i v : Int32} {K : MR → Option ρ} (d : decode cc pc = .ok (.iastore, 1)) (kk : ∀ M1, gG p l e R s m args below meth c nL (ZR D cI cZ q A H0 M1) kc ks QQ (pc + 1) lv st (K M1)) : gG p l e R s m args below meth c nL (ZR D cI cZ q A H0 M) kc ks QQ pc lv (.int v :: .int i :: .ref (q 0) :: st) (wr M 0 62610 i v K) := g_ite (fun _ => g_none) (fun hin r hr H locs ls hz hl => va_iast X.1 X.2.1 X.2.2.2.2.2.1 hz.1 hz.2.1 hz.2.2 1 0 rfl rfl hin d (fun H1 locs1 h1 h2 h3 => kk (mS M 0 i.toNatClampNeg v) r hr H1 locs1 ls ⟨(r_e_m cI cZ q M _ _) ▸ h1, (r_e_m cI cZ q M _ _) ▸ h2, h3⟩ hl))
theorem r_g_isKept (X : gX p s m args meth c cc nL RX5 rt D (tyR cI cZ)) (d : decode cc pc = .ok (.getfield 14, 3)) (kk : gG p l e R s m args below meth c nL (ZR D cI cZ q A H0 M) kc ks QQ (pc + 3) lv (.ref (q 1) :: st) F) : gG p l e R s m args below meth c nL (ZR D cI cZ q A H0 M) kc ks QQ pc lv (.ref (q 34) :: st) F := fun r hr H locs ls hz hl => va_get (D := D) (ci := 5) (C := RX5) (T := TX5) (N := 34) X.1 X.2.1 X.2.2.2.2.1 jX5 X.2.2.2.1 X.2.2.2.2.2.1 hz.1 0 rfl rfl 1 (by decide) (X.2.2.2.2.1 _ fl5_isKept) (fun _ h9 => h9) rfl d (kk r hr H locs ls hz hl)
theorem r_l_isKept (X : gX p s m args meth c cc nL RX5 rt D (tyR cI cZ)) {i : Int32} {K : Int32 → Option ρ} (d : decode cc pc = .ok (.baload, 1)) (kk : ∀ v, gG p l e R s m args below meth c nL (ZR D cI cZ q A H0 M) kc ks QQ (pc + 1) lv (.int v :: st) (K v)) : gG p l e R s m args below meth c nL (ZR D cI cZ q A H0 M) kc ks QQ pc lv (.int i :: .ref (q 1) :: st) (rd M 1 2 i K) := g_ite (fun _ => g_none) (fun hin r hr H locs ls hz hl => va_zald X.1 X.2.1 X.2.2.2.2.2.1 hz.1 2 1 rfl rfl hin d (kk _ r hr H locs ls hz hl))
theorem r_e_isKept (cI cZ : ClassId) (q : Nat → Nat) (M : MR) (i : Nat) (v : Int32) : (wR cI cZ q M).set 2 (q 1, .inl (cZ, 2, .inl (upd (M 1) i v))) = wR cI cZ q (mS M 1 i v) := rfl
theorem r_s_isKept (X : gX p s m args meth c cc nL RX5 rt D (tyR cI cZ)) {i v : Int32} {K : MR → Option ρ} (d : decode cc pc = .ok (.bastore, 1)) (kk : ∀ M1, gG p l e R s m args below meth c nL (ZR D cI cZ q A H0 M1) kc ks QQ (pc + 1) lv st (K M1)) : gG p l e R s m args below meth c nL (ZR D cI cZ q A H0 M) kc ks QQ pc lv (.int v :: .int i :: .ref (q 1) :: st) (wz M 1 2 i v K) := g_ite (fun _ => g_none) (fun hin r hr H locs ls hz hl => va_zast X.1 X.2.1 X.2.2.2.2.2.1 hz.1 hz.2.1 hz.2.2 2 1 rfl rfl hin d (fun H1 locs1 h1 h2 h3 => kk (mS M 1 i.toNatClampNeg (vp_nar .boolean v)) r hr H1 locs1 ls ⟨(r_e_isKept cI cZ q M _ _) ▸ h1, (r_e_isKept cI cZ q M _ _) ▸ h2, h3⟩ hl))
theorem r_g_tape (X : gX p s m args meth c cc nL RX5 rt D (tyR cI cZ)) (d : decode cc pc = .ok (.getfield 18, 3)) (kk : gG p l e R s m args below meth c nL (ZR D cI cZ q A H0 M) kc ks QQ (pc + 3) lv (.ref (q 2) :: st) F) : gG p l e R s m args below meth c nL (ZR D cI cZ q A H0 M) kc ks QQ pc lv (.ref (q 34) :: st) F := fun r hr H locs ls hz hl => va_get (D := D) (ci := 5) (C := RX5) (T := TX5) (N := 34) X.1 X.2.1 X.2.2.2.2.1 jX5 X.2.2.2.1 X.2.2.2.2.2.1 hz.1 0 rfl rfl 2 (by decide) (X.2.2.2.2.1 _ fl5_tape) (fun _ h9 => h9) rfl d (kk r hr H locs ls hz hl)
theorem r_l_tape (X : gX p s m args meth c cc nL RX5 rt D (tyR cI cZ)) {i : Int32} {K : Int32 → Option ρ} (d : decode cc pc = .ok (.iaload, 1)) (kk : ∀ v, gG p l e R s m args below meth c nL (ZR D cI cZ q A H0 M) kc ks QQ (pc + 1) lv (.int v :: st) (K v)) : gG p l e R s m args below meth c nL (ZR D cI cZ q A H0 M) kc ks QQ pc lv (.int i :: .ref (q 2) :: st) (rd M 2 60 i K) := g_ite (fun _ => g_none) (fun hin r hr H locs ls hz hl => va_iald X.1 X.2.1 X.2.2.2.2.2.1 hz.1 3 0 rfl rfl hin d (kk _ r hr H locs ls hz hl))
theorem r_e_tape (cI cZ : ClassId) (q : Nat → Nat) (M : MR) (i : Nat) (v : Int32) : (wR cI cZ q M).set 3 (q 2, .inl (cI, 60, .inl (upd (M 2) i v))) = wR cI cZ q (mS M 2 i v) := rfl
theorem r_s_tape (X : gX p s m args meth c cc nL RX5 rt D (tyR cI cZ)) {i v : Int32} {K : MR → Option ρ} (d : decode cc pc = .ok (.iastore, 1)) (kk : ∀ M1, gG p l e R s m args below meth c nL (ZR D cI cZ q A H0 M1) kc ks QQ (pc + 1) lv st (K M1)) : gG p l e R s m args below meth c nL (ZR D cI cZ q A H0 M) kc ks QQ pc lv (.int v :: .int i :: .ref (q 2) :: st) (wr M 2 60 i v K) := g_ite (fun _ => g_none) (fun hin r hr H locs ls hz hl => va_iast X.1 X.2.1 X.2.2.2.2.2.1 hz.1 hz.2.1 hz.2.2 3 0 rfl rfl hin d (fun H1 locs1 h1 h2 h3 => kk (mS M 2 i.toNatClampNeg v) r hr H1 locs1 ls ⟨(r_e_tape cI cZ q M _ _) ▸ h1, (r_e_tape cI cZ q M _ _) ▸ h2, h3⟩ hl))
theorem r_g_taped (X : gX p s m args meth c cc nL RX5 rt D (tyR cI cZ)) {K : Int32 → Option ρ} (d : decode cc pc = .ok (.getfield 80, 3)) (kk : ∀ v, gG p l e R s m args below meth c nL (ZR D cI cZ q A H0 M) kc ks QQ (pc + 3) lv (.int v :: st) (K v)) : gG p l e R s m args below meth c nL (ZR D cI cZ q A H0 M) kc ks QQ pc lv (.ref (q 34) :: st) (gf M 3 K) := fun r hr H locs ls hz hl => va_get (D := D) (ci := 5) (C := RX5) (T := TX5) (N := 34) X.1 X.2.1 X.2.2.2.2.1 jX5 X.2.2.2.1 X.2.2.2.2.2.1 hz.1 0 rfl rfl 3 (by decide) (X.2.2.2.2.1 _ fl5_taped) (fun _ h9 => h9) rfl d (kk _ r hr H locs ls hz hl)
theorem r_f_taped (cI cZ : ClassId) (q : Nat → Nat) (M : MR) (v : Int32) : (wR cI cZ q M).set 0 (q 34, .inr (5, (fsR q M).set 3 (.int v))) = wR cI cZ q (mS M 3 0 v) := rfl
theorem r_p_taped (X : gX p s m args meth c cc nL RX5 rt D (tyR cI cZ)) {v : Int32} {K : MR → Option ρ} (d : decode cc pc = .ok (.putfield 80, 3)) (kk : ∀ M1, gG p l e R s m args below meth c nL (ZR D cI cZ q A H0 M1) kc ks QQ (pc + 3) lv st (K M1)) : gG p l e R s m args below meth c nL (ZR D cI cZ q A H0 M) kc ks QQ pc lv (.int v :: .ref (q 34) :: st) (pf M 3 v K) := fun r hr2 H locs ls hz hl => va_put (D := D) (ci := 5) (v := .int v) (C := RX5) (T := TX5) (N := 34) X.1 X.2.1 X.2.2.2.2.1 jX5 tyX5 tyX5_ok nmX5 X.2.2.2.1 X.2.2.2.2.2.1 hz.1 hz.2.1 hz.2.2 0 rfl rfl 3 (by decide) (X.2.2.2.2.1 _ fl5_taped) (fun _ h9 => h9) rfl (tyX5_ok 3 (by decide)) rfl rfl (by show 3 < 34; decide) d (fun H1 locs1 h1 h2 h3 => kk (mS M 3 0 v) r hr2 H1 locs1 ls ⟨(r_f_taped cI cZ q M v) ▸ h1, (r_f_taped cI cZ q M v) ▸ h2, h3⟩ hl)
theorem r_g_text (X : gX p s m args meth c cc nL RX5 rt D (tyR cI cZ)) (d : decode cc pc = .ok (.getfield 21, 3)) (kk : gG p l e R s m args below meth c nL (ZR D cI cZ q A H0 M) kc ks QQ (pc + 3) lv (.ref (q 4) :: st) F) : gG p l e R s m args below meth c nL (ZR D cI cZ q A H0 M) kc ks QQ pc lv (.ref (q 34) :: st) F := fun r hr H locs ls hz hl => va_get (D := D) (ci := 5) (C := RX5) (T := TX5) (N := 34) X.1 X.2.1 X.2.2.2.2.1 jX5 X.2.2.2.1 X.2.2.2.2.2.1 hz.1 0 rfl rfl 4 (by decide) (X.2.2.2.2.1 _ fl5_text) (fun _ h9 => h9) rfl d (kk r hr H locs ls hz hl)
theorem r_l_text (X : gX p s m args meth c cc nL RX5 rt D (tyR cI cZ)) {i : Int32} {K : Int32 → Option ρ} (d : decode cc pc = .ok (.iaload, 1)) (kk : ∀ v, gG p l e R s m args below meth c nL (ZR D cI cZ q A H0 M) kc ks QQ (pc + 1) lv (.int v :: st) (K v)) : gG p l e R s m args below meth c nL (ZR D cI cZ q A H0 M) kc ks QQ pc lv (.int i :: .ref (q 4) :: st) (rd M 4 60 i K) := g_ite (fun _ => g_none) (fun hin r hr H locs ls hz hl => va_iald X.1 X.2.1 X.2.2.2.2.2.1 hz.1 4 0 rfl rfl hin d (kk _ r hr H locs ls hz hl))
theorem r_e_text (cI cZ : ClassId) (q : Nat → Nat) (M : MR) (i : Nat) (v : Int32) : (wR cI cZ q M).set 4 (q 4, .inl (cI, 60, .inl (upd (M 4) i v))) = wR cI cZ q (mS M 4 i v) := rfl
theorem r_s_text (X : gX p s m args meth c cc nL RX5 rt D (tyR cI cZ)) {i v : Int32} {K : MR → Option ρ} (d : decode cc pc = .ok (.iastore, 1)) (kk : ∀ M1, gG p l e R s m args below meth c nL (ZR D cI cZ q A H0 M1) kc ks QQ (pc + 1) lv st (K M1)) : gG p l e R s m args below meth c nL (ZR D cI cZ q A H0 M) kc ks QQ pc lv (.int v :: .int i :: .ref (q 4) :: st) (wr M 4 60 i v K) := g_ite (fun _ => g_none) (fun hin r hr H locs ls hz hl => va_iast X.1 X.2.1 X.2.2.2.2.2.1 hz.1 hz.2.1 hz.2.2 4 0 rfl rfl hin d (fun H1 locs1 h1 h2 h3 => kk (mS M 4 i.toNatClampNeg v) r hr H1 locs1 ls ⟨(r_e_text cI cZ q M _ _) ▸ h1, (r_e_text cI cZ q M _ _) ▸ h2, h3⟩ hl))
theorem r_g_meant (X : gX p s m args meth c cc nL RX5 rt D (tyR cI cZ)) (d : decode cc pc = .ok (.getfield 24, 3)) (kk : gG p l e R s m args below meth c nL (ZR D cI cZ q A H0 M) kc ks QQ (pc + 3) lv (.ref (q 5) :: st) F) : gG p l e R s m args below meth c nL (ZR D cI cZ q A H0 M) kc ks QQ pc lv (.ref (q 34) :: st) F := fun r hr H locs ls hz hl => va_get (D := D) (ci := 5) (C := RX5) (T := TX5) (N := 34) X.1 X.2.1 X.2.2.2.2.1 jX5 X.2.2.2.1 X.2.2.2.2.2.1 hz.1 0 rfl rfl 5 (by decide) (X.2.2.2.2.1 _ fl5_meant) (fun _ h9 => h9) rfl d (kk r hr H locs ls hz hl)
theorem r_l_meant (X : gX p s m args meth c cc nL RX5 rt D (tyR cI cZ)) {i : Int32} {K : Int32 → Option ρ} (d : decode cc pc = .ok (.iaload, 1)) (kk : ∀ v, gG p l e R s m args below meth c nL (ZR D cI cZ q A H0 M) kc ks QQ (pc + 1) lv (.int v :: st) (K v)) : gG p l e R s m args below meth c nL (ZR D cI cZ q A H0 M) kc ks QQ pc lv (.int i :: .ref (q 5) :: st) (rd M 5 60 i K) := g_ite (fun _ => g_none) (fun hin r hr H locs ls hz hl => va_iald X.1 X.2.1 X.2.2.2.2.2.1 hz.1 5 0 rfl rfl hin d (kk _ r hr H locs ls hz hl))
theorem r_e_meant (cI cZ : ClassId) (q : Nat → Nat) (M : MR) (i : Nat) (v : Int32) : (wR cI cZ q M).set 5 (q 5, .inl (cI, 60, .inl (upd (M 5) i v))) = wR cI cZ q (mS M 5 i v) := rfl
theorem r_s_meant (X : gX p s m args meth c cc nL RX5 rt D (tyR cI cZ)) {i v : Int32} {K : MR → Option ρ} (d : decode cc pc = .ok (.iastore, 1)) (kk : ∀ M1, gG p l e R s m args below meth c nL (ZR D cI cZ q A H0 M1) kc ks QQ (pc + 1) lv st (K M1)) : gG p l e R s m args below meth c nL (ZR D cI cZ q A H0 M) kc ks QQ pc lv (.int v :: .int i :: .ref (q 5) :: st) (wr M 5 60 i v K) := g_ite (fun _ => g_none) (fun hin r hr H locs ls hz hl => va_iast X.1 X.2.1 X.2.2.2.2.2.1 hz.1 hz.2.1 hz.2.2 5 0 rfl rfl hin d (fun H1 locs1 h1 h2 h3 => kk (mS M 5 i.toNatClampNeg v) r hr H1 locs1 ls ⟨(r_e_meant cI cZ q M _ _) ▸ h1, (r_e_meant cI cZ q M _ _) ▸ h2, h3⟩ hl))
theorem r_g_length (X : gX p s m args meth c cc nL RX5 rt D (tyR cI cZ)) {K : Int32 → Option ρ} (d : decode cc pc = .ok (.getfield 90, 3)) (kk : ∀ v, gG p l e R s m args below meth c nL (ZR D cI cZ q A H0 M) kc ks QQ (pc + 3) lv (.int v :: st) (K v)) : gG p l e R s m args below meth c nL (ZR D cI cZ q A H0 M) kc ks QQ pc lv (.ref (q 34) :: st) (gf M 6 K) := fun r hr H locs ls hz hl => va_get (D := D) (ci := 5) (C := RX5) (T := TX5) (N := 34) X.1 X.2.1 X.2.2.2.2.1 jX5 X.2.2.2.1 X.2.2.2.2.2.1 hz.1 0 rfl rfl 6 (by decide) (X.2.2.2.2.1 _ fl5_length) (fun _ h9 => h9) rfl d (kk _ r hr H locs ls hz hl)
theorem r_f_length (cI cZ : ClassId) (q : Nat → Nat) (M : MR) (v : Int32) : (wR cI cZ q M).set 0 (q 34, .inr (5, (fsR q M).set 6 (.int v))) = wR cI cZ q (mS M 6 0 v) := rfl
theorem r_p_length (X : gX p s m args meth c cc nL RX5 rt D (tyR cI cZ)) {v : Int32} {K : MR → Option ρ} (d : decode cc pc = .ok (.putfield 90, 3)) (kk : ∀ M1, gG p l e R s m args below meth c nL (ZR D cI cZ q A H0 M1) kc ks QQ (pc + 3) lv st (K M1)) : gG p l e R s m args below meth c nL (ZR D cI cZ q A H0 M) kc ks QQ pc lv (.int v :: .ref (q 34) :: st) (pf M 6 v K) := fun r hr2 H locs ls hz hl => va_put (D := D) (ci := 5) (v := .int v) (C := RX5) (T := TX5) (N := 34) X.1 X.2.1 X.2.2.2.2.1 jX5 tyX5 tyX5_ok nmX5 X.2.2.2.1 X.2.2.2.2.2.1 hz.1 hz.2.1 hz.2.2 0 rfl rfl 6 (by decide) (X.2.2.2.2.1 _ fl5_length) (fun _ h9 => h9) rfl (tyX5_ok 6 (by decide)) rfl rfl (by show 6 < 34; decide) d (fun H1 locs1 h1 h2 h3 => kk (mS M 6 0 v) r hr2 H1 locs1 ls ⟨(r_f_length cI cZ q M v) ▸ h1, (r_f_length cI cZ q M v) ▸ h2, h3⟩ hl)
theorem r_g_fault (X : gX p s m args meth c cc nL RX5 rt D (tyR cI cZ)) {K : Int32 → Option ρ} (d : decode cc pc = .ok (.getfield 84, 3)) (kk : ∀ v, gG p l e R s m args below meth c nL (ZR D cI cZ q A H0 M) kc ks QQ (pc + 3) lv (.int v :: st) (K v)) : gG p l e R s m args below meth c nL (ZR D cI cZ q A H0 M) kc ks QQ pc lv (.ref (q 34) :: st) (gf M 7 K) := fun r hr H locs ls hz hl => va_get (D := D) (ci := 5) (C := RX5) (T := TX5) (N := 34) X.1 X.2.1 X.2.2.2.2.1 jX5 X.2.2.2.1 X.2.2.2.2.2.1 hz.1 0 rfl rfl 7 (by decide) (X.2.2.2.2.1 _ fl5_fault) (fun _ h9 => h9) rfl d (kk _ r hr H locs ls hz hl)
theorem r_f_fault (cI cZ : ClassId) (q : Nat → Nat) (M : MR) (v : Int32) : (wR cI cZ q M).set 0 (q 34, .inr (5, (fsR q M).set 7 (.int v))) = wR cI cZ q (mS M 7 0 v) := rfl
theorem r_p_fault (X : gX p s m args meth c cc nL RX5 rt D (tyR cI cZ)) {v : Int32} {K : MR → Option ρ} (d : decode cc pc = .ok (.putfield 84, 3)) (kk : ∀ M1, gG p l e R s m args below meth c nL (ZR D cI cZ q A H0 M1) kc ks QQ (pc + 3) lv st (K M1)) : gG p l e R s m args below meth c nL (ZR D cI cZ q A H0 M) kc ks QQ pc lv (.int v :: .ref (q 34) :: st) (pf M 7 v K) := fun r hr2 H locs ls hz hl => va_put (D := D) (ci := 5) (v := .int v) (C := RX5) (T := TX5) (N := 34) X.1 X.2.1 X.2.2.2.2.1 jX5 tyX5 tyX5_ok nmX5 X.2.2.2.1 X.2.2.2.2.2.1 hz.1 hz.2.1 hz.2.2 0 rfl rfl 7 (by decide) (X.2.2.2.2.1 _ fl5_fault) (fun _ h9 => h9) rfl (tyX5_ok 7 (by decide)) rfl rfl (by show 7 < 34; decide) d (fun H1 locs1 h1 h2 h3 => kk (mS M 7 0 v) r hr2 H1 locs1 ls ⟨(r_f_fault cI cZ q M v) ▸ h1, (r_f_fault cI cZ q M v) ▸ h2, h3⟩ hl)
theorem r_g_at (X : gX p s m args meth c cc nL RX5 rt D (tyR cI cZ)) {K : Int32 → Option ρ} (d : decode cc pc = .ok (.getfield 87, 3)) (kk : ∀ v, gG p l e R s m args below meth c nL (ZR D cI cZ q A H0 M) kc ks QQ (pc + 3) lv (.int v :: st) (K v)) : gG p l e R s m args below meth c nL (ZR D cI cZ q A H0 M) kc ks QQ pc lv (.ref (q 34) :: st) (gf M 8 K) := fun r hr H locs ls hz hl => va_get (D := D) (ci := 5) (C := RX5) (T := TX5) (N := 34) X.1 X.2.1 X.2.2.2.2.1 jX5 X.2.2.2.1 X.2.2.2.2.2.1 hz.1 0 rfl rfl 8 (by decide) (X.2.2.2.2.1 _ fl5_at) (fun _ h9 => h9) rfl d (kk _ r hr H locs ls hz hl)
theorem r_f_at (cI cZ : ClassId) (q : Nat → Nat) (M : MR) (v : Int32) : (wR cI cZ q M).set 0 (q 34, .inr (5, (fsR q M).set 8 (.int v))) = wR cI cZ q (mS M 8 0 v) := rfl
theorem r_p_at (X : gX p s m args meth c cc nL RX5 rt D (tyR cI cZ)) {v : Int32} {K : MR → Option ρ} (d : decode cc pc = .ok (.putfield 87, 3)) (kk : ∀ M1, gG p l e R s m args below meth c nL (ZR D cI cZ q A H0 M1) kc ks QQ (pc + 3) lv st (K M1)) : gG p l e R s m args below meth c nL (ZR D cI cZ q A H0 M) kc ks QQ pc lv (.int v :: .ref (q 34) :: st) (pf M 8 v K) := fun r hr2 H locs ls hz hl => va_put (D := D) (ci := 5) (v := .int v) (C := RX5) (T := TX5) (N := 34) X.1 X.2.1 X.2.2.2.2.1 jX5 tyX5 tyX5_ok nmX5 X.2.2.2.1 X.2.2.2.2.2.1 hz.1 hz.2.1 hz.2.2 0 rfl rfl 8 (by decide) (X.2.2.2.2.1 _ fl5_at) (fun _ h9 => h9) rfl (tyX5_ok 8 (by decide)) rfl rfl (by show 8 < 34; decide) d (fun H1 locs1 h1 h2 h3 => kk (mS M 8 0 v) r hr2 H1 locs1 ls ⟨(r_f_at cI cZ q M v) ▸ h1, (r_f_at cI cZ q M v) ▸ h2, h3⟩ hl)
theorem r_g_leaned (X : gX p s m args meth c cc nL RX5 rt D (tyR cI cZ)) (d : decode cc pc = .ok (.getfield 27, 3)) (kk : gG p l e R s m args below meth c nL (ZR D cI cZ q A H0 M) kc ks QQ (pc + 3) lv (.ref (q 9) :: st) F) : gG p l e R s m args below meth c nL (ZR D cI cZ q A H0 M) kc ks QQ pc lv (.ref (q 34) :: st) F := fun r hr H locs ls hz hl => va_get (D := D) (ci := 5) (C := RX5) (T := TX5) (N := 34) X.1 X.2.1 X.2.2.2.2.1 jX5 X.2.2.2.1 X.2.2.2.2.2.1 hz.1 0 rfl rfl 9 (by decide) (X.2.2.2.2.1 _ fl5_leaned) (fun _ h9 => h9) rfl d (kk r hr H locs ls hz hl)
theorem r_l_leaned (X : gX p s m args meth c cc nL RX5 rt D (tyR cI cZ)) {i : Int32} {K : Int32 → Option ρ} (d : decode cc pc = .ok (.baload, 1)) (kk : ∀ v, gG p l e R s m args below meth c nL (ZR D cI cZ q A H0 M) kc ks QQ (pc + 1) lv (.int v :: st) (K v)) : gG p l e R s m args below meth c nL (ZR D cI cZ q A H0 M) kc ks QQ pc lv (.int i :: .ref (q 9) :: st) (rd M 9 150 i K) := g_ite (fun _ => g_none) (fun hin r hr H locs ls hz hl => va_zald X.1 X.2.1 X.2.2.2.2.2.1 hz.1 6 1 rfl rfl hin d (kk _ r hr H locs ls hz hl))
theorem r_e_leaned (cI cZ : ClassId) (q : Nat → Nat) (M : MR) (i : Nat) (v : Int32) : (wR cI cZ q M).set 6 (q 9, .inl (cZ, 150, .inl (upd (M 9) i v))) = wR cI cZ q (mS M 9 i v) := rfl
theorem r_s_leaned (X : gX p s m args meth c cc nL RX5 rt D (tyR cI cZ)) {i v : Int32} {K : MR → Option ρ} (d : decode cc pc = .ok (.bastore, 1)) (kk : ∀ M1, gG p l e R s m args below meth c nL (ZR D cI cZ q A H0 M1) kc ks QQ (pc + 1) lv st (K M1)) : gG p l e R s m args below meth c nL (ZR D cI cZ q A H0 M) kc ks QQ pc lv (.int v :: .int i :: .ref (q 9) :: st) (wz M 9 150 i v K) := g_ite (fun _ => g_none) (fun hin r hr H locs ls hz hl => va_zast X.1 X.2.1 X.2.2.2.2.2.1 hz.1 hz.2.1 hz.2.2 6 1 rfl rfl hin d (fun H1 locs1 h1 h2 h3 => kk (mS M 9 i.toNatClampNeg (vp_nar .boolean v)) r hr H1 locs1 ls ⟨(r_e_leaned cI cZ q M _ _) ▸ h1, (r_e_leaned cI cZ q M _ _) ▸ h2, h3⟩ hl))
theorem r_g_isObj (X : gX p s m args meth c cc nL RX5 rt D (tyR cI cZ)) (d : decode cc pc = .ok (.getfield 30, 3)) (kk : gG p l e R s m args below meth c nL (ZR D cI cZ q A H0 M) kc ks QQ (pc + 3) lv (.ref (q 10) :: st) F) : gG p l e R s m args below meth c nL (ZR D cI cZ q A H0 M) kc ks QQ pc lv (.ref (q 34) :: st) F := fun r hr H locs ls hz hl => va_get (D := D) (ci := 5) (C := RX5) (T := TX5) (N := 34) X.1 X.2.1 X.2.2.2.2.1 jX5 X.2.2.2.1 X.2.2.2.2.2.1 hz.1 0 rfl rfl 10 (by decide) (X.2.2.2.2.1 _ fl5_isObj) (fun _ h9 => h9) rfl d (kk r hr H locs ls hz hl)
theorem r_l_isObj (X : gX p s m args meth c cc nL RX5 rt D (tyR cI cZ)) {i : Int32} {K : Int32 → Option ρ} (d : decode cc pc = .ok (.baload, 1)) (kk : ∀ v, gG p l e R s m args below meth c nL (ZR D cI cZ q A H0 M) kc ks QQ (pc + 1) lv (.int v :: st) (K v)) : gG p l e R s m args below meth c nL (ZR D cI cZ q A H0 M) kc ks QQ pc lv (.int i :: .ref (q 10) :: st) (rd M 10 2000 i K) := g_ite (fun _ => g_none) (fun hin r hr H locs ls hz hl => va_zald X.1 X.2.1 X.2.2.2.2.2.1 hz.1 7 1 rfl rfl hin d (kk _ r hr H locs ls hz hl))
theorem r_e_isObj (cI cZ : ClassId) (q : Nat → Nat) (M : MR) (i : Nat) (v : Int32) : (wR cI cZ q M).set 7 (q 10, .inl (cZ, 2000, .inl (upd (M 10) i v))) = wR cI cZ q (mS M 10 i v) := rfl
theorem r_s_isObj (X : gX p s m args meth c cc nL RX5 rt D (tyR cI cZ)) {i v : Int32} {K : MR → Option ρ} (d : decode cc pc = .ok (.bastore, 1)) (kk : ∀ M1, gG p l e R s m args below meth c nL (ZR D cI cZ q A H0 M1) kc ks QQ (pc + 1) lv st (K M1)) : gG p l e R s m args below meth c nL (ZR D cI cZ q A H0 M) kc ks QQ pc lv (.int v :: .int i :: .ref (q 10) :: st) (wz M 10 2000 i v K) := g_ite (fun _ => g_none) (fun hin r hr H locs ls hz hl => va_zast X.1 X.2.1 X.2.2.2.2.2.1 hz.1 hz.2.1 hz.2.2 7 1 rfl rfl hin d (fun H1 locs1 h1 h2 h3 => kk (mS M 10 i.toNatClampNeg (vp_nar .boolean v)) r hr H1 locs1 ls ⟨(r_e_isObj cI cZ q M _ _) ▸ h1, (r_e_isObj cI cZ q M _ _) ▸ h2, h3⟩ hl))
theorem r_g_value (X : gX p s m args meth c cc nL RX5 rt D (tyR cI cZ)) (d : decode cc pc = .ok (.getfield 33, 3)) (kk : gG p l e R s m args below meth c nL (ZR D cI cZ q A H0 M) kc ks QQ (pc + 3) lv (.ref (q 11) :: st) F) : gG p l e R s m args below meth c nL (ZR D cI cZ q A H0 M) kc ks QQ pc lv (.ref (q 34) :: st) F := fun r hr H locs ls hz hl => va_get (D := D) (ci := 5) (C := RX5) (T := TX5) (N := 34) X.1 X.2.1 X.2.2.2.2.1 jX5 X.2.2.2.1 X.2.2.2.2.2.1 hz.1 0 rfl rfl 11 (by decide) (X.2.2.2.2.1 _ fl5_value) (fun _ h9 => h9) rfl d (kk r hr H locs ls hz hl)
theorem r_l_value (X : gX p s m args meth c cc nL RX5 rt D (tyR cI cZ)) {i : Int32} {K : Int32 → Option ρ} (d : decode cc pc = .ok (.iaload, 1)) (kk : ∀ v, gG p l e R s m args below meth c nL (ZR D cI cZ q A H0 M) kc ks QQ (pc + 1) lv (.int v :: st) (K v)) : gG p l e R s m args below meth c nL (ZR D cI cZ q A H0 M) kc ks QQ pc lv (.int i :: .ref (q 11) :: st) (rd M 11 2000 i K) := g_ite (fun _ => g_none) (fun hin r hr H locs ls hz hl => va_iald X.1 X.2.1 X.2.2.2.2.2.1 hz.1 8 0 rfl rfl hin d (kk _ r hr H locs ls hz hl))
theorem r_e_value (cI cZ : ClassId) (q : Nat → Nat) (M : MR) (i : Nat) (v : Int32) : (wR cI cZ q M).set 8 (q 11, .inl (cI, 2000, .inl (upd (M 11) i v))) = wR cI cZ q (mS M 11 i v) := rfl
theorem r_s_value (X : gX p s m args meth c cc nL RX5 rt D (tyR cI cZ)) {i v : Int32} {K : MR → Option ρ} (d : decode cc pc = .ok (.iastore, 1)) (kk : ∀ M1, gG p l e R s m args below meth c nL (ZR D cI cZ q A H0 M1) kc ks QQ (pc + 1) lv st (K M1)) : gG p l e R s m args below meth c nL (ZR D cI cZ q A H0 M) kc ks QQ pc lv (.int v :: .int i :: .ref (q 11) :: st) (wr M 11 2000 i v K) := g_ite (fun _ => g_none) (fun hin r hr H locs ls hz hl => va_iast X.1 X.2.1 X.2.2.2.2.2.1 hz.1 hz.2.1 hz.2.2 8 0 rfl rfl hin d (fun H1 locs1 h1 h2 h3 => kk (mS M 11 i.toNatClampNeg v) r hr H1 locs1 ls ⟨(r_e_value cI cZ q M _ _) ▸ h1, (r_e_value cI cZ q M _ _) ▸ h2, h3⟩ hl))
theorem r_g_top (X : gX p s m args meth c cc nL RX5 rt D (tyR cI cZ)) {K : Int32 → Option ρ} (d : decode cc pc = .ok (.getfield 147, 3)) (kk : ∀ v, gG p l e R s m args below meth c nL (ZR D cI cZ q A H0 M) kc ks QQ (pc + 3) lv (.int v :: st) (K v)) : gG p l e R s m args below meth c nL (ZR D cI cZ q A H0 M) kc ks QQ pc lv (.ref (q 34) :: st) (gf M 12 K) := fun r hr H locs ls hz hl => va_get (D := D) (ci := 5) (C := RX5) (T := TX5) (N := 34) X.1 X.2.1 X.2.2.2.2.1 jX5 X.2.2.2.1 X.2.2.2.2.2.1 hz.1 0 rfl rfl 12 (by decide) (X.2.2.2.2.1 _ fl5_top) (fun _ h9 => h9) rfl d (kk _ r hr H locs ls hz hl)
theorem r_f_top (cI cZ : ClassId) (q : Nat → Nat) (M : MR) (v : Int32) : (wR cI cZ q M).set 0 (q 34, .inr (5, (fsR q M).set 12 (.int v))) = wR cI cZ q (mS M 12 0 v) := rfl
theorem r_p_top (X : gX p s m args meth c cc nL RX5 rt D (tyR cI cZ)) {v : Int32} {K : MR → Option ρ} (d : decode cc pc = .ok (.putfield 147, 3)) (kk : ∀ M1, gG p l e R s m args below meth c nL (ZR D cI cZ q A H0 M1) kc ks QQ (pc + 3) lv st (K M1)) : gG p l e R s m args below meth c nL (ZR D cI cZ q A H0 M) kc ks QQ pc lv (.int v :: .ref (q 34) :: st) (pf M 12 v K) := fun r hr2 H locs ls hz hl => va_put (D := D) (ci := 5) (v := .int v) (C := RX5) (T := TX5) (N := 34) X.1 X.2.1 X.2.2.2.2.1 jX5 tyX5 tyX5_ok nmX5 X.2.2.2.1 X.2.2.2.2.2.1 hz.1 hz.2.1 hz.2.2 0 rfl rfl 12 (by decide) (X.2.2.2.2.1 _ fl5_top) (fun _ h9 => h9) rfl (tyX5_ok 12 (by decide)) rfl rfl (by show 12 < 34; decide) d (fun H1 locs1 h1 h2 h3 => kk (mS M 12 0 v) r hr2 H1 locs1 ls ⟨(r_f_top cI cZ q M v) ▸ h1, (r_f_top cI cZ q M v) ▸ h2, h3⟩ hl)
theorem r_g_source (X : gX p s m args meth c cc nL RX5 rt D (tyR cI cZ)) (d : decode cc pc = .ok (.getfield 36, 3)) (kk : gG p l e R s m args below meth c nL (ZR D cI cZ q A H0 M) kc ks QQ (pc + 3) lv (.ref (q 13) :: st) F) : gG p l e R s m args below meth c nL (ZR D cI cZ q A H0 M) kc ks QQ pc lv (.ref (q 34) :: st) F := fun r hr H locs ls hz hl => va_get (D := D) (ci := 5) (C := RX5) (T := TX5) (N := 34) X.1 X.2.1 X.2.2.2.2.1 jX5 X.2.2.2.1 X.2.2.2.2.2.1 hz.1 0 rfl rfl 13 (by decide) (X.2.2.2.2.1 _ fl5_source) (fun _ h9 => h9) rfl d (kk r hr H locs ls hz hl)
theorem r_l_source (X : gX p s m args meth c cc nL RX5 rt D (tyR cI cZ)) {i : Int32} {K : Int32 → Option ρ} (d : decode cc pc = .ok (.iaload, 1)) (kk : ∀ v, gG p l e R s m args below meth c nL (ZR D cI cZ q A H0 M) kc ks QQ (pc + 1) lv (.int v :: st) (K v)) : gG p l e R s m args below meth c nL (ZR D cI cZ q A H0 M) kc ks QQ pc lv (.int i :: .ref (q 13) :: st) (rd M 13 22 i K) := g_ite (fun _ => g_none) (fun hin r hr H locs ls hz hl => va_iald X.1 X.2.1 X.2.2.2.2.2.1 hz.1 9 0 rfl rfl hin d (kk _ r hr H locs ls hz hl))
theorem r_e_source (cI cZ : ClassId) (q : Nat → Nat) (M : MR) (i : Nat) (v : Int32) : (wR cI cZ q M).set 9 (q 13, .inl (cI, 22, .inl (upd (M 13) i v))) = wR cI cZ q (mS M 13 i v) := rfl
theorem r_s_source (X : gX p s m args meth c cc nL RX5 rt D (tyR cI cZ)) {i v : Int32} {K : MR → Option ρ} (d : decode cc pc = .ok (.iastore, 1)) (kk : ∀ M1, gG p l e R s m args below meth c nL (ZR D cI cZ q A H0 M1) kc ks QQ (pc + 1) lv st (K M1)) : gG p l e R s m args below meth c nL (ZR D cI cZ q A H0 M) kc ks QQ pc lv (.int v :: .int i :: .ref (q 13) :: st) (wr M 13 22 i v K) := g_ite (fun _ => g_none) (fun hin r hr H locs ls hz hl => va_iast X.1 X.2.1 X.2.2.2.2.2.1 hz.1 hz.2.1 hz.2.2 9 0 rfl rfl hin d (fun H1 locs1 h1 h2 h3 => kk (mS M 13 i.toNatClampNeg v) r hr H1 locs1 ls ⟨(r_e_source cI cZ q M _ _) ▸ h1, (r_e_source cI cZ q M _ _) ▸ h2, h3⟩ hl))
theorem r_g_place (X : gX p s m args meth c cc nL RX5 rt D (tyR cI cZ)) (d : decode cc pc = .ok (.getfield 39, 3)) (kk : gG p l e R s m args below meth c nL (ZR D cI cZ q A H0 M) kc ks QQ (pc + 3) lv (.ref (q 14) :: st) F) : gG p l e R s m args below meth c nL (ZR D cI cZ q A H0 M) kc ks QQ pc lv (.ref (q 34) :: st) F := fun r hr H locs ls hz hl => va_get (D := D) (ci := 5) (C := RX5) (T := TX5) (N := 34) X.1 X.2.1 X.2.2.2.2.1 jX5 X.2.2.2.1 X.2.2.2.2.2.1 hz.1 0 rfl rfl 14 (by decide) (X.2.2.2.2.1 _ fl5_place) (fun _ h9 => h9) rfl d (kk r hr H locs ls hz hl)
theorem r_l_place (X : gX p s m args meth c cc nL RX5 rt D (tyR cI cZ)) {i : Int32} {K : Int32 → Option ρ} (d : decode cc pc = .ok (.iaload, 1)) (kk : ∀ v, gG p l e R s m args below meth c nL (ZR D cI cZ q A H0 M) kc ks QQ (pc + 1) lv (.int v :: st) (K v)) : gG p l e R s m args below meth c nL (ZR D cI cZ q A H0 M) kc ks QQ pc lv (.int i :: .ref (q 14) :: st) (rd M 14 22 i K) := g_ite (fun _ => g_none) (fun hin r hr H locs ls hz hl => va_iald X.1 X.2.1 X.2.2.2.2.2.1 hz.1 10 0 rfl rfl hin d (kk _ r hr H locs ls hz hl))
theorem r_e_place (cI cZ : ClassId) (q : Nat → Nat) (M : MR) (i : Nat) (v : Int32) : (wR cI cZ q M).set 10 (q 14, .inl (cI, 22, .inl (upd (M 14) i v))) = wR cI cZ q (mS M 14 i v) := rfl
theorem r_s_place (X : gX p s m args meth c cc nL RX5 rt D (tyR cI cZ)) {i v : Int32} {K : MR → Option ρ} (d : decode cc pc = .ok (.iastore, 1)) (kk : ∀ M1, gG p l e R s m args below meth c nL (ZR D cI cZ q A H0 M1) kc ks QQ (pc + 1) lv st (K M1)) : gG p l e R s m args below meth c nL (ZR D cI cZ q A H0 M) kc ks QQ pc lv (.int v :: .int i :: .ref (q 14) :: st) (wr M 14 22 i v K) := g_ite (fun _ => g_none) (fun hin r hr H locs ls hz hl => va_iast X.1 X.2.1 X.2.2.2.2.2.1 hz.1 hz.2.1 hz.2.2 10 0 rfl rfl hin d (fun H1 locs1 h1 h2 h3 => kk (mS M 14 i.toNatClampNeg v) r hr H1 locs1 ls ⟨(r_e_place cI cZ q M _ _) ▸ h1, (r_e_place cI cZ q M _ _) ▸ h2, h3⟩ hl))
theorem r_g_end (X : gX p s m args meth c cc nL RX5 rt D (tyR cI cZ)) (d : decode cc pc = .ok (.getfield 42, 3)) (kk : gG p l e R s m args below meth c nL (ZR D cI cZ q A H0 M) kc ks QQ (pc + 3) lv (.ref (q 15) :: st) F) : gG p l e R s m args below meth c nL (ZR D cI cZ q A H0 M) kc ks QQ pc lv (.ref (q 34) :: st) F := fun r hr H locs ls hz hl => va_get (D := D) (ci := 5) (C := RX5) (T := TX5) (N := 34) X.1 X.2.1 X.2.2.2.2.1 jX5 X.2.2.2.1 X.2.2.2.2.2.1 hz.1 0 rfl rfl 15 (by decide) (X.2.2.2.2.1 _ fl5_end) (fun _ h9 => h9) rfl d (kk r hr H locs ls hz hl)
theorem r_l_end (X : gX p s m args meth c cc nL RX5 rt D (tyR cI cZ)) {i : Int32} {K : Int32 → Option ρ} (d : decode cc pc = .ok (.iaload, 1)) (kk : ∀ v, gG p l e R s m args below meth c nL (ZR D cI cZ q A H0 M) kc ks QQ (pc + 1) lv (.int v :: st) (K v)) : gG p l e R s m args below meth c nL (ZR D cI cZ q A H0 M) kc ks QQ pc lv (.int i :: .ref (q 15) :: st) (rd M 15 22 i K) := g_ite (fun _ => g_none) (fun hin r hr H locs ls hz hl => va_iald X.1 X.2.1 X.2.2.2.2.2.1 hz.1 11 0 rfl rfl hin d (kk _ r hr H locs ls hz hl))
theorem r_e_end (cI cZ : ClassId) (q : Nat → Nat) (M : MR) (i : Nat) (v : Int32) : (wR cI cZ q M).set 11 (q 15, .inl (cI, 22, .inl (upd (M 15) i v))) = wR cI cZ q (mS M 15 i v) := rfl
theorem r_s_end (X : gX p s m args meth c cc nL RX5 rt D (tyR cI cZ)) {i v : Int32} {K : MR → Option ρ} (d : decode cc pc = .ok (.iastore, 1)) (kk : ∀ M1, gG p l e R s m args below meth c nL (ZR D cI cZ q A H0 M1) kc ks QQ (pc + 1) lv st (K M1)) : gG p l e R s m args below meth c nL (ZR D cI cZ q A H0 M) kc ks QQ pc lv (.int v :: .int i :: .ref (q 15) :: st) (wr M 15 22 i v K) := g_ite (fun _ => g_none) (fun hin r hr H locs ls hz hl => va_iast X.1 X.2.1 X.2.2.2.2.2.1 hz.1 hz.2.1 hz.2.2 11 0 rfl rfl hin d (fun H1 locs1 h1 h2 h3 => kk (mS M 15 i.toNatClampNeg v) r hr H1 locs1 ls ⟨(r_e_end cI cZ q M _ _) ▸ h1, (r_e_end cI cZ q M _ _) ▸ h2, h3⟩ hl))
theorem r_g_self (X : gX p s m args meth c cc nL RX5 rt D (tyR cI cZ)) (d : decode cc pc = .ok (.getfield 45, 3)) (kk : gG p l e R s m args below meth c nL (ZR D cI cZ q A H0 M) kc ks QQ (pc + 3) lv (.ref (q 16) :: st) F) : gG p l e R s m args below meth c nL (ZR D cI cZ q A H0 M) kc ks QQ pc lv (.ref (q 34) :: st) F := fun r hr H locs ls hz hl => va_get (D := D) (ci := 5) (C := RX5) (T := TX5) (N := 34) X.1 X.2.1 X.2.2.2.2.1 jX5 X.2.2.2.1 X.2.2.2.2.2.1 hz.1 0 rfl rfl 16 (by decide) (X.2.2.2.2.1 _ fl5_self) (fun _ h9 => h9) rfl d (kk r hr H locs ls hz hl)
theorem r_l_self (X : gX p s m args meth c cc nL RX5 rt D (tyR cI cZ)) {i : Int32} {K : Int32 → Option ρ} (d : decode cc pc = .ok (.iaload, 1)) (kk : ∀ v, gG p l e R s m args below meth c nL (ZR D cI cZ q A H0 M) kc ks QQ (pc + 1) lv (.int v :: st) (K v)) : gG p l e R s m args below meth c nL (ZR D cI cZ q A H0 M) kc ks QQ pc lv (.int i :: .ref (q 16) :: st) (rd M 16 22 i K) := g_ite (fun _ => g_none) (fun hin r hr H locs ls hz hl => va_iald X.1 X.2.1 X.2.2.2.2.2.1 hz.1 12 0 rfl rfl hin d (kk _ r hr H locs ls hz hl))
theorem r_e_self (cI cZ : ClassId) (q : Nat → Nat) (M : MR) (i : Nat) (v : Int32) : (wR cI cZ q M).set 12 (q 16, .inl (cI, 22, .inl (upd (M 16) i v))) = wR cI cZ q (mS M 16 i v) := rfl
theorem r_s_self (X : gX p s m args meth c cc nL RX5 rt D (tyR cI cZ)) {i v : Int32} {K : MR → Option ρ} (d : decode cc pc = .ok (.iastore, 1)) (kk : ∀ M1, gG p l e R s m args below meth c nL (ZR D cI cZ q A H0 M1) kc ks QQ (pc + 1) lv st (K M1)) : gG p l e R s m args below meth c nL (ZR D cI cZ q A H0 M) kc ks QQ pc lv (.int v :: .int i :: .ref (q 16) :: st) (wr M 16 22 i v K) := g_ite (fun _ => g_none) (fun hin r hr H locs ls hz hl => va_iast X.1 X.2.1 X.2.2.2.2.2.1 hz.1 hz.2.1 hz.2.2 12 0 rfl rfl hin d (fun H1 locs1 h1 h2 h3 => kk (mS M 16 i.toNatClampNeg v) r hr H1 locs1 ls ⟨(r_e_self cI cZ q M _ _) ▸ h1, (r_e_self cI cZ q M _ _) ▸ h2, h3⟩ hl))
theorem r_g_isArgObj (X : gX p s m args meth c cc nL RX5 rt D (tyR cI cZ)) (d : decode cc pc = .ok (.getfield 48, 3)) (kk : gG p l e R s m args below meth c nL (ZR D cI cZ q A H0 M) kc ks QQ (pc + 3) lv (.ref (q 17) :: st) F) : gG p l e R s m args below meth c nL (ZR D cI cZ q A H0 M) kc ks QQ pc lv (.ref (q 34) :: st) F := fun r hr H locs ls hz hl => va_get (D := D) (ci := 5) (C := RX5) (T := TX5) (N := 34) X.1 X.2.1 X.2.2.2.2.1 jX5 X.2.2.2.1 X.2.2.2.2.2.1 hz.1 0 rfl rfl 17 (by decide) (X.2.2.2.2.1 _ fl5_isArgObj) (fun _ h9 => h9) rfl d (kk r hr H locs ls hz hl)
theorem r_l_isArgObj (X : gX p s m args meth c cc nL RX5 rt D (tyR cI cZ)) {i : Int32} {K : Int32 → Option ρ} (d : decode cc pc = .ok (.baload, 1)) (kk : ∀ v, gG p l e R s m args below meth c nL (ZR D cI cZ q A H0 M) kc ks QQ (pc + 1) lv (.int v :: st) (K v)) : gG p l e R s m args below meth c nL (ZR D cI cZ q A H0 M) kc ks QQ pc lv (.int i :: .ref (q 17) :: st) (rd M 17 22 i K) := g_ite (fun _ => g_none) (fun hin r hr H locs ls hz hl => va_zald X.1 X.2.1 X.2.2.2.2.2.1 hz.1 13 1 rfl rfl hin d (kk _ r hr H locs ls hz hl))
theorem r_e_isArgObj (cI cZ : ClassId) (q : Nat → Nat) (M : MR) (i : Nat) (v : Int32) : (wR cI cZ q M).set 13 (q 17, .inl (cZ, 22, .inl (upd (M 17) i v))) = wR cI cZ q (mS M 17 i v) := rfl
theorem r_s_isArgObj (X : gX p s m args meth c cc nL RX5 rt D (tyR cI cZ)) {i v : Int32} {K : MR → Option ρ} (d : decode cc pc = .ok (.bastore, 1)) (kk : ∀ M1, gG p l e R s m args below meth c nL (ZR D cI cZ q A H0 M1) kc ks QQ (pc + 1) lv st (K M1)) : gG p l e R s m args below meth c nL (ZR D cI cZ q A H0 M) kc ks QQ pc lv (.int v :: .int i :: .ref (q 17) :: st) (wz M 17 22 i v K) := g_ite (fun _ => g_none) (fun hin r hr H locs ls hz hl => va_zast X.1 X.2.1 X.2.2.2.2.2.1 hz.1 hz.2.1 hz.2.2 13 1 rfl rfl hin d (fun H1 locs1 h1 h2 h3 => kk (mS M 17 i.toNatClampNeg (vp_nar .boolean v)) r hr H1 locs1 ls ⟨(r_e_isArgObj cI cZ q M _ _) ▸ h1, (r_e_isArgObj cI cZ q M _ _) ▸ h2, h3⟩ hl))
theorem r_g_argument (X : gX p s m args meth c cc nL RX5 rt D (tyR cI cZ)) (d : decode cc pc = .ok (.getfield 51, 3)) (kk : gG p l e R s m args below meth c nL (ZR D cI cZ q A H0 M) kc ks QQ (pc + 3) lv (.ref (q 18) :: st) F) : gG p l e R s m args below meth c nL (ZR D cI cZ q A H0 M) kc ks QQ pc lv (.ref (q 34) :: st) F := fun r hr H locs ls hz hl => va_get (D := D) (ci := 5) (C := RX5) (T := TX5) (N := 34) X.1 X.2.1 X.2.2.2.2.1 jX5 X.2.2.2.1 X.2.2.2.2.2.1 hz.1 0 rfl rfl 18 (by decide) (X.2.2.2.2.1 _ fl5_argument) (fun _ h9 => h9) rfl d (kk r hr H locs ls hz hl)
theorem r_l_argument (X : gX p s m args meth c cc nL RX5 rt D (tyR cI cZ)) {i : Int32} {K : Int32 → Option ρ} (d : decode cc pc = .ok (.iaload, 1)) (kk : ∀ v, gG p l e R s m args below meth c nL (ZR D cI cZ q A H0 M) kc ks QQ (pc + 1) lv (.int v :: st) (K v)) : gG p l e R s m args below meth c nL (ZR D cI cZ q A H0 M) kc ks QQ pc lv (.int i :: .ref (q 18) :: st) (rd M 18 22 i K) := g_ite (fun _ => g_none) (fun hin r hr H locs ls hz hl => va_iald X.1 X.2.1 X.2.2.2.2.2.1 hz.1 14 0 rfl rfl hin d (kk _ r hr H locs ls hz hl))
theorem r_e_argument (cI cZ : ClassId) (q : Nat → Nat) (M : MR) (i : Nat) (v : Int32) : (wR cI cZ q M).set 14 (q 18, .inl (cI, 22, .inl (upd (M 18) i v))) = wR cI cZ q (mS M 18 i v) := rfl
theorem r_s_argument (X : gX p s m args meth c cc nL RX5 rt D (tyR cI cZ)) {i v : Int32} {K : MR → Option ρ} (d : decode cc pc = .ok (.iastore, 1)) (kk : ∀ M1, gG p l e R s m args below meth c nL (ZR D cI cZ q A H0 M1) kc ks QQ (pc + 1) lv st (K M1)) : gG p l e R s m args below meth c nL (ZR D cI cZ q A H0 M) kc ks QQ pc lv (.int v :: .int i :: .ref (q 18) :: st) (wr M 18 22 i v K) := g_ite (fun _ => g_none) (fun hin r hr H locs ls hz hl => va_iast X.1 X.2.1 X.2.2.2.2.2.1 hz.1 hz.2.1 hz.2.2 14 0 rfl rfl hin d (fun H1 locs1 h1 h2 h3 => kk (mS M 18 i.toNatClampNeg v) r hr H1 locs1 ls ⟨(r_e_argument cI cZ q M _ _) ▸ h1, (r_e_argument cI cZ q M _ _) ▸ h2, h3⟩ hl))
theorem r_g_starts (X : gX p s m args meth c cc nL RX5 rt D (tyR cI cZ)) (d : decode cc pc = .ok (.getfield 54, 3)) (kk : gG p l e R s m args below meth c nL (ZR D cI cZ q A H0 M) kc ks QQ (pc + 3) lv (.ref (q 19) :: st) F) : gG p l e R s m args below meth c nL (ZR D cI cZ q A H0 M) kc ks QQ pc lv (.ref (q 34) :: st) F := fun r hr H locs ls hz hl => va_get (D := D) (ci := 5) (C := RX5) (T := TX5) (N := 34) X.1 X.2.1 X.2.2.2.2.1 jX5 X.2.2.2.1 X.2.2.2.2.2.1 hz.1 0 rfl rfl 19 (by decide) (X.2.2.2.2.1 _ fl5_starts) (fun _ h9 => h9) rfl d (kk r hr H locs ls hz hl)
theorem r_l_starts (X : gX p s m args meth c cc nL RX5 rt D (tyR cI cZ)) {i : Int32} {K : Int32 → Option ρ} (d : decode cc pc = .ok (.iaload, 1)) (kk : ∀ v, gG p l e R s m args below meth c nL (ZR D cI cZ q A H0 M) kc ks QQ (pc + 1) lv (.int v :: st) (K v)) : gG p l e R s m args below meth c nL (ZR D cI cZ q A H0 M) kc ks QQ pc lv (.int i :: .ref (q 19) :: st) (rd M 19 22 i K) := g_ite (fun _ => g_none) (fun hin r hr H locs ls hz hl => va_iald X.1 X.2.1 X.2.2.2.2.2.1 hz.1 15 0 rfl rfl hin d (kk _ r hr H locs ls hz hl))
theorem r_e_starts (cI cZ : ClassId) (q : Nat → Nat) (M : MR) (i : Nat) (v : Int32) : (wR cI cZ q M).set 15 (q 19, .inl (cI, 22, .inl (upd (M 19) i v))) = wR cI cZ q (mS M 19 i v) := rfl
theorem r_s_starts (X : gX p s m args meth c cc nL RX5 rt D (tyR cI cZ)) {i v : Int32} {K : MR → Option ρ} (d : decode cc pc = .ok (.iastore, 1)) (kk : ∀ M1, gG p l e R s m args below meth c nL (ZR D cI cZ q A H0 M1) kc ks QQ (pc + 1) lv st (K M1)) : gG p l e R s m args below meth c nL (ZR D cI cZ q A H0 M) kc ks QQ pc lv (.int v :: .int i :: .ref (q 19) :: st) (wr M 19 22 i v K) := g_ite (fun _ => g_none) (fun hin r hr H locs ls hz hl => va_iast X.1 X.2.1 X.2.2.2.2.2.1 hz.1 hz.2.1 hz.2.2 15 0 rfl rfl hin d (fun H1 locs1 h1 h2 h3 => kk (mS M 19 i.toNatClampNeg v) r hr H1 locs1 ls ⟨(r_e_starts cI cZ q M _ _) ▸ h1, (r_e_starts cI cZ q M _ _) ▸ h2, h3⟩ hl))
theorem r_g_frames (X : gX p s m args meth c cc nL RX5 rt D (tyR cI cZ)) {K : Int32 → Option ρ} (d : decode cc pc = .ok (.getfield 150, 3)) (kk : ∀ v, gG p l e R s m args below meth c nL (ZR D cI cZ q A H0 M) kc ks QQ (pc + 3) lv (.int v :: st) (K v)) : gG p l e R s m args below meth c nL (ZR D cI cZ q A H0 M) kc ks QQ pc lv (.ref (q 34) :: st) (gf M 20 K) := fun r hr H locs ls hz hl => va_get (D := D) (ci := 5) (C := RX5) (T := TX5) (N := 34) X.1 X.2.1 X.2.2.2.2.1 jX5 X.2.2.2.1 X.2.2.2.2.2.1 hz.1 0 rfl rfl 20 (by decide) (X.2.2.2.2.1 _ fl5_frames) (fun _ h9 => h9) rfl d (kk _ r hr H locs ls hz hl)
theorem r_f_frames (cI cZ : ClassId) (q : Nat → Nat) (M : MR) (v : Int32) : (wR cI cZ q M).set 0 (q 34, .inr (5, (fsR q M).set 20 (.int v))) = wR cI cZ q (mS M 20 0 v) := rfl
theorem r_p_frames (X : gX p s m args meth c cc nL RX5 rt D (tyR cI cZ)) {v : Int32} {K : MR → Option ρ} (d : decode cc pc = .ok (.putfield 150, 3)) (kk : ∀ M1, gG p l e R s m args below meth c nL (ZR D cI cZ q A H0 M1) kc ks QQ (pc + 3) lv st (K M1)) : gG p l e R s m args below meth c nL (ZR D cI cZ q A H0 M) kc ks QQ pc lv (.int v :: .ref (q 34) :: st) (pf M 20 v K) := fun r hr2 H locs ls hz hl => va_put (D := D) (ci := 5) (v := .int v) (C := RX5) (T := TX5) (N := 34) X.1 X.2.1 X.2.2.2.2.1 jX5 tyX5 tyX5_ok nmX5 X.2.2.2.1 X.2.2.2.2.2.1 hz.1 hz.2.1 hz.2.2 0 rfl rfl 20 (by decide) (X.2.2.2.2.1 _ fl5_frames) (fun _ h9 => h9) rfl (tyX5_ok 20 (by decide)) rfl rfl (by show 20 < 34; decide) d (fun H1 locs1 h1 h2 h3 => kk (mS M 20 0 v) r hr2 H1 locs1 ls ⟨(r_f_frames cI cZ q M v) ▸ h1, (r_f_frames cI cZ q M v) ▸ h2, h3⟩ hl)
theorem r_g_inner (X : gX p s m args meth c cc nL RX5 rt D (tyR cI cZ)) {K : Int32 → Option ρ} (d : decode cc pc = .ok (.getfield 153, 3)) (kk : ∀ v, gG p l e R s m args below meth c nL (ZR D cI cZ q A H0 M) kc ks QQ (pc + 3) lv (.int v :: st) (K v)) : gG p l e R s m args below meth c nL (ZR D cI cZ q A H0 M) kc ks QQ pc lv (.ref (q 34) :: st) (gf M 21 K) := fun r hr H locs ls hz hl => va_get (D := D) (ci := 5) (C := RX5) (T := TX5) (N := 34) X.1 X.2.1 X.2.2.2.2.1 jX5 X.2.2.2.1 X.2.2.2.2.2.1 hz.1 0 rfl rfl 21 (by decide) (X.2.2.2.2.1 _ fl5_inner) (fun _ h9 => h9) rfl d (kk _ r hr H locs ls hz hl)
theorem r_f_inner (cI cZ : ClassId) (q : Nat → Nat) (M : MR) (v : Int32) : (wR cI cZ q M).set 0 (q 34, .inr (5, (fsR q M).set 21 (.int v))) = wR cI cZ q (mS M 21 0 v) := rfl
theorem r_p_inner (X : gX p s m args meth c cc nL RX5 rt D (tyR cI cZ)) {v : Int32} {K : MR → Option ρ} (d : decode cc pc = .ok (.putfield 153, 3)) (kk : ∀ M1, gG p l e R s m args below meth c nL (ZR D cI cZ q A H0 M1) kc ks QQ (pc + 3) lv st (K M1)) : gG p l e R s m args below meth c nL (ZR D cI cZ q A H0 M) kc ks QQ pc lv (.int v :: .ref (q 34) :: st) (pf M 21 v K) := fun r hr2 H locs ls hz hl => va_put (D := D) (ci := 5) (v := .int v) (C := RX5) (T := TX5) (N := 34) X.1 X.2.1 X.2.2.2.2.1 jX5 tyX5 tyX5_ok nmX5 X.2.2.2.1 X.2.2.2.2.2.1 hz.1 hz.2.1 hz.2.2 0 rfl rfl 21 (by decide) (X.2.2.2.2.1 _ fl5_inner) (fun _ h9 => h9) rfl (tyX5_ok 21 (by decide)) rfl rfl (by show 21 < 34; decide) d (fun H1 locs1 h1 h2 h3 => kk (mS M 21 0 v) r hr2 H1 locs1 ls ⟨(r_f_inner cI cZ q M v) ▸ h1, (r_f_inner cI cZ q M v) ▸ h2, h3⟩ hl)
theorem r_g_again (X : gX p s m args meth c cc nL RX5 rt D (tyR cI cZ)) {K : Int32 → Option ρ} (d : decode cc pc = .ok (.getfield 162, 3)) (kk : ∀ v, gG p l e R s m args below meth c nL (ZR D cI cZ q A H0 M) kc ks QQ (pc + 3) lv (.int v :: st) (K v)) : gG p l e R s m args below meth c nL (ZR D cI cZ q A H0 M) kc ks QQ pc lv (.ref (q 34) :: st) (gf M 22 K) := fun r hr H locs ls hz hl => va_get (D := D) (ci := 5) (C := RX5) (T := TX5) (N := 34) X.1 X.2.1 X.2.2.2.2.1 jX5 X.2.2.2.1 X.2.2.2.2.2.1 hz.1 0 rfl rfl 22 (by decide) (X.2.2.2.2.1 _ fl5_again) (fun _ h9 => h9) rfl d (kk _ r hr H locs ls hz hl)
theorem r_f_again (cI cZ : ClassId) (q : Nat → Nat) (M : MR) (v : Int32) : (wR cI cZ q M).set 0 (q 34, .inr (5, (fsR q M).set 22 (.int v))) = wR cI cZ q (mS M 22 0 v) := rfl
theorem r_p_again (X : gX p s m args meth c cc nL RX5 rt D (tyR cI cZ)) {v : Int32} {K : MR → Option ρ} (d : decode cc pc = .ok (.putfield 162, 3)) (kk : ∀ M1, gG p l e R s m args below meth c nL (ZR D cI cZ q A H0 M1) kc ks QQ (pc + 3) lv st (K M1)) : gG p l e R s m args below meth c nL (ZR D cI cZ q A H0 M) kc ks QQ pc lv (.int v :: .ref (q 34) :: st) (zt v (pf M 22 v K)) := fun r hr H locs ls hz hl => by
  obtain ⟨hb, hr2⟩ := zt_bo hr
  exact va_put (D := D) (ci := 5) (v := .int v) (C := RX5) (T := TX5) (N := 34) X.1 X.2.1 X.2.2.2.2.1 jX5 tyX5 tyX5_ok nmX5 X.2.2.2.1 X.2.2.2.2.2.1 hz.1 hz.2.1 hz.2.2 0 rfl rfl 22 (by decide) (X.2.2.2.2.1 _ fl5_again) (fun _ h9 => h9) rfl (tyX5_ok 22 (by decide)) (bo_nar hb).1 (bo_nar hb).2 (by show 22 < 34; decide) d (fun H1 locs1 h1 h2 h3 => kk (mS M 22 0 v) r hr2 H1 locs1 ls ⟨(r_f_again cI cZ q M v) ▸ h1, (r_f_again cI cZ q M v) ▸ h2, h3⟩ hl)
theorem r_g_steps (X : gX p s m args meth c cc nL RX5 rt D (tyR cI cZ)) {K : Int32 → Option ρ} (d : decode cc pc = .ok (.getfield 159, 3)) (kk : ∀ v, gG p l e R s m args below meth c nL (ZR D cI cZ q A H0 M) kc ks QQ (pc + 3) lv (.int v :: st) (K v)) : gG p l e R s m args below meth c nL (ZR D cI cZ q A H0 M) kc ks QQ pc lv (.ref (q 34) :: st) (gf M 23 K) := fun r hr H locs ls hz hl => va_get (D := D) (ci := 5) (C := RX5) (T := TX5) (N := 34) X.1 X.2.1 X.2.2.2.2.1 jX5 X.2.2.2.1 X.2.2.2.2.2.1 hz.1 0 rfl rfl 23 (by decide) (X.2.2.2.2.1 _ fl5_steps) (fun _ h9 => h9) rfl d (kk _ r hr H locs ls hz hl)
theorem r_f_steps (cI cZ : ClassId) (q : Nat → Nat) (M : MR) (v : Int32) : (wR cI cZ q M).set 0 (q 34, .inr (5, (fsR q M).set 23 (.int v))) = wR cI cZ q (mS M 23 0 v) := rfl
theorem r_p_steps (X : gX p s m args meth c cc nL RX5 rt D (tyR cI cZ)) {v : Int32} {K : MR → Option ρ} (d : decode cc pc = .ok (.putfield 159, 3)) (kk : ∀ M1, gG p l e R s m args below meth c nL (ZR D cI cZ q A H0 M1) kc ks QQ (pc + 3) lv st (K M1)) : gG p l e R s m args below meth c nL (ZR D cI cZ q A H0 M) kc ks QQ pc lv (.int v :: .ref (q 34) :: st) (pf M 23 v K) := fun r hr2 H locs ls hz hl => va_put (D := D) (ci := 5) (v := .int v) (C := RX5) (T := TX5) (N := 34) X.1 X.2.1 X.2.2.2.2.1 jX5 tyX5 tyX5_ok nmX5 X.2.2.2.1 X.2.2.2.2.2.1 hz.1 hz.2.1 hz.2.2 0 rfl rfl 23 (by decide) (X.2.2.2.2.1 _ fl5_steps) (fun _ h9 => h9) rfl (tyX5_ok 23 (by decide)) rfl rfl (by show 23 < 34; decide) d (fun H1 locs1 h1 h2 h3 => kk (mS M 23 0 v) r hr2 H1 locs1 ls ⟨(r_f_steps cI cZ q M v) ▸ h1, (r_f_steps cI cZ q M v) ▸ h2, h3⟩ hl)
theorem r_g_failure (X : gX p s m args meth c cc nL RX5 rt D (tyR cI cZ)) {K : Int32 → Option ρ} (d : decode cc pc = .ok (.getfield 156, 3)) (kk : ∀ v, gG p l e R s m args below meth c nL (ZR D cI cZ q A H0 M) kc ks QQ (pc + 3) lv (.int v :: st) (K v)) : gG p l e R s m args below meth c nL (ZR D cI cZ q A H0 M) kc ks QQ pc lv (.ref (q 34) :: st) (gf M 24 K) := fun r hr H locs ls hz hl => va_get (D := D) (ci := 5) (C := RX5) (T := TX5) (N := 34) X.1 X.2.1 X.2.2.2.2.1 jX5 X.2.2.2.1 X.2.2.2.2.2.1 hz.1 0 rfl rfl 24 (by decide) (X.2.2.2.2.1 _ fl5_failure) (fun _ h9 => h9) rfl d (kk _ r hr H locs ls hz hl)
theorem r_f_failure (cI cZ : ClassId) (q : Nat → Nat) (M : MR) (v : Int32) : (wR cI cZ q M).set 0 (q 34, .inr (5, (fsR q M).set 24 (.int v))) = wR cI cZ q (mS M 24 0 v) := rfl
theorem r_p_failure (X : gX p s m args meth c cc nL RX5 rt D (tyR cI cZ)) {v : Int32} {K : MR → Option ρ} (d : decode cc pc = .ok (.putfield 156, 3)) (kk : ∀ M1, gG p l e R s m args below meth c nL (ZR D cI cZ q A H0 M1) kc ks QQ (pc + 3) lv st (K M1)) : gG p l e R s m args below meth c nL (ZR D cI cZ q A H0 M) kc ks QQ pc lv (.int v :: .ref (q 34) :: st) (pf M 24 v K) := fun r hr2 H locs ls hz hl => va_put (D := D) (ci := 5) (v := .int v) (C := RX5) (T := TX5) (N := 34) X.1 X.2.1 X.2.2.2.2.1 jX5 tyX5 tyX5_ok nmX5 X.2.2.2.1 X.2.2.2.2.2.1 hz.1 hz.2.1 hz.2.2 0 rfl rfl 24 (by decide) (X.2.2.2.2.1 _ fl5_failure) (fun _ h9 => h9) rfl (tyX5_ok 24 (by decide)) rfl rfl (by show 24 < 34; decide) d (fun H1 locs1 h1 h2 h3 => kk (mS M 24 0 v) r hr2 H1 locs1 ls ⟨(r_f_failure cI cZ q M v) ▸ h1, (r_f_failure cI cZ q M v) ▸ h2, h3⟩ hl)
theorem r_g_wrote (X : gX p s m args meth c cc nL RX5 rt D (tyR cI cZ)) {K : Int32 → Option ρ} (d : decode cc pc = .ok (.getfield 215, 3)) (kk : ∀ v, gG p l e R s m args below meth c nL (ZR D cI cZ q A H0 M) kc ks QQ (pc + 3) lv (.int v :: st) (K v)) : gG p l e R s m args below meth c nL (ZR D cI cZ q A H0 M) kc ks QQ pc lv (.ref (q 34) :: st) (gf M 25 K) := fun r hr H locs ls hz hl => va_get (D := D) (ci := 5) (C := RX5) (T := TX5) (N := 34) X.1 X.2.1 X.2.2.2.2.1 jX5 X.2.2.2.1 X.2.2.2.2.2.1 hz.1 0 rfl rfl 25 (by decide) (X.2.2.2.2.1 _ fl5_wrote) (fun _ h9 => h9) rfl d (kk _ r hr H locs ls hz hl)
theorem r_f_wrote (cI cZ : ClassId) (q : Nat → Nat) (M : MR) (v : Int32) : (wR cI cZ q M).set 0 (q 34, .inr (5, (fsR q M).set 25 (.int v))) = wR cI cZ q (mS M 25 0 v) := rfl
theorem r_p_wrote (X : gX p s m args meth c cc nL RX5 rt D (tyR cI cZ)) {v : Int32} {K : MR → Option ρ} (d : decode cc pc = .ok (.putfield 215, 3)) (kk : ∀ M1, gG p l e R s m args below meth c nL (ZR D cI cZ q A H0 M1) kc ks QQ (pc + 3) lv st (K M1)) : gG p l e R s m args below meth c nL (ZR D cI cZ q A H0 M) kc ks QQ pc lv (.int v :: .ref (q 34) :: st) (pf M 25 v K) := fun r hr2 H locs ls hz hl => va_put (D := D) (ci := 5) (v := .int v) (C := RX5) (T := TX5) (N := 34) X.1 X.2.1 X.2.2.2.2.1 jX5 tyX5 tyX5_ok nmX5 X.2.2.2.1 X.2.2.2.2.2.1 hz.1 hz.2.1 hz.2.2 0 rfl rfl 25 (by decide) (X.2.2.2.2.1 _ fl5_wrote) (fun _ h9 => h9) rfl (tyX5_ok 25 (by decide)) rfl rfl (by show 25 < 34; decide) d (fun H1 locs1 h1 h2 h3 => kk (mS M 25 0 v) r hr2 H1 locs1 ls ⟨(r_f_wrote cI cZ q M v) ▸ h1, (r_f_wrote cI cZ q M v) ▸ h2, h3⟩ hl)
theorem r_g_isWrittenObj (X : gX p s m args meth c cc nL RX5 rt D (tyR cI cZ)) (d : decode cc pc = .ok (.getfield 57, 3)) (kk : gG p l e R s m args below meth c nL (ZR D cI cZ q A H0 M) kc ks QQ (pc + 3) lv (.ref (q 26) :: st) F) : gG p l e R s m args below meth c nL (ZR D cI cZ q A H0 M) kc ks QQ pc lv (.ref (q 34) :: st) F := fun r hr H locs ls hz hl => va_get (D := D) (ci := 5) (C := RX5) (T := TX5) (N := 34) X.1 X.2.1 X.2.2.2.2.1 jX5 X.2.2.2.1 X.2.2.2.2.2.1 hz.1 0 rfl rfl 26 (by decide) (X.2.2.2.2.1 _ fl5_isWrittenObj) (fun _ h9 => h9) rfl d (kk r hr H locs ls hz hl)
theorem r_l_isWrittenObj (X : gX p s m args meth c cc nL RX5 rt D (tyR cI cZ)) {i : Int32} {K : Int32 → Option ρ} (d : decode cc pc = .ok (.baload, 1)) (kk : ∀ v, gG p l e R s m args below meth c nL (ZR D cI cZ q A H0 M) kc ks QQ (pc + 1) lv (.int v :: st) (K v)) : gG p l e R s m args below meth c nL (ZR D cI cZ q A H0 M) kc ks QQ pc lv (.int i :: .ref (q 26) :: st) (rd M 26 20 i K) := g_ite (fun _ => g_none) (fun hin r hr H locs ls hz hl => va_zald X.1 X.2.1 X.2.2.2.2.2.1 hz.1 16 1 rfl rfl hin d (kk _ r hr H locs ls hz hl))
theorem r_e_isWrittenObj (cI cZ : ClassId) (q : Nat → Nat) (M : MR) (i : Nat) (v : Int32) : (wR cI cZ q M).set 16 (q 26, .inl (cZ, 20, .inl (upd (M 26) i v))) = wR cI cZ q (mS M 26 i v) := rfl
theorem r_s_isWrittenObj (X : gX p s m args meth c cc nL RX5 rt D (tyR cI cZ)) {i v : Int32} {K : MR → Option ρ} (d : decode cc pc = .ok (.bastore, 1)) (kk : ∀ M1, gG p l e R s m args below meth c nL (ZR D cI cZ q A H0 M1) kc ks QQ (pc + 1) lv st (K M1)) : gG p l e R s m args below meth c nL (ZR D cI cZ q A H0 M) kc ks QQ pc lv (.int v :: .int i :: .ref (q 26) :: st) (wz M 26 20 i v K) := g_ite (fun _ => g_none) (fun hin r hr H locs ls hz hl => va_zast X.1 X.2.1 X.2.2.2.2.2.1 hz.1 hz.2.1 hz.2.2 16 1 rfl rfl hin d (fun H1 locs1 h1 h2 h3 => kk (mS M 26 i.toNatClampNeg (vp_nar .boolean v)) r hr H1 locs1 ls ⟨(r_e_isWrittenObj cI cZ q M _ _) ▸ h1, (r_e_isWrittenObj cI cZ q M _ _) ▸ h2, h3⟩ hl))
theorem r_g_writtenValue (X : gX p s m args meth c cc nL RX5 rt D (tyR cI cZ)) (d : decode cc pc = .ok (.getfield 60, 3)) (kk : gG p l e R s m args below meth c nL (ZR D cI cZ q A H0 M) kc ks QQ (pc + 3) lv (.ref (q 27) :: st) F) : gG p l e R s m args below meth c nL (ZR D cI cZ q A H0 M) kc ks QQ pc lv (.ref (q 34) :: st) F := fun r hr H locs ls hz hl => va_get (D := D) (ci := 5) (C := RX5) (T := TX5) (N := 34) X.1 X.2.1 X.2.2.2.2.1 jX5 X.2.2.2.1 X.2.2.2.2.2.1 hz.1 0 rfl rfl 27 (by decide) (X.2.2.2.2.1 _ fl5_writtenValue) (fun _ h9 => h9) rfl d (kk r hr H locs ls hz hl)
theorem r_l_writtenValue (X : gX p s m args meth c cc nL RX5 rt D (tyR cI cZ)) {i : Int32} {K : Int32 → Option ρ} (d : decode cc pc = .ok (.iaload, 1)) (kk : ∀ v, gG p l e R s m args below meth c nL (ZR D cI cZ q A H0 M) kc ks QQ (pc + 1) lv (.int v :: st) (K v)) : gG p l e R s m args below meth c nL (ZR D cI cZ q A H0 M) kc ks QQ pc lv (.int i :: .ref (q 27) :: st) (rd M 27 20 i K) := g_ite (fun _ => g_none) (fun hin r hr H locs ls hz hl => va_iald X.1 X.2.1 X.2.2.2.2.2.1 hz.1 17 0 rfl rfl hin d (kk _ r hr H locs ls hz hl))
theorem r_e_writtenValue (cI cZ : ClassId) (q : Nat → Nat) (M : MR) (i : Nat) (v : Int32) : (wR cI cZ q M).set 17 (q 27, .inl (cI, 20, .inl (upd (M 27) i v))) = wR cI cZ q (mS M 27 i v) := rfl
theorem r_s_writtenValue (X : gX p s m args meth c cc nL RX5 rt D (tyR cI cZ)) {i v : Int32} {K : MR → Option ρ} (d : decode cc pc = .ok (.iastore, 1)) (kk : ∀ M1, gG p l e R s m args below meth c nL (ZR D cI cZ q A H0 M1) kc ks QQ (pc + 1) lv st (K M1)) : gG p l e R s m args below meth c nL (ZR D cI cZ q A H0 M) kc ks QQ pc lv (.int v :: .int i :: .ref (q 27) :: st) (wr M 27 20 i v K) := g_ite (fun _ => g_none) (fun hin r hr H locs ls hz hl => va_iast X.1 X.2.1 X.2.2.2.2.2.1 hz.1 hz.2.1 hz.2.2 17 0 rfl rfl hin d (fun H1 locs1 h1 h2 h3 => kk (mS M 27 i.toNatClampNeg v) r hr H1 locs1 ls ⟨(r_e_writtenValue cI cZ q M _ _) ▸ h1, (r_e_writtenValue cI cZ q M _ _) ▸ h2, h3⟩ hl))
theorem r_g_isStale (X : gX p s m args meth c cc nL RX5 rt D (tyR cI cZ)) (d : decode cc pc = .ok (.getfield 63, 3)) (kk : gG p l e R s m args below meth c nL (ZR D cI cZ q A H0 M) kc ks QQ (pc + 3) lv (.ref (q 28) :: st) F) : gG p l e R s m args below meth c nL (ZR D cI cZ q A H0 M) kc ks QQ pc lv (.ref (q 34) :: st) F := fun r hr H locs ls hz hl => va_get (D := D) (ci := 5) (C := RX5) (T := TX5) (N := 34) X.1 X.2.1 X.2.2.2.2.1 jX5 X.2.2.2.1 X.2.2.2.2.2.1 hz.1 0 rfl rfl 28 (by decide) (X.2.2.2.2.1 _ fl5_isStale) (fun _ h9 => h9) rfl d (kk r hr H locs ls hz hl)
theorem r_l_isStale (X : gX p s m args meth c cc nL RX5 rt D (tyR cI cZ)) {i : Int32} {K : Int32 → Option ρ} (d : decode cc pc = .ok (.baload, 1)) (kk : ∀ v, gG p l e R s m args below meth c nL (ZR D cI cZ q A H0 M) kc ks QQ (pc + 1) lv (.int v :: st) (K v)) : gG p l e R s m args below meth c nL (ZR D cI cZ q A H0 M) kc ks QQ pc lv (.int i :: .ref (q 28) :: st) (rd M 28 40 i K) := g_ite (fun _ => g_none) (fun hin r hr H locs ls hz hl => va_zald X.1 X.2.1 X.2.2.2.2.2.1 hz.1 18 1 rfl rfl hin d (kk _ r hr H locs ls hz hl))
theorem r_e_isStale (cI cZ : ClassId) (q : Nat → Nat) (M : MR) (i : Nat) (v : Int32) : (wR cI cZ q M).set 18 (q 28, .inl (cZ, 40, .inl (upd (M 28) i v))) = wR cI cZ q (mS M 28 i v) := rfl
theorem r_s_isStale (X : gX p s m args meth c cc nL RX5 rt D (tyR cI cZ)) {i v : Int32} {K : MR → Option ρ} (d : decode cc pc = .ok (.bastore, 1)) (kk : ∀ M1, gG p l e R s m args below meth c nL (ZR D cI cZ q A H0 M1) kc ks QQ (pc + 1) lv st (K M1)) : gG p l e R s m args below meth c nL (ZR D cI cZ q A H0 M) kc ks QQ pc lv (.int v :: .int i :: .ref (q 28) :: st) (wz M 28 40 i v K) := g_ite (fun _ => g_none) (fun hin r hr H locs ls hz hl => va_zast X.1 X.2.1 X.2.2.2.2.2.1 hz.1 hz.2.1 hz.2.2 18 1 rfl rfl hin d (fun H1 locs1 h1 h2 h3 => kk (mS M 28 i.toNatClampNeg (vp_nar .boolean v)) r hr H1 locs1 ls ⟨(r_e_isStale cI cZ q M _ _) ▸ h1, (r_e_isStale cI cZ q M _ _) ▸ h2, h3⟩ hl))
theorem r_g_waits (X : gX p s m args meth c cc nL RX5 rt D (tyR cI cZ)) (d : decode cc pc = .ok (.getfield 66, 3)) (kk : gG p l e R s m args below meth c nL (ZR D cI cZ q A H0 M) kc ks QQ (pc + 3) lv (.ref (q 29) :: st) F) : gG p l e R s m args below meth c nL (ZR D cI cZ q A H0 M) kc ks QQ pc lv (.ref (q 34) :: st) F := fun r hr H locs ls hz hl => va_get (D := D) (ci := 5) (C := RX5) (T := TX5) (N := 34) X.1 X.2.1 X.2.2.2.2.1 jX5 X.2.2.2.1 X.2.2.2.2.2.1 hz.1 0 rfl rfl 29 (by decide) (X.2.2.2.2.1 _ fl5_waits) (fun _ h9 => h9) rfl d (kk r hr H locs ls hz hl)
theorem r_l_waits (X : gX p s m args meth c cc nL RX5 rt D (tyR cI cZ)) {i : Int32} {K : Int32 → Option ρ} (d : decode cc pc = .ok (.baload, 1)) (kk : ∀ v, gG p l e R s m args below meth c nL (ZR D cI cZ q A H0 M) kc ks QQ (pc + 1) lv (.int v :: st) (K v)) : gG p l e R s m args below meth c nL (ZR D cI cZ q A H0 M) kc ks QQ pc lv (.int i :: .ref (q 29) :: st) (rd M 29 40 i K) := g_ite (fun _ => g_none) (fun hin r hr H locs ls hz hl => va_zald X.1 X.2.1 X.2.2.2.2.2.1 hz.1 19 1 rfl rfl hin d (kk _ r hr H locs ls hz hl))
theorem r_e_waits (cI cZ : ClassId) (q : Nat → Nat) (M : MR) (i : Nat) (v : Int32) : (wR cI cZ q M).set 19 (q 29, .inl (cZ, 40, .inl (upd (M 29) i v))) = wR cI cZ q (mS M 29 i v) := rfl
theorem r_s_waits (X : gX p s m args meth c cc nL RX5 rt D (tyR cI cZ)) {i v : Int32} {K : MR → Option ρ} (d : decode cc pc = .ok (.bastore, 1)) (kk : ∀ M1, gG p l e R s m args below meth c nL (ZR D cI cZ q A H0 M1) kc ks QQ (pc + 1) lv st (K M1)) : gG p l e R s m args below meth c nL (ZR D cI cZ q A H0 M) kc ks QQ pc lv (.int v :: .int i :: .ref (q 29) :: st) (wz M 29 40 i v K) := g_ite (fun _ => g_none) (fun hin r hr H locs ls hz hl => va_zast X.1 X.2.1 X.2.2.2.2.2.1 hz.1 hz.2.1 hz.2.2 19 1 rfl rfl hin d (fun H1 locs1 h1 h2 h3 => kk (mS M 29 i.toNatClampNeg (vp_nar .boolean v)) r hr H1 locs1 ls ⟨(r_e_waits cI cZ q M _ _) ▸ h1, (r_e_waits cI cZ q M _ _) ▸ h2, h3⟩ hl))
theorem r_g_cameKind (X : gX p s m args meth c cc nL RX5 rt D (tyR cI cZ)) {K : Int32 → Option ρ} (d : decode cc pc = .ok (.getfield 269, 3)) (kk : ∀ v, gG p l e R s m args below meth c nL (ZR D cI cZ q A H0 M) kc ks QQ (pc + 3) lv (.int v :: st) (K v)) : gG p l e R s m args below meth c nL (ZR D cI cZ q A H0 M) kc ks QQ pc lv (.ref (q 34) :: st) (gf M 30 K) := fun r hr H locs ls hz hl => va_get (D := D) (ci := 5) (C := RX5) (T := TX5) (N := 34) X.1 X.2.1 X.2.2.2.2.1 jX5 X.2.2.2.1 X.2.2.2.2.2.1 hz.1 0 rfl rfl 30 (by decide) (X.2.2.2.2.1 _ fl5_cameKind) (fun _ h9 => h9) rfl d (kk _ r hr H locs ls hz hl)
theorem r_f_cameKind (cI cZ : ClassId) (q : Nat → Nat) (M : MR) (v : Int32) : (wR cI cZ q M).set 0 (q 34, .inr (5, (fsR q M).set 30 (.int v))) = wR cI cZ q (mS M 30 0 v) := rfl
theorem r_p_cameKind (X : gX p s m args meth c cc nL RX5 rt D (tyR cI cZ)) {v : Int32} {K : MR → Option ρ} (d : decode cc pc = .ok (.putfield 269, 3)) (kk : ∀ M1, gG p l e R s m args below meth c nL (ZR D cI cZ q A H0 M1) kc ks QQ (pc + 3) lv st (K M1)) : gG p l e R s m args below meth c nL (ZR D cI cZ q A H0 M) kc ks QQ pc lv (.int v :: .ref (q 34) :: st) (pf M 30 v K) := fun r hr2 H locs ls hz hl => va_put (D := D) (ci := 5) (v := .int v) (C := RX5) (T := TX5) (N := 34) X.1 X.2.1 X.2.2.2.2.1 jX5 tyX5 tyX5_ok nmX5 X.2.2.2.1 X.2.2.2.2.2.1 hz.1 hz.2.1 hz.2.2 0 rfl rfl 30 (by decide) (X.2.2.2.2.1 _ fl5_cameKind) (fun _ h9 => h9) rfl (tyX5_ok 30 (by decide)) rfl rfl (by show 30 < 34; decide) d (fun H1 locs1 h1 h2 h3 => kk (mS M 30 0 v) r hr2 H1 locs1 ls ⟨(r_f_cameKind cI cZ q M v) ▸ h1, (r_f_cameKind cI cZ q M v) ▸ h2, h3⟩ hl)
theorem r_g_cameValue (X : gX p s m args meth c cc nL RX5 rt D (tyR cI cZ)) {K : Int32 → Option ρ} (d : decode cc pc = .ok (.getfield 272, 3)) (kk : ∀ v, gG p l e R s m args below meth c nL (ZR D cI cZ q A H0 M) kc ks QQ (pc + 3) lv (.int v :: st) (K v)) : gG p l e R s m args below meth c nL (ZR D cI cZ q A H0 M) kc ks QQ pc lv (.ref (q 34) :: st) (gf M 31 K) := fun r hr H locs ls hz hl => va_get (D := D) (ci := 5) (C := RX5) (T := TX5) (N := 34) X.1 X.2.1 X.2.2.2.2.1 jX5 X.2.2.2.1 X.2.2.2.2.2.1 hz.1 0 rfl rfl 31 (by decide) (X.2.2.2.2.1 _ fl5_cameValue) (fun _ h9 => h9) rfl d (kk _ r hr H locs ls hz hl)
theorem r_f_cameValue (cI cZ : ClassId) (q : Nat → Nat) (M : MR) (v : Int32) : (wR cI cZ q M).set 0 (q 34, .inr (5, (fsR q M).set 31 (.int v))) = wR cI cZ q (mS M 31 0 v) := rfl
theorem r_p_cameValue (X : gX p s m args meth c cc nL RX5 rt D (tyR cI cZ)) {v : Int32} {K : MR → Option ρ} (d : decode cc pc = .ok (.putfield 272, 3)) (kk : ∀ M1, gG p l e R s m args below meth c nL (ZR D cI cZ q A H0 M1) kc ks QQ (pc + 3) lv st (K M1)) : gG p l e R s m args below meth c nL (ZR D cI cZ q A H0 M) kc ks QQ pc lv (.int v :: .ref (q 34) :: st) (pf M 31 v K) := fun r hr2 H locs ls hz hl => va_put (D := D) (ci := 5) (v := .int v) (C := RX5) (T := TX5) (N := 34) X.1 X.2.1 X.2.2.2.2.1 jX5 tyX5 tyX5_ok nmX5 X.2.2.2.1 X.2.2.2.2.2.1 hz.1 hz.2.1 hz.2.2 0 rfl rfl 31 (by decide) (X.2.2.2.2.1 _ fl5_cameValue) (fun _ h9 => h9) rfl (tyX5_ok 31 (by decide)) rfl rfl (by show 31 < 34; decide) d (fun H1 locs1 h1 h2 h3 => kk (mS M 31 0 v) r hr2 H1 locs1 ls ⟨(r_f_cameValue cI cZ q M v) ▸ h1, (r_f_cameValue cI cZ q M v) ▸ h2, h3⟩ hl)
theorem r_g_cameFailure (X : gX p s m args meth c cc nL RX5 rt D (tyR cI cZ)) {K : Int32 → Option ρ} (d : decode cc pc = .ok (.getfield 275, 3)) (kk : ∀ v, gG p l e R s m args below meth c nL (ZR D cI cZ q A H0 M) kc ks QQ (pc + 3) lv (.int v :: st) (K v)) : gG p l e R s m args below meth c nL (ZR D cI cZ q A H0 M) kc ks QQ pc lv (.ref (q 34) :: st) (gf M 32 K) := fun r hr H locs ls hz hl => va_get (D := D) (ci := 5) (C := RX5) (T := TX5) (N := 34) X.1 X.2.1 X.2.2.2.2.1 jX5 X.2.2.2.1 X.2.2.2.2.2.1 hz.1 0 rfl rfl 32 (by decide) (X.2.2.2.2.1 _ fl5_cameFailure) (fun _ h9 => h9) rfl d (kk _ r hr H locs ls hz hl)
theorem r_f_cameFailure (cI cZ : ClassId) (q : Nat → Nat) (M : MR) (v : Int32) : (wR cI cZ q M).set 0 (q 34, .inr (5, (fsR q M).set 32 (.int v))) = wR cI cZ q (mS M 32 0 v) := rfl
theorem r_p_cameFailure (X : gX p s m args meth c cc nL RX5 rt D (tyR cI cZ)) {v : Int32} {K : MR → Option ρ} (d : decode cc pc = .ok (.putfield 275, 3)) (kk : ∀ M1, gG p l e R s m args below meth c nL (ZR D cI cZ q A H0 M1) kc ks QQ (pc + 3) lv st (K M1)) : gG p l e R s m args below meth c nL (ZR D cI cZ q A H0 M) kc ks QQ pc lv (.int v :: .ref (q 34) :: st) (pf M 32 v K) := fun r hr2 H locs ls hz hl => va_put (D := D) (ci := 5) (v := .int v) (C := RX5) (T := TX5) (N := 34) X.1 X.2.1 X.2.2.2.2.1 jX5 tyX5 tyX5_ok nmX5 X.2.2.2.1 X.2.2.2.2.2.1 hz.1 hz.2.1 hz.2.2 0 rfl rfl 32 (by decide) (X.2.2.2.2.1 _ fl5_cameFailure) (fun _ h9 => h9) rfl (tyX5_ok 32 (by decide)) rfl rfl (by show 32 < 34; decide) d (fun H1 locs1 h1 h2 h3 => kk (mS M 32 0 v) r hr2 H1 locs1 ls ⟨(r_f_cameFailure cI cZ q M v) ▸ h1, (r_f_cameFailure cI cZ q M v) ▸ h2, h3⟩ hl)
theorem r_g_cameSteps (X : gX p s m args meth c cc nL RX5 rt D (tyR cI cZ)) {K : Int32 → Option ρ} (d : decode cc pc = .ok (.getfield 278, 3)) (kk : ∀ v, gG p l e R s m args below meth c nL (ZR D cI cZ q A H0 M) kc ks QQ (pc + 3) lv (.int v :: st) (K v)) : gG p l e R s m args below meth c nL (ZR D cI cZ q A H0 M) kc ks QQ pc lv (.ref (q 34) :: st) (gf M 33 K) := fun r hr H locs ls hz hl => va_get (D := D) (ci := 5) (C := RX5) (T := TX5) (N := 34) X.1 X.2.1 X.2.2.2.2.1 jX5 X.2.2.2.1 X.2.2.2.2.2.1 hz.1 0 rfl rfl 33 (by decide) (X.2.2.2.2.1 _ fl5_cameSteps) (fun _ h9 => h9) rfl d (kk _ r hr H locs ls hz hl)
theorem r_f_cameSteps (cI cZ : ClassId) (q : Nat → Nat) (M : MR) (v : Int32) : (wR cI cZ q M).set 0 (q 34, .inr (5, (fsR q M).set 33 (.int v))) = wR cI cZ q (mS M 33 0 v) := rfl
theorem r_p_cameSteps (X : gX p s m args meth c cc nL RX5 rt D (tyR cI cZ)) {v : Int32} {K : MR → Option ρ} (d : decode cc pc = .ok (.putfield 278, 3)) (kk : ∀ M1, gG p l e R s m args below meth c nL (ZR D cI cZ q A H0 M1) kc ks QQ (pc + 3) lv st (K M1)) : gG p l e R s m args below meth c nL (ZR D cI cZ q A H0 M) kc ks QQ pc lv (.int v :: .ref (q 34) :: st) (pf M 33 v K) := fun r hr2 H locs ls hz hl => va_put (D := D) (ci := 5) (v := .int v) (C := RX5) (T := TX5) (N := 34) X.1 X.2.1 X.2.2.2.2.1 jX5 tyX5 tyX5_ok nmX5 X.2.2.2.1 X.2.2.2.2.2.1 hz.1 hz.2.1 hz.2.2 0 rfl rfl 33 (by decide) (X.2.2.2.2.1 _ fl5_cameSteps) (fun _ h9 => h9) rfl (tyX5_ok 33 (by decide)) rfl rfl (by show 33 < 34; decide) d (fun H1 locs1 h1 h2 h3 => kk (mS M 33 0 v) r hr2 H1 locs1 ls ⟨(r_f_cameSteps cI cZ q M v) ▸ h1, (r_f_cameSteps cI cZ q M v) ▸ h2, h3⟩ hl)
end RR
end
section
def rmR (fr lo : Nat) : Room := { frames := fr, cells := 0, slots := 0, locals := lo }
theorem good_in {ws : List Cond} (h : ∀ w ∈ ws, w ∈ tt) : GoodIn tt ws := fun w hw => good_tt (fun _ h => h) w (h w hw)
theorem in_wsM {y : MethodName} {b : ByteArray} {n : Nat} {ret : Option FieldType} (hc : Cond.code y b n ret ∈ tt) : ∀ w ∈ wsM y b n ret, w ∈ tt := fun w h => by
  rcases List.mem_cons.mp h with rfl | h
  · exact hc
  · exact h
theorem ini5 : Cond.initialized RX5 ∈ tt := tt_in (by decide +kernel) (by decide +kernel)
theorem cwVR {R : Room} {s : State} {args : Array Value} {own C : String} {ix n k fr lo : Nat} {y : MethodName} {b : ByteArray} {ret : Option FieldType} (hts : ∀ w ∈ tt, w.before args s = true) (h1 : Cond.methodLink own ix y ∈ tt) (h2 : Cond.instanceMethod y ∈ tt) (h3 : Cond.selects C y y ∈ tt) (h4 : Cond.code y b n ret ∈ tt) (h5 : Cond.initialized C ∈ tt)
    (hd : y.cls = C ∧ y.cls ≠ "java/lang/invoke/MethodHandle" ∧ y.cls ≠ "java/lang/invoke/VarHandle" ∧ (parseMethodDescriptor y.desc).map (fun d => d.parameters.length) = some k) (hR : fr + 1 ≤ R.frames ∧ 8 + (n + 11) + lo ≤ R.locals) : CallW R s args own C ix y b n ret (wsM y b n ret) (rmR fr lo) 0 0 k := by
  refine cwV k hts (good_in fun w hw => ?_) rfl rfl rfl hd hR
  rcases List.mem_append.mp hw with hw | hw
  · simp only [List.mem_cons, List.not_mem_nil, or_false] at hw
    rcases hw with rfl | rfl | rfl | rfl <;> assumption
  · exact in_wsM h4 w hw
theorem cwSR {R : Room} {s : State} {args : Array Value} {own : String} {ix n k fr lo : Nat} {y : MethodName} {b : ByteArray} {ret : Option FieldType} (hts : ∀ w ∈ tt, w.before args s = true) (h1 : Cond.methodLink own ix y ∈ tt) (h2 : Cond.static y ∈ tt) (h4 : Cond.code y b n ret ∈ tt) (h5 : Cond.initialized y.cls ∈ tt)
    (hd : y.cls ≠ "java/lang/invoke/MethodHandle" ∧ y.cls ≠ "java/lang/invoke/VarHandle" ∧ (parseMethodDescriptor y.desc).map (fun d => d.parameters.length) = some k) (hR : fr + 1 ≤ R.frames ∧ 8 + (n + 11) + lo ≤ R.locals) : CallB R s args own ix y b n ret (wsM y b n ret) (rmR fr lo) 0 0 k ∧ (Cond.static y).before args s = true := by
  refine va_cwS k hts (good_in fun w hw => ?_) rfl rfl rfl hd hR
  rcases List.mem_append.mp hw with hw | hw
  · simp only [List.mem_cons, List.not_mem_nil, or_false] at hw
    rcases hw with rfl | rfl | rfl <;> assumption
  · exact in_wsM h4 w hw
def QI (D : va_G) (cI cZ : ClassId) (q : Nat → Nat) (sz : Nat) (r : Int32 × MR) : Array Value → State → Outcome → State → Prop := va_Qi (fun (v : Int32) (M : MR) => v = r.1 ∧ M = r.2) (fun M t => va_P D vwCl (wR cI cZ q M) t.heap ∧ va_K D vwCl (tyR cI cZ) t ∧ va_D (AR q sz) (wR cI cZ q M)) (AR q sz)
def QV (D : va_G) (cI cZ : ClassId) (q : Nat → Nat) (sz : Nat) (r : Int32 × MR) : Array Value → State → Outcome → State → Prop := va_Qv (fun (M : MR) => M = r.2) (fun M t => va_P D vwCl (wR cI cZ q M) t.heap ∧ va_K D vwCl (tyR cI cZ) t ∧ va_D (AR q sz) (wR cI cZ q M)) (AR q sz)
/-- what a method of the reference wants at its start -/
def PcR (D : va_G) (cI cZ : ClassId) (q : Nat → Nat) (sz : Nat) (vs : List Value) (M : MR) : Array Value → State → Prop := va_Pc vs (fun U => U.heap.size = sz ∧ va_P D vwCl (wR cI cZ q M) U.heap ∧ va_K D vwCl (tyR cI cZ) U ∧ va_D (fun _ => True) (wR cI cZ q M))
theorem PcR_blind {D : va_G} {cI cZ : ClassId} {q : Nat → Nat} {sz : Nat} {vs : List Value} {M : MR} : FrameBlind (PcR D cI cZ q sz vs M) := fun a U g mk h => by
  obtain ⟨h0, h1, h2, h3, h4⟩ := h
  exact ⟨h0, h1, h2, va_K.moved (u := U) (U := U.calling g mk a) (Vm.Alike.refl U.vm) h3, h4⟩
/-- a method of the reference does what the pure program F says -/
def MetR (l : Launch) (D : va_G) (cI cZ : ClassId) (q : Nat → Nat) (y : MethodName) (b : ByteArray) (nL : Nat) (ret : Option FieldType) (fr lo : Nat) (Qk : va_G → ClassId → ClassId → (Nat → Nat) → Nat → Int32 × MR → Array Value → State → Outcome → State → Prop) (vs : List Value) (M : MR) (F : Option (Int32 × MR)) : Prop :=
  ∀ sz r, F = some r → Met l y (wsM y b nL ret) (rmR fr lo) (PcR D cI cZ q sz vs M) (Qk D cI cZ q sz r) 0 0 (AR q sz)
theorem MetR.of {l : Launch} {D : va_G} {cI cZ : ClassId} {q : Nat → Nat} {y : MethodName} {b : ByteArray} {nL : Nat} {ret : Option FieldType} {fr lo : Nat} {Qk : va_G → ClassId → ClassId → (Nat → Nat) → Nat → Int32 × MR → Array Value → State → Outcome → State → Prop} {vs : List Value} {M : MR} {F : Option (Int32 × MR)} (hy : plainName y.cls = true) (hcl : y.cls = RX5) (hlen : (lg_sl vs).length ≤ nL)
    (body : ∀ (p : Program) (e : Env) (s : State) (m : MethodId) (args : Array Value) (below : List Frame) (meth : Method) (c : Code), gX p s m args meth c b nL RX5 ret D (tyR cI cZ) → gG p l e (rmR fr lo) s m args below meth c nL (ZR D cI cZ q (AR q s.heap.size) s.heap M) 0 0 (fun r => MQ below (Qk D cI cZ q s.heap.size r) args s 0 0 (AR q s.heap.size)) 0 (lv_args 0 vs) [] F) : MetR l D cI cZ q y b nL ret fr lo Qk vs M F := by
  intro sz r hr
  refine Met.ofW (cc := b) (maxL := nL) (ret := ret) hy rfl ?_
  intro p e s m args below meth c s₁ B hml hv
  obtain ⟨rfl, hsz, hP, hK, hD0⟩ := hv
  have hts : ∀ w ∈ tt, w.before vs.toArray s = true := fun w hw => atoms_spec (ws := wsM y b nL ret) B.pre w (List.mem_cons_of_mem _ hw)
  have hown : s.vm.findClass RX5 = some m.cls := by rw [← hcl]; exact findClass_of_methodNamed B.named
  subst hsz
  have hD := hD0.self (sz := s.heap.size)
  rw [AR_eq] at hD
  have hl := lv_entry vs (n := nL) hlen
  rw [lg_entry_eq]
  exact body p e s m _ below meth c ⟨B.exec, B.bytes, hml, hown, hts, hK, B.notSynchronized, B.returns⟩ r hr _ _ _ ⟨hP, hD, va_S.rf⟩ hl
section RC
variable {ρ : Type} {p : Program} {l : Launch} {e : Env} {R : Room} {s : State} {m : MethodId} {args : Array Value} {below : List Frame} {meth : Method} {c : Code}
variable {cc : ByteArray} {nL : Nat} {rt : Option FieldType} {D : va_G} {cI cZ : ClassId} {q : Nat → Nat} {A : Nat → Prop} {H0 : Heap} {M : MR} {kc ks : Nat} {QQ : ρ → State → Prop} {pc : Nat} {lv : List (Nat × Value)} {st : List Value} {F : Option ρ}
theorem r_iret {v : Int32} (X : gX p s m args meth c cc nL RX5 (some .int) D (tyR cI cZ)) (d : decode cc pc = .ok (.ireturn, 1)) : gG p l e R s m args below meth c nL (ZR D cI cZ q (AR q s.heap.size) s.heap M) 0 0 (fun r => MQ below (QI D cI cZ q s.heap.size r) args s 0 0 (AR q s.heap.size)) pc lv [.int v] (some (v, M)) := fun r hr H locs ls hz hl => by
  cases hr
  exact W.iret (v := v) X.1 X.2.1 X.2.2.2.2.2.2.2 (fun t ht hW => ⟨⟨v, M, rfl, ⟨rfl, rfl⟩, by rw [ht]; exact hz.1, va_K.moved hW.alike X.2.2.2.2.2.1, hz.2.1⟩, hz.2.2.F ht⟩) hz.2.2.2.2 d X.2.2.2.2.2.2.1
theorem r_zret {v : Int32} (X : gX p s m args meth c cc nL RX5 (some .boolean) D (tyR cI cZ)) (d : decode cc pc = .ok (.ireturn, 1)) : gG p l e R s m args below meth c nL (ZR D cI cZ q (AR q s.heap.size) s.heap M) 0 0 (fun r => MQ below (QI D cI cZ q s.heap.size r) args s 0 0 (AR q s.heap.size)) pc lv [.int v] (zt v (some (v, M))) := fun r hr H locs ls hz hl => by
  obtain ⟨hb, hr⟩ := zt_bo hr
  cases hr
  exact W.zret (v := v) X.1 X.2.1 X.2.2.2.2.2.2.2 (bo_nar hb).1 (fun t ht hW => ⟨⟨v, M, rfl, ⟨rfl, rfl⟩, by rw [ht]; exact hz.1, va_K.moved hW.alike X.2.2.2.2.2.1, hz.2.1⟩, hz.2.2.F ht⟩) hz.2.2.2.2 d X.2.2.2.2.2.2.1
theorem r_vret (X : gX p s m args meth c cc nL RX5 none D (tyR cI cZ)) (d : decode cc pc = .ok (.return_, 1)) : gG p l e R s m args below meth c nL (ZR D cI cZ q (AR q s.heap.size) s.heap M) 0 0 (fun r => MQ below (QV D cI cZ q s.heap.size r) args s 0 0 (AR q s.heap.size)) pc lv [] (some (0, M)) := fun r hr H locs ls hz hl => by
  cases hr
  exact W.vret X.1 X.2.1 X.2.2.2.2.2.2.2 (fun t ht hW => ⟨⟨M, rfl, rfl, by rw [ht]; exact hz.1, va_K.moved hW.alike X.2.2.2.2.2.1, hz.2.1⟩, hz.2.2.F ht⟩) hz.2.2.2.2 d X.2.2.2.2.2.2.1
theorem bnd_some {α β : Type} {x : Option (α × β)} {K : α → β → Option ρ} {r : ρ} (h : bnd x K = some r) : ∃ a, x = some a ∧ K a.1 a.2 = some r := by
  unfold bnd at h
  cases x with
  | none => cases h
  | some a => exact ⟨a, rfl, h⟩
theorem r_callVi (X : gX p s m args meth c cc nL RX5 rt D (tyR cI cZ)) {y : MethodName} {b : ByteArray} {nz fr lo n ix : Nat} {ret : Option FieldType} {As rest : List Value} {Fz : Option (Int32 × MR)} {K : Int32 → MR → Option ρ} (hM : MetR l D cI cZ q y b nz ret fr lo QI (.ref (q 34) :: As) M Fz) (cw : CallW R s args RX5 RX5 ix y b nz ret (wsM y b nz ret) (rmR fr lo) 0 0 n) (hn : As.length = n) (hst : st = As.reverse ++ .ref (q 34) :: rest) (hcat : (rest.map fun v => v.category).sum ≤ 8) (d : decode cc pc = .ok (.invokevirtual ix, 3))
    (kk : ∀ v M1, gG p l e R s m args below meth c nL (ZR D cI cZ q (AR q s.heap.size) s.heap M1) 0 0 QQ (pc + 3) lv (.int v :: rest) (K v M1)) : gG p l e R s m args below meth c nL (ZR D cI cZ q (AR q s.heap.size) s.heap M) 0 0 QQ pc lv st (bnd Fz K) := fun r hr H locs ls hz hl => by
  obtain ⟨a, hF, hr⟩ := bnd_some hr
  have hmono : ∀ x, AR q H.size x → AR q s.heap.size x := fun x hx => AR_mono hz.2.2.1 hx
  refine va_calli (va_runV (As := As) (rest := rest) ⟨X.1, X.2.1, X.2.2.1, X.2.2.2.1, X.2.2.2.2.1⟩ (hM H.size a hF) cw ⟨PcR_blind, va_recv X.2.2.2.2.2.1 hz.1 (ci := 5) (q0 := 0) rfl rfl, fun U hU hW => ⟨rfl, by rw [hU], by rw [hU]; exact hz.1, va_K.moved hW.alike X.2.2.2.2.2.1, hz.2.1.weaken (fun _ _ _ _ => trivial)⟩⟩ rfl hn hl.1 hst (lv_room hcat) d ⟨Nat.zero_le _, Nat.zero_le _⟩) hz.2.2 (fun x _ h => hmono x h) (fun x h => hmono x h) (fun v u t H1 locs1 ht hvm hw hB hz1 hk1 hS => ?_)
  obtain ⟨rfl, rfl⟩ := hw
  subst ht
  exact kk _ _ r hr _ _ ls ⟨hB.1, hB.2.2.weaken (fun _ _ _ h => hmono _ h), hS⟩ hl
theorem r_callVv (X : gX p s m args meth c cc nL RX5 rt D (tyR cI cZ)) {y : MethodName} {b : ByteArray} {nz fr lo n ix : Nat} {ret : Option FieldType} {As rest : List Value} {Fz : Option (Int32 × MR)} {K : Int32 → MR → Option ρ} (hM : MetR l D cI cZ q y b nz ret fr lo QV (.ref (q 34) :: As) M Fz) (cw : CallW R s args RX5 RX5 ix y b nz ret (wsM y b nz ret) (rmR fr lo) 0 0 n) (hn : As.length = n) (hst : st = As.reverse ++ .ref (q 34) :: rest) (hcat : (rest.map fun v => v.category).sum ≤ 8) (d : decode cc pc = .ok (.invokevirtual ix, 3))
    (kk : ∀ v M1, gG p l e R s m args below meth c nL (ZR D cI cZ q (AR q s.heap.size) s.heap M1) 0 0 QQ (pc + 3) lv rest (K v M1)) : gG p l e R s m args below meth c nL (ZR D cI cZ q (AR q s.heap.size) s.heap M) 0 0 QQ pc lv st (bnd Fz K) := fun r hr H locs ls hz hl => by
  obtain ⟨a, hF, hr⟩ := bnd_some hr
  have hmono : ∀ x, AR q H.size x → AR q s.heap.size x := fun x hx => AR_mono hz.2.2.1 hx
  refine va_callv (va_runV (As := As) (rest := rest) ⟨X.1, X.2.1, X.2.2.1, X.2.2.2.1, X.2.2.2.2.1⟩ (hM H.size a hF) cw ⟨PcR_blind, va_recv X.2.2.2.2.2.1 hz.1 (ci := 5) (q0 := 0) rfl rfl, fun U hU hW => ⟨rfl, by rw [hU], by rw [hU]; exact hz.1, va_K.moved hW.alike X.2.2.2.2.2.1, hz.2.1.weaken (fun _ _ _ _ => trivial)⟩⟩ rfl hn hl.1 hst (lv_room hcat) d ⟨Nat.zero_le _, Nat.zero_le _⟩) hz.2.2 (fun x _ h => hmono x h) (fun x h => hmono x h) (fun u t H1 locs1 ht hvm hw hB hz1 hk1 hS => ?_)
  subst hw
  subst ht
  exact kk _ _ r hr _ _ ls ⟨hB.1, hB.2.2.weaken (fun _ _ _ h => hmono _ h), hS⟩ hl
theorem r_callSi (X : gX p s m args meth c cc nL RX5 rt D (tyR cI cZ)) {y : MethodName} {b : ByteArray} {nz fr lo n ix : Nat} {ret : Option FieldType} {As rest : List Value} {Fz : Option (Int32 × MR)} {K : Int32 → MR → Option ρ} (hM : MetR l D cI cZ q y b nz ret fr lo QI As M Fz) (cw : CallB R s args RX5 ix y b nz ret (wsM y b nz ret) (rmR fr lo) 0 0 n ∧ (Cond.static y).before args s = true) (hn : As.length = n) (hst : st = As.reverse ++ rest) (hcat : (rest.map fun v => v.category).sum ≤ 8) (d : decode cc pc = .ok (.invokestatic ix, 3))
    (kk : ∀ v M1, gG p l e R s m args below meth c nL (ZR D cI cZ q (AR q s.heap.size) s.heap M1) 0 0 QQ (pc + 3) lv (.int v :: rest) (K v M1)) : gG p l e R s m args below meth c nL (ZR D cI cZ q (AR q s.heap.size) s.heap M) 0 0 QQ pc lv st (bnd Fz K) := fun r hr H locs ls hz hl => by
  obtain ⟨a, hF, hr⟩ := bnd_some hr
  have hmono : ∀ x, AR q H.size x → AR q s.heap.size x := fun x hx => AR_mono hz.2.2.1 hx
  refine va_calli (va_runS (As := As) (rest := rest) ⟨X.1, X.2.1, X.2.2.1, X.2.2.2.1, X.2.2.2.2.1⟩ (hM H.size a hF) cw ⟨PcR_blind, fun U hU hW => ⟨rfl, by rw [hU], by rw [hU]; exact hz.1, va_K.moved hW.alike X.2.2.2.2.2.1, hz.2.1.weaken (fun _ _ _ _ => trivial)⟩⟩ rfl hn hl.1 hst (lv_room hcat) d ⟨Nat.zero_le _, Nat.zero_le _⟩) hz.2.2 (fun x _ h => hmono x h) (fun x h => hmono x h) (fun v u t H1 locs1 ht hvm hw hB hz1 hk1 hS => ?_)
  obtain ⟨rfl, rfl⟩ := hw
  subst ht
  exact kk _ _ r hr _ _ ls ⟨hB.1, hB.2.2.weaken (fun _ _ _ h => hmono _ h), hS⟩ hl
theorem r_callSv (X : gX p s m args meth c cc nL RX5 rt D (tyR cI cZ)) {y : MethodName} {b : ByteArray} {nz fr lo n ix : Nat} {ret : Option FieldType} {As rest : List Value} {Fz : Option (Int32 × MR)} {K : Int32 → MR → Option ρ} (hM : MetR l D cI cZ q y b nz ret fr lo QV As M Fz) (cw : CallB R s args RX5 ix y b nz ret (wsM y b nz ret) (rmR fr lo) 0 0 n ∧ (Cond.static y).before args s = true) (hn : As.length = n) (hst : st = As.reverse ++ rest) (hcat : (rest.map fun v => v.category).sum ≤ 8) (d : decode cc pc = .ok (.invokestatic ix, 3))
    (kk : ∀ v M1, gG p l e R s m args below meth c nL (ZR D cI cZ q (AR q s.heap.size) s.heap M1) 0 0 QQ (pc + 3) lv rest (K v M1)) : gG p l e R s m args below meth c nL (ZR D cI cZ q (AR q s.heap.size) s.heap M) 0 0 QQ pc lv st (bnd Fz K) := fun r hr H locs ls hz hl => by
  obtain ⟨a, hF, hr⟩ := bnd_some hr
  have hmono : ∀ x, AR q H.size x → AR q s.heap.size x := fun x hx => AR_mono hz.2.2.1 hx
  refine va_callv (va_runS (As := As) (rest := rest) ⟨X.1, X.2.1, X.2.2.1, X.2.2.2.1, X.2.2.2.2.1⟩ (hM H.size a hF) cw ⟨PcR_blind, fun U hU hW => ⟨rfl, by rw [hU], by rw [hU]; exact hz.1, va_K.moved hW.alike X.2.2.2.2.2.1, hz.2.1.weaken (fun _ _ _ _ => trivial)⟩⟩ rfl hn hl.1 hst (lv_room hcat) d ⟨Nat.zero_le _, Nat.zero_le _⟩) hz.2.2 (fun x _ h => hmono x h) (fun x h => hmono x h) (fun u t H1 locs1 ht hvm hw hB hz1 hk1 hS => ?_)
  subst hw
  subst ht
  exact kk _ _ r hr _ _ ls ⟨hB.1, hB.2.2.weaken (fun _ _ _ h => hmono _ h), hS⟩ hl
end RC
end
section
theorem dX5_cellAt_0 : decode cX5_cellAt 0 = .ok (.bipush 20, 2) := by decide +kernel
theorem dX5_cellAt_2 : decode cX5_cellAt 2 = .ok (.sipush 180, 3) := by decide +kernel
theorem dX5_cellAt_5 : decode cX5_cellAt 5 = .ok (.iload_n 0, 1) := by decide +kernel
theorem dX5_cellAt_6 : decode cX5_cellAt 6 = .ok (.imul, 1) := by decide +kernel
theorem dX5_cellAt_7 : decode cX5_cellAt 7 = .ok (.iadd, 1) := by decide +kernel
theorem dX5_cellAt_8 : decode cX5_cellAt 8 = .ok (.ireturn, 1) := by decide +kernel
theorem dX5_editAt_0 : decode cX5_editAt 0 = .ok (.sipush 7220, 3) := by decide +kernel
theorem dX5_editAt_3 : decode cX5_editAt 3 = .ok (.bipush 70, 2) := by decide +kernel
theorem dX5_editAt_5 : decode cX5_editAt 5 = .ok (.iload_n 0, 1) := by decide +kernel
theorem dX5_editAt_6 : decode cX5_editAt 6 = .ok (.imul, 1) := by decide +kernel
theorem dX5_editAt_7 : decode cX5_editAt 7 = .ok (.iadd, 1) := by decide +kernel
theorem dX5_editAt_8 : decode cX5_editAt 8 = .ok (.ireturn, 1) := by decide +kernel
theorem dX5_objAt_0 : decode cX5_objAt 0 = .ok (.sipush 17720, 3) := by decide +kernel
theorem dX5_objAt_3 : decode cX5_objAt 3 = .ok (.bipush 21, 2) := by decide +kernel
theorem dX5_objAt_5 : decode cX5_objAt 5 = .ok (.iload_n 0, 1) := by decide +kernel
theorem dX5_objAt_6 : decode cX5_objAt 6 = .ok (.imul, 1) := by decide +kernel
theorem dX5_objAt_7 : decode cX5_objAt 7 = .ok (.iadd, 1) := by decide +kernel
theorem dX5_objAt_8 : decode cX5_objAt 8 = .ok (.ireturn, 1) := by decide +kernel
theorem dX5_isCell_0 : decode cX5_isCell 0 = .ok (.iload_n 1, 1) := by decide +kernel
theorem dX5_isCell_1 : decode cX5_isCell 1 = .ok (.ifCond .lt 17, 3) := by decide +kernel
theorem dX5_isCell_4 : decode cX5_isCell 4 = .ok (.iload_n 1, 1) := by decide +kernel
theorem dX5_isCell_5 : decode cX5_isCell 5 = .ok (.aload_n 0, 1) := by decide +kernel
theorem dX5_isCell_6 : decode cX5_isCell 6 = .ok (.getfield 8, 3) := by decide +kernel
theorem dX5_isCell_9 : decode cX5_isCell 9 = .ok (.iconst 0, 1) := by decide +kernel
theorem dX5_isCell_10 : decode cX5_isCell 10 = .ok (.iaload, 1) := by decide +kernel
theorem dX5_isCell_11 : decode cX5_isCell 11 = .ok (.if_icmp .ge 7, 3) := by decide +kernel
theorem dX5_isCell_14 : decode cX5_isCell 14 = .ok (.iconst 1, 1) := by decide +kernel
theorem dX5_isCell_15 : decode cX5_isCell 15 = .ok (.goto 4, 3) := by decide +kernel
theorem dX5_isCell_18 : decode cX5_isCell 18 = .ok (.iconst 0, 1) := by decide +kernel
theorem dX5_isCell_19 : decode cX5_isCell 19 = .ok (.ireturn, 1) := by decide +kernel
theorem dX5_isEdition_0 : decode cX5_isEdition 0 = .ok (.iload_n 1, 1) := by decide +kernel
theorem dX5_isEdition_1 : decode cX5_isEdition 1 = .ok (.ifCond .lt 17, 3) := by decide +kernel
theorem dX5_isEdition_4 : decode cX5_isEdition 4 = .ok (.iload_n 1, 1) := by decide +kernel
theorem dX5_isEdition_5 : decode cX5_isEdition 5 = .ok (.aload_n 0, 1) := by decide +kernel
theorem dX5_isEdition_6 : decode cX5_isEdition 6 = .ok (.getfield 8, 3) := by decide +kernel
theorem dX5_isEdition_9 : decode cX5_isEdition 9 = .ok (.iconst 1, 1) := by decide +kernel
theorem dX5_isEdition_10 : decode cX5_isEdition 10 = .ok (.iaload, 1) := by decide +kernel
theorem dX5_isEdition_11 : decode cX5_isEdition 11 = .ok (.if_icmp .ge 7, 3) := by decide +kernel
theorem dX5_isEdition_14 : decode cX5_isEdition 14 = .ok (.iconst 1, 1) := by decide +kernel
theorem dX5_isEdition_15 : decode cX5_isEdition 15 = .ok (.goto 4, 3) := by decide +kernel
theorem dX5_isEdition_18 : decode cX5_isEdition 18 = .ok (.iconst 0, 1) := by decide +kernel
theorem dX5_isEdition_19 : decode cX5_isEdition 19 = .ok (.ireturn, 1) := by decide +kernel
theorem dX5_isObject_0 : decode cX5_isObject 0 = .ok (.iload_n 1, 1) := by decide +kernel
theorem dX5_isObject_1 : decode cX5_isObject 1 = .ok (.ifCond .lt 17, 3) := by decide +kernel
theorem dX5_isObject_4 : decode cX5_isObject 4 = .ok (.iload_n 1, 1) := by decide +kernel
theorem dX5_isObject_5 : decode cX5_isObject 5 = .ok (.aload_n 0, 1) := by decide +kernel
theorem dX5_isObject_6 : decode cX5_isObject 6 = .ok (.getfield 8, 3) := by decide +kernel
theorem dX5_isObject_9 : decode cX5_isObject 9 = .ok (.iconst 2, 1) := by decide +kernel
theorem dX5_isObject_10 : decode cX5_isObject 10 = .ok (.iaload, 1) := by decide +kernel
theorem dX5_isObject_11 : decode cX5_isObject 11 = .ok (.if_icmp .ge 7, 3) := by decide +kernel
theorem dX5_isObject_14 : decode cX5_isObject 14 = .ok (.iconst 1, 1) := by decide +kernel
theorem dX5_isObject_15 : decode cX5_isObject 15 = .ok (.goto 4, 3) := by decide +kernel
theorem dX5_isObject_18 : decode cX5_isObject 18 = .ok (.iconst 0, 1) := by decide +kernel
theorem dX5_isObject_19 : decode cX5_isObject 19 = .ok (.ireturn, 1) := by decide +kernel
theorem dX5_isName_0 : decode cX5_isName 0 = .ok (.iload_n 0, 1) := by decide +kernel
theorem dX5_isName_1 : decode cX5_isName 1 = .ok (.ifCond .lt 13, 3) := by decide +kernel
theorem dX5_isName_4 : decode cX5_isName 4 = .ok (.iload_n 0, 1) := by decide +kernel
theorem dX5_isName_5 : decode cX5_isName 5 = .ok (.bipush 16, 2) := by decide +kernel
theorem dX5_isName_7 : decode cX5_isName 7 = .ok (.if_icmp .ge 7, 3) := by decide +kernel
theorem dX5_isName_10 : decode cX5_isName 10 = .ok (.iconst 1, 1) := by decide +kernel
theorem dX5_isName_11 : decode cX5_isName 11 = .ok (.goto 4, 3) := by decide +kernel
theorem dX5_isName_14 : decode cX5_isName 14 = .ok (.iconst 0, 1) := by decide +kernel
theorem dX5_isName_15 : decode cX5_isName 15 = .ok (.ireturn, 1) := by decide +kernel
theorem dX5_isClass_0 : decode cX5_isClass 0 = .ok (.aload_n 0, 1) := by decide +kernel
theorem dX5_isClass_1 : decode cX5_isClass 1 = .ok (.iload_n 1, 1) := by decide +kernel
theorem dX5_isClass_2 : decode cX5_isClass 2 = .ok (.invokevirtual 69, 3) := by decide +kernel
theorem dX5_isClass_5 : decode cX5_isClass 5 = .ok (.ifCond .eq 22, 3) := by decide +kernel
theorem dX5_isClass_8 : decode cX5_isClass 8 = .ok (.aload_n 0, 1) := by decide +kernel
theorem dX5_isClass_9 : decode cX5_isClass 9 = .ok (.getfield 8, 3) := by decide +kernel
theorem dX5_isClass_12 : decode cX5_isClass 12 = .ok (.iload_n 1, 1) := by decide +kernel
theorem dX5_isClass_13 : decode cX5_isClass 13 = .ok (.invokestatic 73, 3) := by decide +kernel
theorem dX5_isClass_16 : decode cX5_isClass 16 = .ok (.iconst 1, 1) := by decide +kernel
theorem dX5_isClass_17 : decode cX5_isClass 17 = .ok (.iadd, 1) := by decide +kernel
theorem dX5_isClass_18 : decode cX5_isClass 18 = .ok (.iaload, 1) := by decide +kernel
theorem dX5_isClass_19 : decode cX5_isClass 19 = .ok (.iconst 1, 1) := by decide +kernel
theorem dX5_isClass_20 : decode cX5_isClass 20 = .ok (.if_icmp .ne 7, 3) := by decide +kernel
theorem dX5_isClass_23 : decode cX5_isClass 23 = .ok (.iconst 1, 1) := by decide +kernel
theorem dX5_isClass_24 : decode cX5_isClass 24 = .ok (.goto 4, 3) := by decide +kernel
theorem dX5_isClass_27 : decode cX5_isClass 27 = .ok (.iconst 0, 1) := by decide +kernel
theorem dX5_isClass_28 : decode cX5_isClass 28 = .ok (.ireturn, 1) := by decide +kernel
theorem dX5_newest_0 : decode cX5_newest 0 = .ok (.iload_n 1, 1) := by decide +kernel
theorem dX5_newest_1 : decode cX5_newest 1 = .ok (.invokestatic 77, 3) := by decide +kernel
theorem dX5_newest_4 : decode cX5_newest 4 = .ok (.ifCond .eq 16, 3) := by decide +kernel
theorem dX5_newest_7 : decode cX5_newest 7 = .ok (.aload_n 0, 1) := by decide +kernel
theorem dX5_newest_8 : decode cX5_newest 8 = .ok (.getfield 8, 3) := by decide +kernel
theorem dX5_newest_11 : decode cX5_newest 11 = .ok (.iconst 4, 1) := by decide +kernel
theorem dX5_newest_12 : decode cX5_newest 12 = .ok (.iload_n 1, 1) := by decide +kernel
theorem dX5_newest_13 : decode cX5_newest 13 = .ok (.iadd, 1) := by decide +kernel
theorem dX5_newest_14 : decode cX5_newest 14 = .ok (.iaload, 1) := by decide +kernel
theorem dX5_newest_15 : decode cX5_newest 15 = .ok (.iconst 1, 1) := by decide +kernel
theorem dX5_newest_16 : decode cX5_newest 16 = .ok (.isub, 1) := by decide +kernel
theorem dX5_newest_17 : decode cX5_newest 17 = .ok (.goto 4, 3) := by decide +kernel
theorem dX5_newest_20 : decode cX5_newest 20 = .ok (.iconst (-1), 1) := by decide +kernel
theorem dX5_newest_21 : decode cX5_newest 21 = .ok (.ireturn, 1) := by decide +kernel
theorem dX5_put_0 : decode cX5_put 0 = .ok (.iload_n 1, 1) := by decide +kernel
theorem dX5_put_1 : decode cX5_put 1 = .ok (.iconst 1, 1) := by decide +kernel
theorem dX5_put_2 : decode cX5_put 2 = .ok (.if_icmp .lt 8, 3) := by decide +kernel
theorem dX5_put_5 : decode cX5_put 5 = .ok (.iload_n 1, 1) := by decide +kernel
theorem dX5_put_6 : decode cX5_put 6 = .ok (.iconst 4, 1) := by decide +kernel
theorem dX5_put_7 : decode cX5_put 7 = .ok (.if_icmp .le 5, 3) := by decide +kernel
theorem dX5_put_10 : decode cX5_put 10 = .ok (.iconst (-1), 1) := by decide +kernel
theorem dX5_put_11 : decode cX5_put 11 = .ok (.ireturn, 1) := by decide +kernel
theorem dX5_put_12 : decode cX5_put 12 = .ok (.aload_n 0, 1) := by decide +kernel
theorem dX5_put_13 : decode cX5_put 13 = .ok (.getfield 80, 3) := by decide +kernel
theorem dX5_put_16 : decode cX5_put 16 = .ok (.iload_n 1, 1) := by decide +kernel
theorem dX5_put_17 : decode cX5_put 17 = .ok (.iadd, 1) := by decide +kernel
theorem dX5_put_18 : decode cX5_put 18 = .ok (.bipush 60, 2) := by decide +kernel
theorem dX5_put_20 : decode cX5_put 20 = .ok (.if_icmp .le 6, 3) := by decide +kernel
theorem dX5_put_23 : decode cX5_put 23 = .ok (.bipush (-2), 2) := by decide +kernel
theorem dX5_put_25 : decode cX5_put 25 = .ok (.ireturn, 1) := by decide +kernel
theorem dX5_put_26 : decode cX5_put 26 = .ok (.iconst 0, 1) := by decide +kernel
theorem dX5_put_27 : decode cX5_put 27 = .ok (.istore 6, 2) := by decide +kernel
theorem dX5_put_29 : decode cX5_put 29 = .ok (.iload 6, 2) := by decide +kernel
theorem dX5_put_31 : decode cX5_put 31 = .ok (.iload_n 1, 1) := by decide +kernel
theorem dX5_put_32 : decode cX5_put 32 = .ok (.if_icmp .ge 60, 3) := by decide +kernel
theorem dX5_put_35 : decode cX5_put 35 = .ok (.aload_n 0, 1) := by decide +kernel
theorem dX5_put_36 : decode cX5_put 36 = .ok (.getfield 18, 3) := by decide +kernel
theorem dX5_put_39 : decode cX5_put 39 = .ok (.aload_n 0, 1) := by decide +kernel
theorem dX5_put_40 : decode cX5_put 40 = .ok (.getfield 80, 3) := by decide +kernel
theorem dX5_put_43 : decode cX5_put 43 = .ok (.iload 6, 2) := by decide +kernel
theorem dX5_put_45 : decode cX5_put 45 = .ok (.ifCond .ne 7, 3) := by decide +kernel
theorem dX5_put_48 : decode cX5_put 48 = .ok (.iload_n 2, 1) := by decide +kernel
theorem dX5_put_49 : decode cX5_put 49 = .ok (.goto 26, 3) := by decide +kernel
theorem dX5_put_52 : decode cX5_put 52 = .ok (.iload 6, 2) := by decide +kernel
theorem dX5_put_54 : decode cX5_put 54 = .ok (.iconst 1, 1) := by decide +kernel
theorem dX5_put_55 : decode cX5_put 55 = .ok (.if_icmp .ne 7, 3) := by decide +kernel
theorem dX5_put_58 : decode cX5_put 58 = .ok (.iload_n 3, 1) := by decide +kernel
theorem dX5_put_59 : decode cX5_put 59 = .ok (.goto 16, 3) := by decide +kernel
theorem dX5_put_62 : decode cX5_put 62 = .ok (.iload 6, 2) := by decide +kernel
theorem dX5_put_64 : decode cX5_put 64 = .ok (.iconst 2, 1) := by decide +kernel
theorem dX5_put_65 : decode cX5_put 65 = .ok (.if_icmp .ne 8, 3) := by decide +kernel
theorem dX5_put_68 : decode cX5_put 68 = .ok (.iload 4, 2) := by decide +kernel
theorem dX5_put_70 : decode cX5_put 70 = .ok (.goto 5, 3) := by decide +kernel
theorem dX5_put_73 : decode cX5_put 73 = .ok (.iload 5, 2) := by decide +kernel
theorem dX5_put_75 : decode cX5_put 75 = .ok (.iastore, 1) := by decide +kernel
theorem dX5_put_76 : decode cX5_put 76 = .ok (.aload_n 0, 1) := by decide +kernel
theorem dX5_put_77 : decode cX5_put 77 = .ok (.dup, 1) := by decide +kernel
theorem dX5_put_78 : decode cX5_put 78 = .ok (.getfield 80, 3) := by decide +kernel
theorem dX5_put_81 : decode cX5_put 81 = .ok (.iconst 1, 1) := by decide +kernel
theorem dX5_put_82 : decode cX5_put 82 = .ok (.iadd, 1) := by decide +kernel
theorem dX5_put_83 : decode cX5_put 83 = .ok (.putfield 80, 3) := by decide +kernel
theorem dX5_put_86 : decode cX5_put 86 = .ok (.iinc 6 1, 3) := by decide +kernel
theorem dX5_put_89 : decode cX5_put 89 = .ok (.goto (-60), 3) := by decide +kernel
theorem dX5_put_92 : decode cX5_put 92 = .ok (.aload_n 0, 1) := by decide +kernel
theorem dX5_put_93 : decode cX5_put 93 = .ok (.getfield 80, 3) := by decide +kernel
theorem dX5_put_96 : decode cX5_put 96 = .ok (.ireturn, 1) := by decide +kernel
theorem dX5_wipe_0 : decode cX5_wipe 0 = .ok (.aload_n 0, 1) := by decide +kernel
theorem dX5_wipe_1 : decode cX5_wipe 1 = .ok (.getfield 80, 3) := by decide +kernel
theorem dX5_wipe_4 : decode cX5_wipe 4 = .ok (.istore_n 1, 1) := by decide +kernel
theorem dX5_wipe_5 : decode cX5_wipe 5 = .ok (.aload_n 0, 1) := by decide +kernel
theorem dX5_wipe_6 : decode cX5_wipe 6 = .ok (.iconst 0, 1) := by decide +kernel
theorem dX5_wipe_7 : decode cX5_wipe 7 = .ok (.putfield 80, 3) := by decide +kernel
theorem dX5_wipe_10 : decode cX5_wipe 10 = .ok (.iload_n 1, 1) := by decide +kernel
theorem dX5_wipe_11 : decode cX5_wipe 11 = .ok (.ireturn, 1) := by decide +kernel
theorem dX5_wrong_0 : decode cX5_wrong 0 = .ok (.aload_n 0, 1) := by decide +kernel
theorem dX5_wrong_1 : decode cX5_wrong 1 = .ok (.aload_n 0, 1) := by decide +kernel
theorem dX5_wrong_2 : decode cX5_wrong 2 = .ok (.getfield 84, 3) := by decide +kernel
theorem dX5_wrong_5 : decode cX5_wrong 5 = .ok (.ifCond .ge 7, 3) := by decide +kernel
theorem dX5_wrong_8 : decode cX5_wrong 8 = .ok (.iload_n 1, 1) := by decide +kernel
theorem dX5_wrong_9 : decode cX5_wrong 9 = .ok (.goto 7, 3) := by decide +kernel
theorem dX5_wrong_12 : decode cX5_wrong 12 = .ok (.aload_n 0, 1) := by decide +kernel
theorem dX5_wrong_13 : decode cX5_wrong 13 = .ok (.getfield 84, 3) := by decide +kernel
theorem dX5_wrong_16 : decode cX5_wrong 16 = .ok (.putfield 84, 3) := by decide +kernel
theorem dX5_wrong_19 : decode cX5_wrong 19 = .ok (.return_, 1) := by decide +kernel
theorem dX5_take_0 : decode cX5_take 0 = .ok (.aload_n 0, 1) := by decide +kernel
theorem dX5_take_1 : decode cX5_take 1 = .ok (.getfield 87, 3) := by decide +kernel
theorem dX5_take_4 : decode cX5_take 4 = .ok (.aload_n 0, 1) := by decide +kernel
theorem dX5_take_5 : decode cX5_take 5 = .ok (.getfield 90, 3) := by decide +kernel
theorem dX5_take_8 : decode cX5_take 8 = .ok (.if_icmp .lt 13, 3) := by decide +kernel
theorem dX5_take_11 : decode cX5_take 11 = .ok (.aload_n 0, 1) := by decide +kernel
theorem dX5_take_12 : decode cX5_take 12 = .ok (.aload_n 0, 1) := by decide +kernel
theorem dX5_take_13 : decode cX5_take 13 = .ok (.getfield 90, 3) := by decide +kernel
theorem dX5_take_16 : decode cX5_take 16 = .ok (.invokevirtual 93, 3) := by decide +kernel
theorem dX5_take_19 : decode cX5_take 19 = .ok (.iconst 0, 1) := by decide +kernel
theorem dX5_take_20 : decode cX5_take 20 = .ok (.ireturn, 1) := by decide +kernel
theorem dX5_take_21 : decode cX5_take 21 = .ok (.aload_n 0, 1) := by decide +kernel
theorem dX5_take_22 : decode cX5_take 22 = .ok (.dup, 1) := by decide +kernel
theorem dX5_take_23 : decode cX5_take 23 = .ok (.getfield 87, 3) := by decide +kernel
theorem dX5_take_26 : decode cX5_take 26 = .ok (.iconst 1, 1) := by decide +kernel
theorem dX5_take_27 : decode cX5_take 27 = .ok (.iadd, 1) := by decide +kernel
theorem dX5_take_28 : decode cX5_take 28 = .ok (.putfield 87, 3) := by decide +kernel
theorem dX5_take_31 : decode cX5_take 31 = .ok (.aload_n 0, 1) := by decide +kernel
theorem dX5_take_32 : decode cX5_take 32 = .ok (.getfield 21, 3) := by decide +kernel
theorem dX5_take_35 : decode cX5_take 35 = .ok (.aload_n 0, 1) := by decide +kernel
theorem dX5_take_36 : decode cX5_take 36 = .ok (.getfield 87, 3) := by decide +kernel
theorem dX5_take_39 : decode cX5_take 39 = .ok (.iconst 1, 1) := by decide +kernel
theorem dX5_take_40 : decode cX5_take 40 = .ok (.isub, 1) := by decide +kernel
theorem dX5_take_41 : decode cX5_take 41 = .ok (.iaload, 1) := by decide +kernel
theorem dX5_take_42 : decode cX5_take 42 = .ok (.ireturn, 1) := by decide +kernel
theorem dX5_means_0 : decode cX5_means 0 = .ok (.aload_n 0, 1) := by decide +kernel
theorem dX5_means_1 : decode cX5_means 1 = .ok (.iload_n 2, 1) := by decide +kernel
theorem dX5_means_2 : decode cX5_means 2 = .ok (.invokevirtual 97, 3) := by decide +kernel
theorem dX5_means_5 : decode cX5_means 5 = .ok (.istore 4, 2) := by decide +kernel
theorem dX5_means_7 : decode cX5_means 7 = .ok (.iload 4, 2) := by decide +kernel
theorem dX5_means_9 : decode cX5_means 9 = .ok (.ifCond .lt 19, 3) := by decide +kernel
theorem dX5_means_12 : decode cX5_means 12 = .ok (.aload_n 0, 1) := by decide +kernel
theorem dX5_means_13 : decode cX5_means 13 = .ok (.getfield 8, 3) := by decide +kernel
theorem dX5_means_16 : decode cX5_means 16 = .ok (.iload 4, 2) := by decide +kernel
theorem dX5_means_18 : decode cX5_means 18 = .ok (.invokestatic 73, 3) := by decide +kernel
theorem dX5_means_21 : decode cX5_means 21 = .ok (.iconst 1, 1) := by decide +kernel
theorem dX5_means_22 : decode cX5_means 22 = .ok (.iadd, 1) := by decide +kernel
theorem dX5_means_23 : decode cX5_means 23 = .ok (.iaload, 1) := by decide +kernel
theorem dX5_means_24 : decode cX5_means 24 = .ok (.iload_n 3, 1) := by decide +kernel
theorem dX5_means_25 : decode cX5_means 25 = .ok (.if_icmp .eq 5, 3) := by decide +kernel
theorem dX5_means_28 : decode cX5_means 28 = .ok (.iconst 0, 1) := by decide +kernel
theorem dX5_means_29 : decode cX5_means 29 = .ok (.ireturn, 1) := by decide +kernel
theorem dX5_means_30 : decode cX5_means 30 = .ok (.aload_n 0, 1) := by decide +kernel
theorem dX5_means_31 : decode cX5_means 31 = .ok (.getfield 27, 3) := by decide +kernel
theorem dX5_means_34 : decode cX5_means 34 = .ok (.iload 4, 2) := by decide +kernel
theorem dX5_means_36 : decode cX5_means 36 = .ok (.iconst 1, 1) := by decide +kernel
theorem dX5_means_37 : decode cX5_means 37 = .ok (.bastore, 1) := by decide +kernel
theorem dX5_means_38 : decode cX5_means 38 = .ok (.aload_n 0, 1) := by decide +kernel
theorem dX5_means_39 : decode cX5_means 39 = .ok (.getfield 24, 3) := by decide +kernel
theorem dX5_means_42 : decode cX5_means 42 = .ok (.iload_n 1, 1) := by decide +kernel
theorem dX5_means_43 : decode cX5_means 43 = .ok (.iload 4, 2) := by decide +kernel
theorem dX5_means_45 : decode cX5_means 45 = .ok (.iastore, 1) := by decide +kernel
theorem dX5_means_46 : decode cX5_means 46 = .ok (.iconst 1, 1) := by decide +kernel
theorem dX5_means_47 : decode cX5_means 47 = .ok (.ireturn, 1) := by decide +kernel
theorem dX5_hasInt_0 : decode cX5_hasInt 0 = .ok (.iload_n 0, 1) := by decide +kernel
theorem dX5_hasInt_1 : decode cX5_hasInt 1 = .ok (.ifCond .lt 13, 3) := by decide +kernel
theorem dX5_hasInt_4 : decode cX5_hasInt 4 = .ok (.iload_n 0, 1) := by decide +kernel
theorem dX5_hasInt_5 : decode cX5_hasInt 5 = .ok (.bipush 7, 2) := by decide +kernel
theorem dX5_hasInt_7 : decode cX5_hasInt 7 = .ok (.if_icmp .gt 7, 3) := by decide +kernel
theorem dX5_hasInt_10 : decode cX5_hasInt 10 = .ok (.iconst 1, 1) := by decide +kernel
theorem dX5_hasInt_11 : decode cX5_hasInt 11 = .ok (.goto 4, 3) := by decide +kernel
theorem dX5_hasInt_14 : decode cX5_hasInt 14 = .ok (.iconst 0, 1) := by decide +kernel
theorem dX5_hasInt_15 : decode cX5_hasInt 15 = .ok (.ireturn, 1) := by decide +kernel
theorem dX5_takes_0 : decode cX5_takes 0 = .ok (.iload_n 0, 1) := by decide +kernel
theorem dX5_takes_1 : decode cX5_takes 1 = .ok (.iconst 2, 1) := by decide +kernel
theorem dX5_takes_2 : decode cX5_takes 2 = .ok (.if_icmp .le 15, 3) := by decide +kernel
theorem dX5_takes_5 : decode cX5_takes 5 = .ok (.iload_n 0, 1) := by decide +kernel
theorem dX5_takes_6 : decode cX5_takes 6 = .ok (.bipush 16, 2) := by decide +kernel
theorem dX5_takes_8 : decode cX5_takes 8 = .ok (.if_icmp .eq 9, 3) := by decide +kernel
theorem dX5_takes_11 : decode cX5_takes 11 = .ok (.iload_n 0, 1) := by decide +kernel
theorem dX5_takes_12 : decode cX5_takes 12 = .ok (.bipush 17, 2) := by decide +kernel
theorem dX5_takes_14 : decode cX5_takes 14 = .ok (.if_icmp .ne 7, 3) := by decide +kernel
theorem dX5_takes_17 : decode cX5_takes 17 = .ok (.iconst 0, 1) := by decide +kernel
theorem dX5_takes_18 : decode cX5_takes 18 = .ok (.goto 39, 3) := by decide +kernel
theorem dX5_takes_21 : decode cX5_takes 21 = .ok (.iload_n 0, 1) := by decide +kernel
theorem dX5_takes_22 : decode cX5_takes 22 = .ok (.iconst 3, 1) := by decide +kernel
theorem dX5_takes_23 : decode cX5_takes 23 = .ok (.if_icmp .eq 19, 3) := by decide +kernel
theorem dX5_takes_26 : decode cX5_takes 26 = .ok (.iload_n 0, 1) := by decide +kernel
theorem dX5_takes_27 : decode cX5_takes 27 = .ok (.iconst 4, 1) := by decide +kernel
theorem dX5_takes_28 : decode cX5_takes 28 = .ok (.if_icmp .eq 14, 3) := by decide +kernel
theorem dX5_takes_31 : decode cX5_takes 31 = .ok (.iload_n 0, 1) := by decide +kernel
theorem dX5_takes_32 : decode cX5_takes 32 = .ok (.iconst 5, 1) := by decide +kernel
theorem dX5_takes_33 : decode cX5_takes 33 = .ok (.if_icmp .eq 9, 3) := by decide +kernel
theorem dX5_takes_36 : decode cX5_takes 36 = .ok (.iload_n 0, 1) := by decide +kernel
theorem dX5_takes_37 : decode cX5_takes 37 = .ok (.bipush 15, 2) := by decide +kernel
theorem dX5_takes_39 : decode cX5_takes 39 = .ok (.if_icmp .ne 7, 3) := by decide +kernel
theorem dX5_takes_42 : decode cX5_takes 42 = .ok (.iconst 1, 1) := by decide +kernel
theorem dX5_takes_43 : decode cX5_takes 43 = .ok (.goto 14, 3) := by decide +kernel
theorem dX5_takes_46 : decode cX5_takes 46 = .ok (.iload_n 0, 1) := by decide +kernel
theorem dX5_takes_47 : decode cX5_takes 47 = .ok (.bipush 14, 2) := by decide +kernel
theorem dX5_takes_49 : decode cX5_takes 49 = .ok (.if_icmp .ne 7, 3) := by decide +kernel
theorem dX5_takes_52 : decode cX5_takes 52 = .ok (.iconst 3, 1) := by decide +kernel
theorem dX5_takes_53 : decode cX5_takes 53 = .ok (.goto 4, 3) := by decide +kernel
theorem dX5_takes_56 : decode cX5_takes 56 = .ok (.iconst 2, 1) := by decide +kernel
theorem dX5_takes_57 : decode cX5_takes 57 = .ok (.ireturn, 1) := by decide +kernel
theorem dX5_isActRight_0 : decode cX5_isActRight 0 = .ok (.aload_n 0, 1) := by decide +kernel
theorem dX5_isActRight_1 : decode cX5_isActRight 1 = .ok (.getfield 21, 3) := by decide +kernel
theorem dX5_isActRight_4 : decode cX5_isActRight 4 = .ok (.iload_n 1, 1) := by decide +kernel
theorem dX5_isActRight_5 : decode cX5_isActRight 5 = .ok (.iaload, 1) := by decide +kernel
theorem dX5_isActRight_6 : decode cX5_isActRight 6 = .ok (.istore 5, 2) := by decide +kernel
theorem dX5_isActRight_8 : decode cX5_isActRight 8 = .ok (.iload 5, 2) := by decide +kernel
theorem dX5_isActRight_10 : decode cX5_isActRight 10 = .ok (.ifCond .lt 53, 3) := by decide +kernel
theorem dX5_isActRight_13 : decode cX5_isActRight 13 = .ok (.iload 5, 2) := by decide +kernel
theorem dX5_isActRight_15 : decode cX5_isActRight 15 = .ok (.bipush 18, 2) := by decide +kernel
theorem dX5_isActRight_17 : decode cX5_isActRight 17 = .ok (.if_icmp .gt 46, 3) := by decide +kernel
theorem dX5_isActRight_20 : decode cX5_isActRight 20 = .ok (.iload 5, 2) := by decide +kernel
theorem dX5_isActRight_22 : decode cX5_isActRight 22 = .ok (.invokestatic 100, 3) := by decide +kernel
theorem dX5_isActRight_25 : decode cX5_isActRight 25 = .ok (.ifCond .eq 10, 3) := by decide +kernel
theorem dX5_isActRight_28 : decode cX5_isActRight 28 = .ok (.iload_n 1, 1) := by decide +kernel
theorem dX5_isActRight_29 : decode cX5_isActRight 29 = .ok (.iconst 1, 1) := by decide +kernel
theorem dX5_isActRight_30 : decode cX5_isActRight 30 = .ok (.iadd, 1) := by decide +kernel
theorem dX5_isActRight_31 : decode cX5_isActRight 31 = .ok (.iload_n 2, 1) := by decide +kernel
theorem dX5_isActRight_32 : decode cX5_isActRight 32 = .ok (.if_icmp .ge 31, 3) := by decide +kernel
theorem dX5_isActRight_35 : decode cX5_isActRight 35 = .ok (.iload 5, 2) := by decide +kernel
theorem dX5_isActRight_37 : decode cX5_isActRight 37 = .ok (.invokestatic 103, 3) := by decide +kernel
theorem dX5_isActRight_40 : decode cX5_isActRight 40 = .ok (.iload_n 3, 1) := by decide +kernel
theorem dX5_isActRight_41 : decode cX5_isActRight 41 = .ok (.if_icmp .gt 22, 3) := by decide +kernel
theorem dX5_isActRight_44 : decode cX5_isActRight 44 = .ok (.iload 5, 2) := by decide +kernel
theorem dX5_isActRight_46 : decode cX5_isActRight 46 = .ok (.bipush 16, 2) := by decide +kernel
theorem dX5_isActRight_48 : decode cX5_isActRight 48 = .ok (.if_icmp .eq 10, 3) := by decide +kernel
theorem dX5_isActRight_51 : decode cX5_isActRight 51 = .ok (.iload 5, 2) := by decide +kernel
theorem dX5_isActRight_53 : decode cX5_isActRight 53 = .ok (.bipush 17, 2) := by decide +kernel
theorem dX5_isActRight_55 : decode cX5_isActRight 55 = .ok (.if_icmp .ne 10, 3) := by decide +kernel
theorem dX5_isActRight_58 : decode cX5_isActRight 58 = .ok (.iload 4, 2) := by decide +kernel
theorem dX5_isActRight_60 : decode cX5_isActRight 60 = .ok (.ifCond .ne 5, 3) := by decide +kernel
theorem dX5_isActRight_63 : decode cX5_isActRight 63 = .ok (.iconst 0, 1) := by decide +kernel
theorem dX5_isActRight_64 : decode cX5_isActRight 64 = .ok (.ireturn, 1) := by decide +kernel
theorem dX5_isActRight_65 : decode cX5_isActRight 65 = .ok (.iload 5, 2) := by decide +kernel
theorem dX5_isActRight_67 : decode cX5_isActRight 67 = .ok (.invokestatic 100, 3) := by decide +kernel
theorem dX5_isActRight_70 : decode cX5_isActRight 70 = .ok (.ifCond .eq 14, 3) := by decide +kernel
theorem dX5_isActRight_73 : decode cX5_isActRight 73 = .ok (.aload_n 0, 1) := by decide +kernel
theorem dX5_isActRight_74 : decode cX5_isActRight 74 = .ok (.getfield 21, 3) := by decide +kernel
theorem dX5_isActRight_77 : decode cX5_isActRight 77 = .ok (.iload_n 1, 1) := by decide +kernel
theorem dX5_isActRight_78 : decode cX5_isActRight 78 = .ok (.iconst 1, 1) := by decide +kernel
theorem dX5_isActRight_79 : decode cX5_isActRight 79 = .ok (.iadd, 1) := by decide +kernel
theorem dX5_isActRight_80 : decode cX5_isActRight 80 = .ok (.iaload, 1) := by decide +kernel
theorem dX5_isActRight_81 : decode cX5_isActRight 81 = .ok (.goto 4, 3) := by decide +kernel
theorem dX5_isActRight_84 : decode cX5_isActRight 84 = .ok (.iconst 0, 1) := by decide +kernel
theorem dX5_isActRight_85 : decode cX5_isActRight 85 = .ok (.istore 6, 2) := by decide +kernel
theorem dX5_isActRight_87 : decode cX5_isActRight 87 = .ok (.iload 5, 2) := by decide +kernel
theorem dX5_isActRight_89 : decode cX5_isActRight 89 = .ok (.tableswitch 100 1 7 #[43, 54, 54, 54, 65, 65, 83], 43) := by decide +kernel
theorem dX5_isActRight_132 : decode cX5_isActRight 132 = .ok (.aload_n 0, 1) := by decide +kernel
theorem dX5_isActRight_133 : decode cX5_isActRight 133 = .ok (.iload_n 1, 1) := by decide +kernel
theorem dX5_isActRight_134 : decode cX5_isActRight 134 = .ok (.iconst 1, 1) := by decide +kernel
theorem dX5_isActRight_135 : decode cX5_isActRight 135 = .ok (.iadd, 1) := by decide +kernel
theorem dX5_isActRight_136 : decode cX5_isActRight 136 = .ok (.iload 6, 2) := by decide +kernel
theorem dX5_isActRight_138 : decode cX5_isActRight 138 = .ok (.iconst 0, 1) := by decide +kernel
theorem dX5_isActRight_139 : decode cX5_isActRight 139 = .ok (.invokevirtual 106, 3) := by decide +kernel
theorem dX5_isActRight_142 : decode cX5_isActRight 142 = .ok (.ireturn, 1) := by decide +kernel
theorem dX5_isActRight_143 : decode cX5_isActRight 143 = .ok (.aload_n 0, 1) := by decide +kernel
theorem dX5_isActRight_144 : decode cX5_isActRight 144 = .ok (.iload_n 1, 1) := by decide +kernel
theorem dX5_isActRight_145 : decode cX5_isActRight 145 = .ok (.iconst 1, 1) := by decide +kernel
theorem dX5_isActRight_146 : decode cX5_isActRight 146 = .ok (.iadd, 1) := by decide +kernel
theorem dX5_isActRight_147 : decode cX5_isActRight 147 = .ok (.iload 6, 2) := by decide +kernel
theorem dX5_isActRight_149 : decode cX5_isActRight 149 = .ok (.iconst 1, 1) := by decide +kernel
theorem dX5_isActRight_150 : decode cX5_isActRight 150 = .ok (.invokevirtual 106, 3) := by decide +kernel
theorem dX5_isActRight_153 : decode cX5_isActRight 153 = .ok (.ireturn, 1) := by decide +kernel
theorem dX5_isActRight_154 : decode cX5_isActRight 154 = .ok (.iload 6, 2) := by decide +kernel
theorem dX5_isActRight_156 : decode cX5_isActRight 156 = .ok (.ifCond .lt 14, 3) := by decide +kernel
theorem dX5_isActRight_159 : decode cX5_isActRight 159 = .ok (.iload 6, 2) := by decide +kernel
theorem dX5_isActRight_161 : decode cX5_isActRight 161 = .ok (.bipush 9, 2) := by decide +kernel
theorem dX5_isActRight_163 : decode cX5_isActRight 163 = .ok (.if_icmp .gt 7, 3) := by decide +kernel
theorem dX5_isActRight_166 : decode cX5_isActRight 166 = .ok (.iconst 1, 1) := by decide +kernel
theorem dX5_isActRight_167 : decode cX5_isActRight 167 = .ok (.goto 4, 3) := by decide +kernel
theorem dX5_isActRight_170 : decode cX5_isActRight 170 = .ok (.iconst 0, 1) := by decide +kernel
theorem dX5_isActRight_171 : decode cX5_isActRight 171 = .ok (.ireturn, 1) := by decide +kernel
theorem dX5_isActRight_172 : decode cX5_isActRight 172 = .ok (.iload 6, 2) := by decide +kernel
theorem dX5_isActRight_174 : decode cX5_isActRight 174 = .ok (.ifCond .lt 13, 3) := by decide +kernel
theorem dX5_isActRight_177 : decode cX5_isActRight 177 = .ok (.iload 6, 2) := by decide +kernel
theorem dX5_isActRight_179 : decode cX5_isActRight 179 = .ok (.iconst 4, 1) := by decide +kernel
theorem dX5_isActRight_180 : decode cX5_isActRight 180 = .ok (.if_icmp .gt 7, 3) := by decide +kernel
theorem dX5_isActRight_183 : decode cX5_isActRight 183 = .ok (.iconst 1, 1) := by decide +kernel
theorem dX5_isActRight_184 : decode cX5_isActRight 184 = .ok (.goto 4, 3) := by decide +kernel
theorem dX5_isActRight_187 : decode cX5_isActRight 187 = .ok (.iconst 0, 1) := by decide +kernel
theorem dX5_isActRight_188 : decode cX5_isActRight 188 = .ok (.ireturn, 1) := by decide +kernel
theorem dX5_isActRight_189 : decode cX5_isActRight 189 = .ok (.iconst 1, 1) := by decide +kernel
theorem dX5_isActRight_190 : decode cX5_isActRight 190 = .ok (.ireturn, 1) := by decide +kernel
theorem dX5_code_0 : decode cX5_code 0 = .ok (.iload_n 1, 1) := by decide +kernel
theorem dX5_code_1 : decode cX5_code 1 = .ok (.istore 4, 2) := by decide +kernel
theorem dX5_code_3 : decode cX5_code 3 = .ok (.iconst 0, 1) := by decide +kernel
theorem dX5_code_4 : decode cX5_code 4 = .ok (.istore 5, 2) := by decide +kernel
theorem dX5_code_6 : decode cX5_code 6 = .ok (.iload 4, 2) := by decide +kernel
theorem dX5_code_8 : decode cX5_code 8 = .ok (.iload_n 2, 1) := by decide +kernel
theorem dX5_code_9 : decode cX5_code 9 = .ok (.if_icmp .ge 75, 3) := by decide +kernel
theorem dX5_code_12 : decode cX5_code 12 = .ok (.aload_n 0, 1) := by decide +kernel
theorem dX5_code_13 : decode cX5_code 13 = .ok (.getfield 84, 3) := by decide +kernel
theorem dX5_code_16 : decode cX5_code 16 = .ok (.ifCond .ge 68, 3) := by decide +kernel
theorem dX5_code_19 : decode cX5_code 19 = .ok (.aload_n 0, 1) := by decide +kernel
theorem dX5_code_20 : decode cX5_code 20 = .ok (.iload 4, 2) := by decide +kernel
theorem dX5_code_22 : decode cX5_code 22 = .ok (.iload_n 2, 1) := by decide +kernel
theorem dX5_code_23 : decode cX5_code 23 = .ok (.iload 5, 2) := by decide +kernel
theorem dX5_code_25 : decode cX5_code 25 = .ok (.iload_n 3, 1) := by decide +kernel
theorem dX5_code_26 : decode cX5_code 26 = .ok (.invokevirtual 110, 3) := by decide +kernel
theorem dX5_code_29 : decode cX5_code 29 = .ok (.ifCond .eq 46, 3) := by decide +kernel
theorem dX5_code_32 : decode cX5_code 32 = .ok (.iload 5, 2) := by decide +kernel
theorem dX5_code_34 : decode cX5_code 34 = .ok (.iconst 1, 1) := by decide +kernel
theorem dX5_code_35 : decode cX5_code 35 = .ok (.aload_n 0, 1) := by decide +kernel
theorem dX5_code_36 : decode cX5_code 36 = .ok (.getfield 21, 3) := by decide +kernel
theorem dX5_code_39 : decode cX5_code 39 = .ok (.iload 4, 2) := by decide +kernel
theorem dX5_code_41 : decode cX5_code 41 = .ok (.iaload, 1) := by decide +kernel
theorem dX5_code_42 : decode cX5_code 42 = .ok (.invokestatic 103, 3) := by decide +kernel
theorem dX5_code_45 : decode cX5_code 45 = .ok (.isub, 1) := by decide +kernel
theorem dX5_code_46 : decode cX5_code 46 = .ok (.iadd, 1) := by decide +kernel
theorem dX5_code_47 : decode cX5_code 47 = .ok (.istore 5, 2) := by decide +kernel
theorem dX5_code_49 : decode cX5_code 49 = .ok (.iload 4, 2) := by decide +kernel
theorem dX5_code_51 : decode cX5_code 51 = .ok (.aload_n 0, 1) := by decide +kernel
theorem dX5_code_52 : decode cX5_code 52 = .ok (.getfield 21, 3) := by decide +kernel
theorem dX5_code_55 : decode cX5_code 55 = .ok (.iload 4, 2) := by decide +kernel
theorem dX5_code_57 : decode cX5_code 57 = .ok (.iaload, 1) := by decide +kernel
theorem dX5_code_58 : decode cX5_code 58 = .ok (.invokestatic 100, 3) := by decide +kernel
theorem dX5_code_61 : decode cX5_code 61 = .ok (.ifCond .eq 7, 3) := by decide +kernel
theorem dX5_code_64 : decode cX5_code 64 = .ok (.iconst 2, 1) := by decide +kernel
theorem dX5_code_65 : decode cX5_code 65 = .ok (.goto 4, 3) := by decide +kernel
theorem dX5_code_68 : decode cX5_code 68 = .ok (.iconst 1, 1) := by decide +kernel
theorem dX5_code_69 : decode cX5_code 69 = .ok (.iadd, 1) := by decide +kernel
theorem dX5_code_70 : decode cX5_code 70 = .ok (.istore 4, 2) := by decide +kernel
theorem dX5_code_72 : decode cX5_code 72 = .ok (.goto (-66), 3) := by decide +kernel
theorem dX5_code_75 : decode cX5_code 75 = .ok (.aload_n 0, 1) := by decide +kernel
theorem dX5_code_76 : decode cX5_code 76 = .ok (.iload 4, 2) := by decide +kernel
theorem dX5_code_78 : decode cX5_code 78 = .ok (.invokevirtual 93, 3) := by decide +kernel
theorem dX5_code_81 : decode cX5_code 81 = .ok (.goto (-75), 3) := by decide +kernel
theorem dX5_code_84 : decode cX5_code 84 = .ok (.aload_n 0, 1) := by decide +kernel
theorem dX5_code_85 : decode cX5_code 85 = .ok (.getfield 84, 3) := by decide +kernel
theorem dX5_code_88 : decode cX5_code 88 = .ok (.ifCond .ge 14, 3) := by decide +kernel
theorem dX5_code_91 : decode cX5_code 91 = .ok (.iload 5, 2) := by decide +kernel
theorem dX5_code_93 : decode cX5_code 93 = .ok (.iconst 1, 1) := by decide +kernel
theorem dX5_code_94 : decode cX5_code 94 = .ok (.if_icmp .eq 8, 3) := by decide +kernel
theorem dX5_code_97 : decode cX5_code 97 = .ok (.aload_n 0, 1) := by decide +kernel
theorem dX5_code_98 : decode cX5_code 98 = .ok (.iload_n 2, 1) := by decide +kernel
theorem dX5_code_99 : decode cX5_code 99 = .ok (.invokevirtual 93, 3) := by decide +kernel
theorem dX5_code_102 : decode cX5_code 102 = .ok (.return_, 1) := by decide +kernel
section RM
variable {ρ : Type} {p : Program} {l : Launch} {e : Env} {R : Room} {s : State} {m : MethodId} {args : Array Value} {below : List Frame} {meth : Method} {c : Code}
variable {cc : ByteArray} {nL : Nat} {rt : Option FieldType} {D : va_G} {cI cZ : ClassId} {q : Nat → Nat} {QQ : ρ → State → Prop} {pc : Nat} {lv : List (Nat × Value)}

-- cellAt
def fR_cellAt (n : Nat) (x0 : Int32) (M : MR) : Option (Int32 × MR) :=
    some (((20 : Int32) + ((180 : Int32) * x0)), M)
theorem c_cellAt (l : Launch) (D : va_G) (cI cZ : ClassId) (q : Nat → Nat) (n : Nat) (x0 : Int32) (M : MR) : MetR l D cI cZ q yX5_cellAt cX5_cellAt 1 (some .int) 0 0 QI [.int x0] M (fR_cellAt n x0 M) := by
  refine MetR.of (by decide) rfl (Nat.le_of_ble_eq_true rfl) ?_
  intro p e s m args below meth c X
  unfold fR_cellAt
  refine g_pick (lv' := [(0, .int x0)]) [0] rfl ?_
  refine g_bipush (v := (20 : Int32)) X dX5_cellAt_0 (by decide) ?_
  refine g_sipush (v := (180 : Int32)) X dX5_cellAt_2 (by decide) ?_
  refine g_iload_n X dX5_cellAt_5 rfl rfl ?_
  refine g_imul X dX5_cellAt_6 ?_
  refine g_iadd X dX5_cellAt_7 ?_
  exact r_iret X dX5_cellAt_8
theorem tc_cellAt : Cond.code yX5_cellAt cX5_cellAt 1 (some .int) ∈ tt := tt_in (List.mem_of_getElem? (i := 940) (by decide +kernel)) (by decide +kernel)
theorem tl_cellAt : Cond.methodLink RX5 230 yX5_cellAt ∈ tt := tt_in (List.mem_of_getElem? (i := 938) (by decide +kernel)) (by decide +kernel)
theorem ts_cellAt : Cond.static yX5_cellAt ∈ tt := tt_in (List.mem_of_getElem? (i := 939) (by decide +kernel)) (by decide +kernel)
theorem k_cellAt (X : gX p s m args meth c cc nL RX5 rt D (tyR cI cZ)) {n : Nat} {x0 : Int32} {M : MR} {rest : List Value} {K : Int32 → MR → Option ρ} (hR : 0 + 1 ≤ R.frames ∧ 8 + (1 + 11) + 0 ≤ R.locals) (hcat : (rest.map fun v => v.category).sum ≤ 8) (d : decode cc pc = .ok (.invokestatic 230, 3)) (kk : ∀ v M1, gG p l e R s m args below meth c nL (ZR D cI cZ q (AR q s.heap.size) s.heap M1) 0 0 QQ (pc + 3) lv (.int v :: rest) (K v M1)) : gG p l e R s m args below meth c nL (ZR D cI cZ q (AR q s.heap.size) s.heap M) 0 0 QQ pc lv (.int x0 :: rest) (bnd (fR_cellAt n x0 M) K) := r_callSi (As := [.int x0]) X (c_cellAt l D cI cZ q n x0 M) (cwSR (k := 1) X.2.2.2.2.1 tl_cellAt ts_cellAt tc_cellAt ini5 (by decide +kernel) hR) rfl rfl hcat d kk
-- editAt
def fR_editAt (n : Nat) (x0 : Int32) (M : MR) : Option (Int32 × MR) :=
    some (((7220 : Int32) + ((70 : Int32) * x0)), M)
theorem c_editAt (l : Launch) (D : va_G) (cI cZ : ClassId) (q : Nat → Nat) (n : Nat) (x0 : Int32) (M : MR) : MetR l D cI cZ q yX5_editAt cX5_editAt 1 (some .int) 0 0 QI [.int x0] M (fR_editAt n x0 M) := by
  refine MetR.of (by decide) rfl (Nat.le_of_ble_eq_true rfl) ?_
  intro p e s m args below meth c X
  unfold fR_editAt
  refine g_pick (lv' := [(0, .int x0)]) [0] rfl ?_
  refine g_sipush (v := (7220 : Int32)) X dX5_editAt_0 (by decide) ?_
  refine g_bipush (v := (70 : Int32)) X dX5_editAt_3 (by decide) ?_
  refine g_iload_n X dX5_editAt_5 rfl rfl ?_
  refine g_imul X dX5_editAt_6 ?_
  refine g_iadd X dX5_editAt_7 ?_
  exact r_iret X dX5_editAt_8
theorem tc_editAt : Cond.code yX5_editAt cX5_editAt 1 (some .int) ∈ tt := tt_in (List.mem_of_getElem? (i := 921) (by decide +kernel)) (by decide +kernel)
theorem tl_editAt : Cond.methodLink RX5 73 yX5_editAt ∈ tt := tt_in (List.mem_of_getElem? (i := 919) (by decide +kernel)) (by decide +kernel)
theorem ts_editAt : Cond.static yX5_editAt ∈ tt := tt_in (List.mem_of_getElem? (i := 920) (by decide +kernel)) (by decide +kernel)
theorem k_editAt (X : gX p s m args meth c cc nL RX5 rt D (tyR cI cZ)) {n : Nat} {x0 : Int32} {M : MR} {rest : List Value} {K : Int32 → MR → Option ρ} (hR : 0 + 1 ≤ R.frames ∧ 8 + (1 + 11) + 0 ≤ R.locals) (hcat : (rest.map fun v => v.category).sum ≤ 8) (d : decode cc pc = .ok (.invokestatic 73, 3)) (kk : ∀ v M1, gG p l e R s m args below meth c nL (ZR D cI cZ q (AR q s.heap.size) s.heap M1) 0 0 QQ (pc + 3) lv (.int v :: rest) (K v M1)) : gG p l e R s m args below meth c nL (ZR D cI cZ q (AR q s.heap.size) s.heap M) 0 0 QQ pc lv (.int x0 :: rest) (bnd (fR_editAt n x0 M) K) := r_callSi (As := [.int x0]) X (c_editAt l D cI cZ q n x0 M) (cwSR (k := 1) X.2.2.2.2.1 tl_editAt ts_editAt tc_editAt ini5 (by decide +kernel) hR) rfl rfl hcat d kk
-- objAt
def fR_objAt (n : Nat) (x0 : Int32) (M : MR) : Option (Int32 × MR) :=
    some (((17720 : Int32) + ((21 : Int32) * x0)), M)
theorem c_objAt (l : Launch) (D : va_G) (cI cZ : ClassId) (q : Nat → Nat) (n : Nat) (x0 : Int32) (M : MR) : MetR l D cI cZ q yX5_objAt cX5_objAt 1 (some .int) 0 0 QI [.int x0] M (fR_objAt n x0 M) := by
  refine MetR.of (by decide) rfl (Nat.le_of_ble_eq_true rfl) ?_
  intro p e s m args below meth c X
  unfold fR_objAt
  refine g_pick (lv' := [(0, .int x0)]) [0] rfl ?_
  refine g_sipush (v := (17720 : Int32)) X dX5_objAt_0 (by decide) ?_
  refine g_bipush (v := (21 : Int32)) X dX5_objAt_3 (by decide) ?_
  refine g_iload_n X dX5_objAt_5 rfl rfl ?_
  refine g_imul X dX5_objAt_6 ?_
  refine g_iadd X dX5_objAt_7 ?_
  exact r_iret X dX5_objAt_8
theorem tc_objAt : Cond.code yX5_objAt cX5_objAt 1 (some .int) ∈ tt := tt_in (List.mem_of_getElem? (i := 1011) (by decide +kernel)) (by decide +kernel)
theorem tl_objAt : Cond.methodLink RX5 141 yX5_objAt ∈ tt := tt_in (List.mem_of_getElem? (i := 1009) (by decide +kernel)) (by decide +kernel)
theorem ts_objAt : Cond.static yX5_objAt ∈ tt := tt_in (List.mem_of_getElem? (i := 1010) (by decide +kernel)) (by decide +kernel)
theorem k_objAt (X : gX p s m args meth c cc nL RX5 rt D (tyR cI cZ)) {n : Nat} {x0 : Int32} {M : MR} {rest : List Value} {K : Int32 → MR → Option ρ} (hR : 0 + 1 ≤ R.frames ∧ 8 + (1 + 11) + 0 ≤ R.locals) (hcat : (rest.map fun v => v.category).sum ≤ 8) (d : decode cc pc = .ok (.invokestatic 141, 3)) (kk : ∀ v M1, gG p l e R s m args below meth c nL (ZR D cI cZ q (AR q s.heap.size) s.heap M1) 0 0 QQ (pc + 3) lv (.int v :: rest) (K v M1)) : gG p l e R s m args below meth c nL (ZR D cI cZ q (AR q s.heap.size) s.heap M) 0 0 QQ pc lv (.int x0 :: rest) (bnd (fR_objAt n x0 M) K) := r_callSi (As := [.int x0]) X (c_objAt l D cI cZ q n x0 M) (cwSR (k := 1) X.2.2.2.2.1 tl_objAt ts_objAt tc_objAt ini5 (by decide +kernel) hR) rfl rfl hcat d kk
-- isCell
def fR_isCell (n : Nat) (x1 : Int32) (M : MR) : Option (Int32 × MR) :=
    if x1 < 0 then
      (zt (0 : Int32) (some ((0 : Int32), M)))
    else
      (rd M 0 62610 (0 : Int32) fun v1 =>
      if v1 ≤ x1 then (zt (0 : Int32) (some ((0 : Int32), M))) else (zt (1 : Int32) (some ((1 : Int32), M))))
theorem c_isCell (l : Launch) (D : va_G) (cI cZ : ClassId) (q : Nat → Nat) (n : Nat) (x1 : Int32) (M : MR) : MetR l D cI cZ q yX5_isCell cX5_isCell 2 (some .boolean) 0 0 QI [.ref (q 34), .int x1] M (fR_isCell n x1 M) := by
  refine MetR.of (by decide) rfl (Nat.le_of_ble_eq_true rfl) ?_
  intro p e s m args below meth c X
  unfold fR_isCell
  refine g_pick (lv' := [(0, .ref (q 34)), (1, .int x1)]) [0, 1] rfl ?_
  refine g_iload_n X dX5_isCell_0 rfl rfl ?_
  refine g_if_lt (tgt := 18) X dX5_isCell_1 (by decide) ?_ ?_
  · refine g_iconst (v := (0 : Int32)) X dX5_isCell_18 (by decide) ?_
    exact r_zret X dX5_isCell_19
  · refine g_iload_n X dX5_isCell_4 rfl rfl ?_
    refine g_aload_n X dX5_isCell_5 rfl rfl ?_
    refine r_g_m X dX5_isCell_6 ?_
    refine g_iconst (v := (0 : Int32)) X dX5_isCell_9 (by decide) ?_
    refine r_l_m X dX5_isCell_10 ?_
    intro v1
    refine g_icmp_ge (tgt := 18) X dX5_isCell_11 (by decide) ?_ ?_
    · refine g_iconst (v := (0 : Int32)) X dX5_isCell_18 (by decide) ?_
      exact r_zret X dX5_isCell_19
    · refine g_iconst (v := (1 : Int32)) X dX5_isCell_14 (by decide) ?_
      refine g_goto (tgt := 19) X dX5_isCell_15 (by decide) ?_
      exact r_zret X dX5_isCell_19
theorem tc_isCell : Cond.code yX5_isCell cX5_isCell 2 (some .boolean) ∈ tt := tt_in (List.mem_of_getElem? (i := 1063) (by decide +kernel)) (by decide +kernel)
theorem tl_isCell : Cond.methodLink RX5 251 yX5_isCell ∈ tt := tt_in (List.mem_of_getElem? (i := 1060) (by decide +kernel)) (by decide +kernel)
theorem ti_isCell : Cond.instanceMethod yX5_isCell ∈ tt := tt_in (List.mem_of_getElem? (i := 1062) (by decide +kernel)) (by decide +kernel)
theorem te_isCell : Cond.selects RX5 yX5_isCell yX5_isCell ∈ tt := tt_in (List.mem_of_getElem? (i := 75) (by decide +kernel)) (by decide +kernel)
theorem k_isCell (X : gX p s m args meth c cc nL RX5 rt D (tyR cI cZ)) {n : Nat} {x1 : Int32} {M : MR} {rest : List Value} {K : Int32 → MR → Option ρ} (hR : 0 + 1 ≤ R.frames ∧ 8 + (2 + 11) + 0 ≤ R.locals) (hcat : (rest.map fun v => v.category).sum ≤ 8) (d : decode cc pc = .ok (.invokevirtual 251, 3)) (kk : ∀ v M1, gG p l e R s m args below meth c nL (ZR D cI cZ q (AR q s.heap.size) s.heap M1) 0 0 QQ (pc + 3) lv (.int v :: rest) (K v M1)) : gG p l e R s m args below meth c nL (ZR D cI cZ q (AR q s.heap.size) s.heap M) 0 0 QQ pc lv (.int x1 :: .ref (q 34) :: rest) (bnd (fR_isCell n x1 M) K) := r_callVi (As := [.int x1]) X (c_isCell l D cI cZ q n x1 M) (cwVR (k := 1) X.2.2.2.2.1 tl_isCell ti_isCell te_isCell tc_isCell ini5 (by decide +kernel) hR) rfl rfl hcat d kk
-- isEdition
def fR_isEdition (n : Nat) (x1 : Int32) (M : MR) : Option (Int32 × MR) :=
    if x1 < 0 then
      (zt (0 : Int32) (some ((0 : Int32), M)))
    else
      (rd M 0 62610 (1 : Int32) fun v1 =>
      if v1 ≤ x1 then (zt (0 : Int32) (some ((0 : Int32), M))) else (zt (1 : Int32) (some ((1 : Int32), M))))
theorem c_isEdition (l : Launch) (D : va_G) (cI cZ : ClassId) (q : Nat → Nat) (n : Nat) (x1 : Int32) (M : MR) : MetR l D cI cZ q yX5_isEdition cX5_isEdition 2 (some .boolean) 0 0 QI [.ref (q 34), .int x1] M (fR_isEdition n x1 M) := by
  refine MetR.of (by decide) rfl (Nat.le_of_ble_eq_true rfl) ?_
  intro p e s m args below meth c X
  unfold fR_isEdition
  refine g_pick (lv' := [(0, .ref (q 34)), (1, .int x1)]) [0, 1] rfl ?_
  refine g_iload_n X dX5_isEdition_0 rfl rfl ?_
  refine g_if_lt (tgt := 18) X dX5_isEdition_1 (by decide) ?_ ?_
  · refine g_iconst (v := (0 : Int32)) X dX5_isEdition_18 (by decide) ?_
    exact r_zret X dX5_isEdition_19
  · refine g_iload_n X dX5_isEdition_4 rfl rfl ?_
    refine g_aload_n X dX5_isEdition_5 rfl rfl ?_
    refine r_g_m X dX5_isEdition_6 ?_
    refine g_iconst (v := (1 : Int32)) X dX5_isEdition_9 (by decide) ?_
    refine r_l_m X dX5_isEdition_10 ?_
    intro v1
    refine g_icmp_ge (tgt := 18) X dX5_isEdition_11 (by decide) ?_ ?_
    · refine g_iconst (v := (0 : Int32)) X dX5_isEdition_18 (by decide) ?_
      exact r_zret X dX5_isEdition_19
    · refine g_iconst (v := (1 : Int32)) X dX5_isEdition_14 (by decide) ?_
      refine g_goto (tgt := 19) X dX5_isEdition_15 (by decide) ?_
      exact r_zret X dX5_isEdition_19
theorem tc_isEdition : Cond.code yX5_isEdition cX5_isEdition 2 (some .boolean) ∈ tt := tt_in (List.mem_of_getElem? (i := 1115) (by decide +kernel)) (by decide +kernel)
theorem tl_isEdition : Cond.methodLink RX5 69 yX5_isEdition ∈ tt := tt_in (List.mem_of_getElem? (i := 1112) (by decide +kernel)) (by decide +kernel)
theorem ti_isEdition : Cond.instanceMethod yX5_isEdition ∈ tt := tt_in (List.mem_of_getElem? (i := 1114) (by decide +kernel)) (by decide +kernel)
theorem te_isEdition : Cond.selects RX5 yX5_isEdition yX5_isEdition ∈ tt := tt_in (List.mem_of_getElem? (i := 79) (by decide +kernel)) (by decide +kernel)
theorem k_isEdition (X : gX p s m args meth c cc nL RX5 rt D (tyR cI cZ)) {n : Nat} {x1 : Int32} {M : MR} {rest : List Value} {K : Int32 → MR → Option ρ} (hR : 0 + 1 ≤ R.frames ∧ 8 + (2 + 11) + 0 ≤ R.locals) (hcat : (rest.map fun v => v.category).sum ≤ 8) (d : decode cc pc = .ok (.invokevirtual 69, 3)) (kk : ∀ v M1, gG p l e R s m args below meth c nL (ZR D cI cZ q (AR q s.heap.size) s.heap M1) 0 0 QQ (pc + 3) lv (.int v :: rest) (K v M1)) : gG p l e R s m args below meth c nL (ZR D cI cZ q (AR q s.heap.size) s.heap M) 0 0 QQ pc lv (.int x1 :: .ref (q 34) :: rest) (bnd (fR_isEdition n x1 M) K) := r_callVi (As := [.int x1]) X (c_isEdition l D cI cZ q n x1 M) (cwVR (k := 1) X.2.2.2.2.1 tl_isEdition ti_isEdition te_isEdition tc_isEdition ini5 (by decide +kernel) hR) rfl rfl hcat d kk
-- isObject
def fR_isObject (n : Nat) (x1 : Int32) (M : MR) : Option (Int32 × MR) :=
    if x1 < 0 then
      (zt (0 : Int32) (some ((0 : Int32), M)))
    else
      (rd M 0 62610 (2 : Int32) fun v1 =>
      if v1 ≤ x1 then (zt (0 : Int32) (some ((0 : Int32), M))) else (zt (1 : Int32) (some ((1 : Int32), M))))
theorem c_isObject (l : Launch) (D : va_G) (cI cZ : ClassId) (q : Nat → Nat) (n : Nat) (x1 : Int32) (M : MR) : MetR l D cI cZ q yX5_isObject cX5_isObject 2 (some .boolean) 0 0 QI [.ref (q 34), .int x1] M (fR_isObject n x1 M) := by
  refine MetR.of (by decide) rfl (Nat.le_of_ble_eq_true rfl) ?_
  intro p e s m args below meth c X
  unfold fR_isObject
  refine g_pick (lv' := [(0, .ref (q 34)), (1, .int x1)]) [0, 1] rfl ?_
  refine g_iload_n X dX5_isObject_0 rfl rfl ?_
  refine g_if_lt (tgt := 18) X dX5_isObject_1 (by decide) ?_ ?_
  · refine g_iconst (v := (0 : Int32)) X dX5_isObject_18 (by decide) ?_
    exact r_zret X dX5_isObject_19
  · refine g_iload_n X dX5_isObject_4 rfl rfl ?_
    refine g_aload_n X dX5_isObject_5 rfl rfl ?_
    refine r_g_m X dX5_isObject_6 ?_
    refine g_iconst (v := (2 : Int32)) X dX5_isObject_9 (by decide) ?_
    refine r_l_m X dX5_isObject_10 ?_
    intro v1
    refine g_icmp_ge (tgt := 18) X dX5_isObject_11 (by decide) ?_ ?_
    · refine g_iconst (v := (0 : Int32)) X dX5_isObject_18 (by decide) ?_
      exact r_zret X dX5_isObject_19
    · refine g_iconst (v := (1 : Int32)) X dX5_isObject_14 (by decide) ?_
      refine g_goto (tgt := 19) X dX5_isObject_15 (by decide) ?_
      exact r_zret X dX5_isObject_19
theorem tc_isObject : Cond.code yX5_isObject cX5_isObject 2 (some .boolean) ∈ tt := tt_in (List.mem_of_getElem? (i := 1123) (by decide +kernel)) (by decide +kernel)
theorem tl_isObject : Cond.methodLink RX5 263 yX5_isObject ∈ tt := tt_in (List.mem_of_getElem? (i := 1120) (by decide +kernel)) (by decide +kernel)
theorem ti_isObject : Cond.instanceMethod yX5_isObject ∈ tt := tt_in (List.mem_of_getElem? (i := 1122) (by decide +kernel)) (by decide +kernel)
theorem te_isObject : Cond.selects RX5 yX5_isObject yX5_isObject ∈ tt := tt_in (List.mem_of_getElem? (i := 80) (by decide +kernel)) (by decide +kernel)
theorem k_isObject (X : gX p s m args meth c cc nL RX5 rt D (tyR cI cZ)) {n : Nat} {x1 : Int32} {M : MR} {rest : List Value} {K : Int32 → MR → Option ρ} (hR : 0 + 1 ≤ R.frames ∧ 8 + (2 + 11) + 0 ≤ R.locals) (hcat : (rest.map fun v => v.category).sum ≤ 8) (d : decode cc pc = .ok (.invokevirtual 263, 3)) (kk : ∀ v M1, gG p l e R s m args below meth c nL (ZR D cI cZ q (AR q s.heap.size) s.heap M1) 0 0 QQ (pc + 3) lv (.int v :: rest) (K v M1)) : gG p l e R s m args below meth c nL (ZR D cI cZ q (AR q s.heap.size) s.heap M) 0 0 QQ pc lv (.int x1 :: .ref (q 34) :: rest) (bnd (fR_isObject n x1 M) K) := r_callVi (As := [.int x1]) X (c_isObject l D cI cZ q n x1 M) (cwVR (k := 1) X.2.2.2.2.1 tl_isObject ti_isObject te_isObject tc_isObject ini5 (by decide +kernel) hR) rfl rfl hcat d kk
-- isName
def fR_isName (n : Nat) (x0 : Int32) (M : MR) : Option (Int32 × MR) :=
    if x0 < 0 then
      (zt (0 : Int32) (some ((0 : Int32), M)))
    else
      (if (16 : Int32) ≤ x0 then (zt (0 : Int32) (some ((0 : Int32), M))) else (zt (1 : Int32) (some ((1 : Int32), M))))
theorem c_isName (l : Launch) (D : va_G) (cI cZ : ClassId) (q : Nat → Nat) (n : Nat) (x0 : Int32) (M : MR) : MetR l D cI cZ q yX5_isName cX5_isName 1 (some .boolean) 0 0 QI [.int x0] M (fR_isName n x0 M) := by
  refine MetR.of (by decide) rfl (Nat.le_of_ble_eq_true rfl) ?_
  intro p e s m args below meth c X
  unfold fR_isName
  refine g_pick (lv' := [(0, .int x0)]) [0] rfl ?_
  refine g_iload_n X dX5_isName_0 rfl rfl ?_
  refine g_if_lt (tgt := 14) X dX5_isName_1 (by decide) ?_ ?_
  · refine g_iconst (v := (0 : Int32)) X dX5_isName_14 (by decide) ?_
    exact r_zret X dX5_isName_15
  · refine g_iload_n X dX5_isName_4 rfl rfl ?_
    refine g_bipush (v := (16 : Int32)) X dX5_isName_5 (by decide) ?_
    refine g_icmp_ge (tgt := 14) X dX5_isName_7 (by decide) ?_ ?_
    · refine g_iconst (v := (0 : Int32)) X dX5_isName_14 (by decide) ?_
      exact r_zret X dX5_isName_15
    · refine g_iconst (v := (1 : Int32)) X dX5_isName_10 (by decide) ?_
      refine g_goto (tgt := 15) X dX5_isName_11 (by decide) ?_
      exact r_zret X dX5_isName_15
theorem tc_isName : Cond.code yX5_isName cX5_isName 1 (some .boolean) ∈ tt := tt_in (List.mem_of_getElem? (i := 879) (by decide +kernel)) (by decide +kernel)
theorem tl_isName : Cond.methodLink RX5 77 yX5_isName ∈ tt := tt_in (List.mem_of_getElem? (i := 877) (by decide +kernel)) (by decide +kernel)
theorem ts_isName : Cond.static yX5_isName ∈ tt := tt_in (List.mem_of_getElem? (i := 878) (by decide +kernel)) (by decide +kernel)
theorem k_isName (X : gX p s m args meth c cc nL RX5 rt D (tyR cI cZ)) {n : Nat} {x0 : Int32} {M : MR} {rest : List Value} {K : Int32 → MR → Option ρ} (hR : 0 + 1 ≤ R.frames ∧ 8 + (1 + 11) + 0 ≤ R.locals) (hcat : (rest.map fun v => v.category).sum ≤ 8) (d : decode cc pc = .ok (.invokestatic 77, 3)) (kk : ∀ v M1, gG p l e R s m args below meth c nL (ZR D cI cZ q (AR q s.heap.size) s.heap M1) 0 0 QQ (pc + 3) lv (.int v :: rest) (K v M1)) : gG p l e R s m args below meth c nL (ZR D cI cZ q (AR q s.heap.size) s.heap M) 0 0 QQ pc lv (.int x0 :: rest) (bnd (fR_isName n x0 M) K) := r_callSi (As := [.int x0]) X (c_isName l D cI cZ q n x0 M) (cwSR (k := 1) X.2.2.2.2.1 tl_isName ts_isName tc_isName ini5 (by decide +kernel) hR) rfl rfl hcat d kk
-- isClass
def fR_isClass (n : Nat) (x1 : Int32) (M : MR) : Option (Int32 × MR) :=
    bnd (fR_isEdition n x1 M) fun v1 M1 =>
    if v1 = 0 then
      (zt (0 : Int32) (some ((0 : Int32), M1)))
    else
      (bnd (fR_editAt n x1 M1) fun v2 M2 =>
      rd M2 0 62610 (v2 + (1 : Int32)) fun v3 =>
      if v3 = (1 : Int32) then (zt (1 : Int32) (some ((1 : Int32), M2))) else (zt (0 : Int32) (some ((0 : Int32), M2))))
theorem c_isClass (l : Launch) (D : va_G) (cI cZ : ClassId) (q : Nat → Nat) (n : Nat) (x1 : Int32) (M : MR) : MetR l D cI cZ q yX5_isClass cX5_isClass 2 (some .boolean) 1 21 QI [.ref (q 34), .int x1] M (fR_isClass n x1 M) := by
  refine MetR.of (by decide) rfl (Nat.le_of_ble_eq_true rfl) ?_
  intro p e s m args below meth c X
  unfold fR_isClass
  refine g_pick (lv' := [(0, .ref (q 34)), (1, .int x1)]) [0, 1] rfl ?_
  refine g_aload_n X dX5_isClass_0 rfl rfl ?_
  refine g_iload_n X dX5_isClass_1 rfl rfl ?_
  refine k_isEdition X ⟨Nat.le_of_ble_eq_true rfl, Nat.le_of_ble_eq_true rfl⟩ (Nat.le_of_ble_eq_true rfl) dX5_isClass_2 ?_
  intro v1 M1
  refine g_if_eq (tgt := 27) X dX5_isClass_5 (by decide) ?_ ?_
  · refine g_iconst (v := (0 : Int32)) X dX5_isClass_27 (by decide) ?_
    exact r_zret X dX5_isClass_28
  · refine g_aload_n X dX5_isClass_8 rfl rfl ?_
    refine r_g_m X dX5_isClass_9 ?_
    refine g_iload_n X dX5_isClass_12 rfl rfl ?_
    refine k_editAt X ⟨Nat.le_of_ble_eq_true rfl, Nat.le_of_ble_eq_true rfl⟩ (Nat.le_of_ble_eq_true rfl) dX5_isClass_13 ?_
    intro v2 M2
    refine g_iconst (v := (1 : Int32)) X dX5_isClass_16 (by decide) ?_
    refine g_iadd X dX5_isClass_17 ?_
    refine r_l_m X dX5_isClass_18 ?_
    intro v3
    refine g_iconst (v := (1 : Int32)) X dX5_isClass_19 (by decide) ?_
    refine g_icmp_ne (tgt := 27) X dX5_isClass_20 (by decide) ?_ ?_
    · refine g_iconst (v := (0 : Int32)) X dX5_isClass_27 (by decide) ?_
      exact r_zret X dX5_isClass_28
    · refine g_iconst (v := (1 : Int32)) X dX5_isClass_23 (by decide) ?_
      refine g_goto (tgt := 28) X dX5_isClass_24 (by decide) ?_
      exact r_zret X dX5_isClass_28
theorem tc_isClass : Cond.code yX5_isClass cX5_isClass 2 (some .boolean) ∈ tt := tt_in (List.mem_of_getElem? (i := 1135) (by decide +kernel)) (by decide +kernel)
theorem tl_isClass : Cond.methodLink RX5 266 yX5_isClass ∈ tt := tt_in (List.mem_of_getElem? (i := 1132) (by decide +kernel)) (by decide +kernel)
theorem ti_isClass : Cond.instanceMethod yX5_isClass ∈ tt := tt_in (List.mem_of_getElem? (i := 1134) (by decide +kernel)) (by decide +kernel)
theorem te_isClass : Cond.selects RX5 yX5_isClass yX5_isClass ∈ tt := tt_in (List.mem_of_getElem? (i := 81) (by decide +kernel)) (by decide +kernel)
theorem k_isClass (X : gX p s m args meth c cc nL RX5 rt D (tyR cI cZ)) {n : Nat} {x1 : Int32} {M : MR} {rest : List Value} {K : Int32 → MR → Option ρ} (hR : 1 + 1 ≤ R.frames ∧ 8 + (2 + 11) + 21 ≤ R.locals) (hcat : (rest.map fun v => v.category).sum ≤ 8) (d : decode cc pc = .ok (.invokevirtual 266, 3)) (kk : ∀ v M1, gG p l e R s m args below meth c nL (ZR D cI cZ q (AR q s.heap.size) s.heap M1) 0 0 QQ (pc + 3) lv (.int v :: rest) (K v M1)) : gG p l e R s m args below meth c nL (ZR D cI cZ q (AR q s.heap.size) s.heap M) 0 0 QQ pc lv (.int x1 :: .ref (q 34) :: rest) (bnd (fR_isClass n x1 M) K) := r_callVi (As := [.int x1]) X (c_isClass l D cI cZ q n x1 M) (cwVR (k := 1) X.2.2.2.2.1 tl_isClass ti_isClass te_isClass tc_isClass ini5 (by decide +kernel) hR) rfl rfl hcat d kk
-- newest
def fR_newest (n : Nat) (x1 : Int32) (M : MR) : Option (Int32 × MR) :=
    bnd (fR_isName n x1 M) fun v1 M1 =>
    if v1 = 0 then
      (some ((-1 : Int32), M1))
    else
      (rd M1 0 62610 ((4 : Int32) + x1) fun v2 =>
      some ((v2 - (1 : Int32)), M1))
theorem c_newest (l : Launch) (D : va_G) (cI cZ : ClassId) (q : Nat → Nat) (n : Nat) (x1 : Int32) (M : MR) : MetR l D cI cZ q yX5_newest cX5_newest 2 (some .int) 1 20 QI [.ref (q 34), .int x1] M (fR_newest n x1 M) := by
  refine MetR.of (by decide) rfl (Nat.le_of_ble_eq_true rfl) ?_
  intro p e s m args below meth c X
  unfold fR_newest
  refine g_pick (lv' := [(0, .ref (q 34)), (1, .int x1)]) [0, 1] rfl ?_
  refine g_iload_n X dX5_newest_0 rfl rfl ?_
  refine k_isName X ⟨Nat.le_of_ble_eq_true rfl, Nat.le_of_ble_eq_true rfl⟩ (Nat.le_of_ble_eq_true rfl) dX5_newest_1 ?_
  intro v1 M1
  refine g_if_eq (tgt := 20) X dX5_newest_4 (by decide) ?_ ?_
  · refine g_iconst (v := (-1 : Int32)) X dX5_newest_20 (by decide) ?_
    exact r_iret X dX5_newest_21
  · refine g_aload_n X dX5_newest_7 rfl rfl ?_
    refine r_g_m X dX5_newest_8 ?_
    refine g_iconst (v := (4 : Int32)) X dX5_newest_11 (by decide) ?_
    refine g_iload_n X dX5_newest_12 rfl rfl ?_
    refine g_iadd X dX5_newest_13 ?_
    refine r_l_m X dX5_newest_14 ?_
    intro v2
    refine g_iconst (v := (1 : Int32)) X dX5_newest_15 (by decide) ?_
    refine g_isub X dX5_newest_16 ?_
    refine g_goto (tgt := 21) X dX5_newest_17 (by decide) ?_
    exact r_iret X dX5_newest_21
theorem tc_newest : Cond.code yX5_newest cX5_newest 2 (some .int) ∈ tt := tt_in (List.mem_of_getElem? (i := 876) (by decide +kernel)) (by decide +kernel)
theorem tl_newest : Cond.methodLink RX5 97 yX5_newest ∈ tt := tt_in (List.mem_of_getElem? (i := 918) (by decide +kernel)) (by decide +kernel)
theorem ti_newest : Cond.instanceMethod yX5_newest ∈ tt := tt_in (List.mem_of_getElem? (i := 874) (by decide +kernel)) (by decide +kernel)
theorem te_newest : Cond.selects RX5 yX5_newest yX5_newest ∈ tt := tt_in (List.mem_of_getElem? (i := 875) (by decide +kernel)) (by decide +kernel)
theorem k_newest (X : gX p s m args meth c cc nL RX5 rt D (tyR cI cZ)) {n : Nat} {x1 : Int32} {M : MR} {rest : List Value} {K : Int32 → MR → Option ρ} (hR : 1 + 1 ≤ R.frames ∧ 8 + (2 + 11) + 20 ≤ R.locals) (hcat : (rest.map fun v => v.category).sum ≤ 8) (d : decode cc pc = .ok (.invokevirtual 97, 3)) (kk : ∀ v M1, gG p l e R s m args below meth c nL (ZR D cI cZ q (AR q s.heap.size) s.heap M1) 0 0 QQ (pc + 3) lv (.int v :: rest) (K v M1)) : gG p l e R s m args below meth c nL (ZR D cI cZ q (AR q s.heap.size) s.heap M) 0 0 QQ pc lv (.int x1 :: .ref (q 34) :: rest) (bnd (fR_newest n x1 M) K) := r_callVi (As := [.int x1]) X (c_newest l D cI cZ q n x1 M) (cwVR (k := 1) X.2.2.2.2.1 tl_newest ti_newest te_newest tc_newest ini5 (by decide +kernel) hR) rfl rfl hcat d kk
-- put
def fR_put_b75 (n : Nat) (k29 : Int32 → Int32 → Int32 → Int32 → Int32 → Int32 → MR → Option (Int32 × MR)) (x1 : Int32) (x2 : Int32) (x3 : Int32) (x4 : Int32) (x5 : Int32) (x6 : Int32) (s0 : Int32) (s1 : Int32) (M : MR) : Option (Int32 × MR) :=
    wr M 2 60 s0 s1 fun M1 =>
    gf M1 3 fun v2 =>
    pf M1 3 (v2 + (1 : Int32)) fun M3 =>
    k29 x1 x2 x3 x4 x5 (x6 + (1 : Int32)) M3
theorem wR_put_b75 (X : gX p s m args meth c cX5_put 7 RX5 (some .int) D (tyR cI cZ)) (n : Nat) (k29 : Int32 → Int32 → Int32 → Int32 → Int32 → Int32 → MR → Option (Int32 × MR)) (hk29 : ∀ (x1 : Int32) (x2 : Int32) (x3 : Int32) (x4 : Int32) (x5 : Int32) (x6 : Int32) (M : MR), gG p l e (rmR 0 0) s m args below meth c 7 (ZR D cI cZ q (AR q s.heap.size) s.heap M) 0 0 (fun r => MQ below (QI D cI cZ q s.heap.size r) args s 0 0 (AR q s.heap.size)) 29 [(0, .ref (q 34)), (1, .int x1), (2, .int x2), (3, .int x3), (4, .int x4), (5, .int x5), (6, .int x6)] [] (k29 x1 x2 x3 x4 x5 x6 M)) (x1 : Int32) (x2 : Int32) (x3 : Int32) (x4 : Int32) (x5 : Int32) (x6 : Int32) (s0 : Int32) (s1 : Int32) (M : MR) : gG p l e (rmR 0 0) s m args below meth c 7 (ZR D cI cZ q (AR q s.heap.size) s.heap M) 0 0 (fun r => MQ below (QI D cI cZ q s.heap.size r) args s 0 0 (AR q s.heap.size)) 75 [(0, .ref (q 34)), (1, .int x1), (2, .int x2), (3, .int x3), (4, .int x4), (5, .int x5), (6, .int x6)] [.int s1, .int s0, .ref (q 2)] (fR_put_b75 n k29 x1 x2 x3 x4 x5 x6 s0 s1 M) := by
  unfold fR_put_b75
  refine r_s_tape X dX5_put_75 ?_
  intro M1
  refine g_aload_n X dX5_put_76 rfl rfl ?_
  refine g_dup X dX5_put_77 rfl ?_
  refine r_g_taped X dX5_put_78 ?_
  intro v2
  refine g_iconst (v := (1 : Int32)) X dX5_put_81 (by decide) ?_
  refine g_iadd X dX5_put_82 ?_
  refine r_p_taped X dX5_put_83 ?_
  intro M3
  refine g_iinc (v := (1 : Int32)) (lv' := [(6, .int (x6 + (1 : Int32))), (0, .ref (q 34)), (1, .int x1), (2, .int x2), (3, .int x3), (4, .int x4), (5, .int x5)]) X dX5_put_86 rfl (by decide) (by decide) rfl ?_
  refine g_goto (tgt := 29) X dX5_put_89 (by decide) ?_
  exact g_pick [1, 2, 3, 4, 5, 6, 0] rfl (hk29 x1 x2 x3 x4 x5 (x6 + (1 : Int32)) M3)
def fR_put_l29 (n : Nat) : Nat → Int32 → Int32 → Int32 → Int32 → Int32 → Int32 → MR → Option (Int32 × MR)
  | 0, _, _, _, _, _, _, _ => none
  | k + 1, x1, x2, x3, x4, x5, x6, M => if x1 ≤ x6 then
      (gf M 3 fun v1 =>
      some (v1, M))
    else
      (gf M 3 fun v2 =>
      if x6 = 0 then
        (fR_put_b75 n (fR_put_l29 n k) x1 x2 x3 x4 x5 x6 v2 x2 M)
      else
        (if x6 = (1 : Int32) then
          (fR_put_b75 n (fR_put_l29 n k) x1 x2 x3 x4 x5 x6 v2 x3 M)
        else
          (if x6 = (2 : Int32) then
            (fR_put_b75 n (fR_put_l29 n k) x1 x2 x3 x4 x5 x6 v2 x4 M)
          else
            (fR_put_b75 n (fR_put_l29 n k) x1 x2 x3 x4 x5 x6 v2 x5 M))))
theorem wR_put_l29 (X : gX p s m args meth c cX5_put 7 RX5 (some .int) D (tyR cI cZ)) (n : Nat) : ∀ (k : Nat) (x1 : Int32) (x2 : Int32) (x3 : Int32) (x4 : Int32) (x5 : Int32) (x6 : Int32) (M : MR), gG p l e (rmR 0 0) s m args below meth c 7 (ZR D cI cZ q (AR q s.heap.size) s.heap M) 0 0 (fun r => MQ below (QI D cI cZ q s.heap.size r) args s 0 0 (AR q s.heap.size)) 29 [(0, .ref (q 34)), (1, .int x1), (2, .int x2), (3, .int x3), (4, .int x4), (5, .int x5), (6, .int x6)] [] (fR_put_l29 n k x1 x2 x3 x4 x5 x6 M) := by
  intro k
  induction k with
  | zero =>
    intro x1 x2 x3 x4 x5 x6 M
    exact g_none
  | succ k ih =>
    intro x1 x2 x3 x4 x5 x6 M
    rw [fR_put_l29]
    refine g_iload X dX5_put_29 rfl ?_
    refine g_iload_n X dX5_put_31 rfl rfl ?_
    refine g_icmp_ge (tgt := 92) X dX5_put_32 (by decide) ?_ ?_
    · refine g_aload_n X dX5_put_92 rfl rfl ?_
      refine r_g_taped X dX5_put_93 ?_
      intro v1
      exact r_iret X dX5_put_96
    · refine g_aload_n X dX5_put_35 rfl rfl ?_
      refine r_g_tape X dX5_put_36 ?_
      refine g_aload_n X dX5_put_39 rfl rfl ?_
      refine r_g_taped X dX5_put_40 ?_
      intro v2
      refine g_iload X dX5_put_43 rfl ?_
      refine g_if_ne (tgt := 52) X dX5_put_45 (by decide) ?_ ?_
      · refine g_iload X dX5_put_52 rfl ?_
        refine g_iconst (v := (1 : Int32)) X dX5_put_54 (by decide) ?_
        refine g_icmp_ne (tgt := 62) X dX5_put_55 (by decide) ?_ ?_
        · refine g_iload X dX5_put_62 rfl ?_
          refine g_iconst (v := (2 : Int32)) X dX5_put_64 (by decide) ?_
          refine g_icmp_ne (tgt := 73) X dX5_put_65 (by decide) ?_ ?_
          · refine g_iload X dX5_put_73 rfl ?_
            exact g_pick [0, 1, 2, 3, 4, 5, 6] rfl (wR_put_b75 X n (fR_put_l29 n k) ih x1 x2 x3 x4 x5 x6 v2 x5 M)
          · refine g_iload X dX5_put_68 rfl ?_
            refine g_goto (tgt := 75) X dX5_put_70 (by decide) ?_
            exact g_pick [0, 1, 2, 3, 4, 5, 6] rfl (wR_put_b75 X n (fR_put_l29 n k) ih x1 x2 x3 x4 x5 x6 v2 x4 M)
        · refine g_iload_n X dX5_put_58 rfl rfl ?_
          refine g_goto (tgt := 75) X dX5_put_59 (by decide) ?_
          exact g_pick [0, 1, 2, 3, 4, 5, 6] rfl (wR_put_b75 X n (fR_put_l29 n k) ih x1 x2 x3 x4 x5 x6 v2 x3 M)
      · refine g_iload_n X dX5_put_48 rfl rfl ?_
        refine g_goto (tgt := 75) X dX5_put_49 (by decide) ?_
        exact g_pick [0, 1, 2, 3, 4, 5, 6] rfl (wR_put_b75 X n (fR_put_l29 n k) ih x1 x2 x3 x4 x5 x6 v2 x2 M)
def fR_put (n : Nat) (x1 : Int32) (x2 : Int32) (x3 : Int32) (x4 : Int32) (x5 : Int32) (M : MR) : Option (Int32 × MR) :=
    if x1 < (1 : Int32) then
      (some ((-1 : Int32), M))
    else
      (if x1 ≤ (4 : Int32) then
        (gf M 3 fun v1 =>
        if (v1 + x1) ≤ (60 : Int32) then (fR_put_l29 n n x1 x2 x3 x4 x5 (0 : Int32) M) else (some ((-2 : Int32), M)))
      else
        (some ((-1 : Int32), M)))
theorem c_put (l : Launch) (D : va_G) (cI cZ : ClassId) (q : Nat → Nat) (n : Nat) (x1 : Int32) (x2 : Int32) (x3 : Int32) (x4 : Int32) (x5 : Int32) (M : MR) : MetR l D cI cZ q yX5_put cX5_put 7 (some .int) 0 0 QI [.ref (q 34), .int x1, .int x2, .int x3, .int x4, .int x5] M (fR_put n x1 x2 x3 x4 x5 M) := by
  refine MetR.of (by decide) rfl (Nat.le_of_ble_eq_true rfl) ?_
  intro p e s m args below meth c X
  unfold fR_put
  refine g_pick (lv' := [(0, .ref (q 34)), (1, .int x1), (2, .int x2), (3, .int x3), (4, .int x4), (5, .int x5)]) [0, 1, 2, 3, 4, 5] rfl ?_
  refine g_iload_n X dX5_put_0 rfl rfl ?_
  refine g_iconst (v := (1 : Int32)) X dX5_put_1 (by decide) ?_
  refine g_icmp_lt (tgt := 10) X dX5_put_2 (by decide) ?_ ?_
  · refine g_iconst (v := (-1 : Int32)) X dX5_put_10 (by decide) ?_
    exact r_iret X dX5_put_11
  · refine g_iload_n X dX5_put_5 rfl rfl ?_
    refine g_iconst (v := (4 : Int32)) X dX5_put_6 (by decide) ?_
    refine g_icmp_le (tgt := 12) X dX5_put_7 (by decide) ?_ ?_
    · refine g_aload_n X dX5_put_12 rfl rfl ?_
      refine r_g_taped X dX5_put_13 ?_
      intro v1
      refine g_iload_n X dX5_put_16 rfl rfl ?_
      refine g_iadd X dX5_put_17 ?_
      refine g_bipush (v := (60 : Int32)) X dX5_put_18 (by decide) ?_
      refine g_icmp_le (tgt := 26) X dX5_put_20 (by decide) ?_ ?_
      · refine g_iconst (v := (0 : Int32)) X dX5_put_26 (by decide) ?_
        refine g_istore (lv' := [(6, .int (0 : Int32)), (0, .ref (q 34)), (1, .int x1), (2, .int x2), (3, .int x3), (4, .int x4), (5, .int x5)]) X dX5_put_27 (by decide) rfl ?_
        exact g_pick [1, 2, 3, 4, 5, 6, 0] rfl (wR_put_l29 X n n x1 x2 x3 x4 x5 (0 : Int32) M)
      · refine g_bipush (v := (-2 : Int32)) X dX5_put_23 (by decide) ?_
        exact r_iret X dX5_put_25
    · refine g_iconst (v := (-1 : Int32)) X dX5_put_10 (by decide) ?_
      exact r_iret X dX5_put_11
-- wipe
def fR_wipe (n : Nat) (M : MR) : Option (Int32 × MR) :=
    gf M 3 fun v1 =>
    pf M 3 (0 : Int32) fun M2 =>
    some (v1, M2)
theorem c_wipe (l : Launch) (D : va_G) (cI cZ : ClassId) (q : Nat → Nat) (n : Nat) (M : MR) : MetR l D cI cZ q yX5_wipe cX5_wipe 2 (some .int) 0 0 QI [.ref (q 34)] M (fR_wipe n M) := by
  refine MetR.of (by decide) rfl (Nat.le_of_ble_eq_true rfl) ?_
  intro p e s m args below meth c X
  unfold fR_wipe
  refine g_pick (lv' := [(0, .ref (q 34))]) [0] rfl ?_
  refine g_aload_n X dX5_wipe_0 rfl rfl ?_
  refine r_g_taped X dX5_wipe_1 ?_
  intro v1
  refine g_istore_n (lv' := [(1, .int v1), (0, .ref (q 34))]) X dX5_wipe_4 rfl (by decide) rfl ?_
  refine g_aload_n X dX5_wipe_5 rfl rfl ?_
  refine g_iconst (v := (0 : Int32)) X dX5_wipe_6 (by decide) ?_
  refine r_p_taped X dX5_wipe_7 ?_
  intro M2
  refine g_iload_n X dX5_wipe_10 rfl rfl ?_
  exact r_iret X dX5_wipe_11
-- wrong
def fR_wrong (n : Nat) (x1 : Int32) (M : MR) : Option (Int32 × MR) :=
    gf M 7 fun v1 =>
    if 0 ≤ v1 then
      (gf M 7 fun v2 =>
      pf M 7 v2 fun M3 =>
      some (0, M3))
    else
      (pf M 7 x1 fun M4 =>
      some (0, M4))
theorem c_wrong (l : Launch) (D : va_G) (cI cZ : ClassId) (q : Nat → Nat) (n : Nat) (x1 : Int32) (M : MR) : MetR l D cI cZ q yX5_wrong cX5_wrong 2 none 0 0 QV [.ref (q 34), .int x1] M (fR_wrong n x1 M) := by
  refine MetR.of (by decide) rfl (Nat.le_of_ble_eq_true rfl) ?_
  intro p e s m args below meth c X
  unfold fR_wrong
  refine g_pick (lv' := [(0, .ref (q 34)), (1, .int x1)]) [0, 1] rfl ?_
  refine g_aload_n X dX5_wrong_0 rfl rfl ?_
  refine g_aload_n X dX5_wrong_1 rfl rfl ?_
  refine r_g_fault X dX5_wrong_2 ?_
  intro v1
  refine g_if_ge (tgt := 12) X dX5_wrong_5 (by decide) ?_ ?_
  · refine g_aload_n X dX5_wrong_12 rfl rfl ?_
    refine r_g_fault X dX5_wrong_13 ?_
    intro v2
    refine r_p_fault X dX5_wrong_16 ?_
    intro M3
    exact r_vret X dX5_wrong_19
  · refine g_iload_n X dX5_wrong_8 rfl rfl ?_
    refine g_goto (tgt := 16) X dX5_wrong_9 (by decide) ?_
    refine r_p_fault X dX5_wrong_16 ?_
    intro M4
    exact r_vret X dX5_wrong_19
theorem tc_wrong : Cond.code yX5_wrong cX5_wrong 2 none ∈ tt := tt_in (List.mem_of_getElem? (i := 925) (by decide +kernel)) (by decide +kernel)
theorem tl_wrong : Cond.methodLink RX5 93 yX5_wrong ∈ tt := tt_in (List.mem_of_getElem? (i := 922) (by decide +kernel)) (by decide +kernel)
theorem ti_wrong : Cond.instanceMethod yX5_wrong ∈ tt := tt_in (List.mem_of_getElem? (i := 924) (by decide +kernel)) (by decide +kernel)
theorem te_wrong : Cond.selects RX5 yX5_wrong yX5_wrong ∈ tt := tt_in (List.mem_of_getElem? (i := 43) (by decide +kernel)) (by decide +kernel)
theorem k_wrong (X : gX p s m args meth c cc nL RX5 rt D (tyR cI cZ)) {n : Nat} {x1 : Int32} {M : MR} {rest : List Value} {K : Int32 → MR → Option ρ} (hR : 0 + 1 ≤ R.frames ∧ 8 + (2 + 11) + 0 ≤ R.locals) (hcat : (rest.map fun v => v.category).sum ≤ 8) (d : decode cc pc = .ok (.invokevirtual 93, 3)) (kk : ∀ v M1, gG p l e R s m args below meth c nL (ZR D cI cZ q (AR q s.heap.size) s.heap M1) 0 0 QQ (pc + 3) lv (rest) (K v M1)) : gG p l e R s m args below meth c nL (ZR D cI cZ q (AR q s.heap.size) s.heap M) 0 0 QQ pc lv (.int x1 :: .ref (q 34) :: rest) (bnd (fR_wrong n x1 M) K) := r_callVv (As := [.int x1]) X (c_wrong l D cI cZ q n x1 M) (cwVR (k := 1) X.2.2.2.2.1 tl_wrong ti_wrong te_wrong tc_wrong ini5 (by decide +kernel) hR) rfl rfl hcat d kk
-- take
def fR_take (n : Nat) (M : MR) : Option (Int32 × MR) :=
    gf M 8 fun v1 =>
    gf M 6 fun v2 =>
    if v1 < v2 then
      (gf M 8 fun v3 =>
      pf M 8 (v3 + (1 : Int32)) fun M4 =>
      gf M4 8 fun v5 =>
      rd M4 4 60 (v5 - (1 : Int32)) fun v6 =>
      some (v6, M4))
    else
      (gf M 6 fun v7 =>
      bnd (fR_wrong n v7 M) fun _ M8 =>
      some ((0 : Int32), M8))
theorem c_take (l : Launch) (D : va_G) (cI cZ : ClassId) (q : Nat → Nat) (n : Nat) (M : MR) : MetR l D cI cZ q yX5_take cX5_take 1 (some .int) 1 21 QI [.ref (q 34)] M (fR_take n M) := by
  refine MetR.of (by decide) rfl (Nat.le_of_ble_eq_true rfl) ?_
  intro p e s m args below meth c X
  unfold fR_take
  refine g_pick (lv' := [(0, .ref (q 34))]) [0] rfl ?_
  refine g_aload_n X dX5_take_0 rfl rfl ?_
  refine r_g_at X dX5_take_1 ?_
  intro v1
  refine g_aload_n X dX5_take_4 rfl rfl ?_
  refine r_g_length X dX5_take_5 ?_
  intro v2
  refine g_icmp_lt (tgt := 21) X dX5_take_8 (by decide) ?_ ?_
  · refine g_aload_n X dX5_take_21 rfl rfl ?_
    refine g_dup X dX5_take_22 rfl ?_
    refine r_g_at X dX5_take_23 ?_
    intro v3
    refine g_iconst (v := (1 : Int32)) X dX5_take_26 (by decide) ?_
    refine g_iadd X dX5_take_27 ?_
    refine r_p_at X dX5_take_28 ?_
    intro M4
    refine g_aload_n X dX5_take_31 rfl rfl ?_
    refine r_g_text X dX5_take_32 ?_
    refine g_aload_n X dX5_take_35 rfl rfl ?_
    refine r_g_at X dX5_take_36 ?_
    intro v5
    refine g_iconst (v := (1 : Int32)) X dX5_take_39 (by decide) ?_
    refine g_isub X dX5_take_40 ?_
    refine r_l_text X dX5_take_41 ?_
    intro v6
    exact r_iret X dX5_take_42
  · refine g_aload_n X dX5_take_11 rfl rfl ?_
    refine g_aload_n X dX5_take_12 rfl rfl ?_
    refine r_g_length X dX5_take_13 ?_
    intro v7
    refine k_wrong X ⟨Nat.le_of_ble_eq_true rfl, Nat.le_of_ble_eq_true rfl⟩ (Nat.le_of_ble_eq_true rfl) dX5_take_16 ?_
    intro v8 M8
    refine g_iconst (v := (0 : Int32)) X dX5_take_19 (by decide) ?_
    exact r_iret X dX5_take_20
theorem tc_take : Cond.code yX5_take cX5_take 1 (some .int) ∈ tt := tt_in (List.mem_of_getElem? (i := 933) (by decide +kernel)) (by decide +kernel)
theorem tl_take : Cond.methodLink RX5 114 yX5_take ∈ tt := tt_in (List.mem_of_getElem? (i := 930) (by decide +kernel)) (by decide +kernel)
theorem ti_take : Cond.instanceMethod yX5_take ∈ tt := tt_in (List.mem_of_getElem? (i := 932) (by decide +kernel)) (by decide +kernel)
theorem te_take : Cond.selects RX5 yX5_take yX5_take ∈ tt := tt_in (List.mem_of_getElem? (i := 45) (by decide +kernel)) (by decide +kernel)
theorem k_take (X : gX p s m args meth c cc nL RX5 rt D (tyR cI cZ)) {n : Nat} {M : MR} {rest : List Value} {K : Int32 → MR → Option ρ} (hR : 1 + 1 ≤ R.frames ∧ 8 + (1 + 11) + 21 ≤ R.locals) (hcat : (rest.map fun v => v.category).sum ≤ 8) (d : decode cc pc = .ok (.invokevirtual 114, 3)) (kk : ∀ v M1, gG p l e R s m args below meth c nL (ZR D cI cZ q (AR q s.heap.size) s.heap M1) 0 0 QQ (pc + 3) lv (.int v :: rest) (K v M1)) : gG p l e R s m args below meth c nL (ZR D cI cZ q (AR q s.heap.size) s.heap M) 0 0 QQ pc lv (.ref (q 34) :: rest) (bnd (fR_take n M) K) := r_callVi (As := []) X (c_take l D cI cZ q n M) (cwVR (k := 0) X.2.2.2.2.1 tl_take ti_take te_take tc_take ini5 (by decide +kernel) hR) rfl rfl hcat d kk
-- means
def fR_means (n : Nat) (x1 : Int32) (x2 : Int32) (x3 : Int32) (M : MR) : Option (Int32 × MR) :=
    bnd (fR_newest n x2 M) fun v1 M1 =>
    if v1 < 0 then
      (zt (0 : Int32) (some ((0 : Int32), M1)))
    else
      (bnd (fR_editAt n v1 M1) fun v2 M2 =>
      rd M2 0 62610 (v2 + (1 : Int32)) fun v3 =>
      if v3 = x3 then
        (wz M2 9 150 v1 (1 : Int32) fun M4 =>
        wr M4 5 60 x1 v1 fun M5 =>
        zt (1 : Int32) (some ((1 : Int32), M5)))
      else
        (zt (0 : Int32) (some ((0 : Int32), M2))))
theorem c_means (l : Launch) (D : va_G) (cI cZ : ClassId) (q : Nat → Nat) (n : Nat) (x1 : Int32) (x2 : Int32) (x3 : Int32) (M : MR) : MetR l D cI cZ q yX5_means cX5_means 5 (some .boolean) 2 41 QI [.ref (q 34), .int x1, .int x2, .int x3] M (fR_means n x1 x2 x3 M) := by
  refine MetR.of (by decide) rfl (Nat.le_of_ble_eq_true rfl) ?_
  intro p e s m args below meth c X
  unfold fR_means
  refine g_pick (lv' := [(0, .ref (q 34)), (1, .int x1), (2, .int x2), (3, .int x3)]) [0, 1, 2, 3] rfl ?_
  refine g_aload_n X dX5_means_0 rfl rfl ?_
  refine g_iload_n X dX5_means_1 rfl rfl ?_
  refine k_newest X ⟨Nat.le_of_ble_eq_true rfl, Nat.le_of_ble_eq_true rfl⟩ (Nat.le_of_ble_eq_true rfl) dX5_means_2 ?_
  intro v1 M1
  refine g_istore (lv' := [(4, .int v1), (0, .ref (q 34)), (1, .int x1), (2, .int x2), (3, .int x3)]) X dX5_means_5 (by decide) rfl ?_
  refine g_iload X dX5_means_7 rfl ?_
  refine g_if_lt (tgt := 28) X dX5_means_9 (by decide) ?_ ?_
  · refine g_iconst (v := (0 : Int32)) X dX5_means_28 (by decide) ?_
    exact r_zret X dX5_means_29
  · refine g_aload_n X dX5_means_12 rfl rfl ?_
    refine r_g_m X dX5_means_13 ?_
    refine g_iload X dX5_means_16 rfl ?_
    refine k_editAt X ⟨Nat.le_of_ble_eq_true rfl, Nat.le_of_ble_eq_true rfl⟩ (Nat.le_of_ble_eq_true rfl) dX5_means_18 ?_
    intro v2 M2
    refine g_iconst (v := (1 : Int32)) X dX5_means_21 (by decide) ?_
    refine g_iadd X dX5_means_22 ?_
    refine r_l_m X dX5_means_23 ?_
    intro v3
    refine g_iload_n X dX5_means_24 rfl rfl ?_
    refine g_icmp_eq (tgt := 30) X dX5_means_25 (by decide) ?_ ?_
    · refine g_aload_n X dX5_means_30 rfl rfl ?_
      refine r_g_leaned X dX5_means_31 ?_
      refine g_iload X dX5_means_34 rfl ?_
      refine g_iconst (v := (1 : Int32)) X dX5_means_36 (by decide) ?_
      refine r_s_leaned X dX5_means_37 ?_
      intro M4
      refine g_aload_n X dX5_means_38 rfl rfl ?_
      refine r_g_meant X dX5_means_39 ?_
      refine g_iload_n X dX5_means_42 rfl rfl ?_
      refine g_iload X dX5_means_43 rfl ?_
      refine r_s_meant X dX5_means_45 ?_
      intro M5
      refine g_iconst (v := (1 : Int32)) X dX5_means_46 (by decide) ?_
      exact r_zret X dX5_means_47
    · refine g_iconst (v := (0 : Int32)) X dX5_means_28 (by decide) ?_
      exact r_zret X dX5_means_29
theorem tc_means : Cond.code yX5_means cX5_means 5 (some .boolean) ∈ tt := tt_in (List.mem_of_getElem? (i := 917) (by decide +kernel)) (by decide +kernel)
theorem tl_means : Cond.methodLink RX5 106 yX5_means ∈ tt := tt_in (List.mem_of_getElem? (i := 914) (by decide +kernel)) (by decide +kernel)
theorem ti_means : Cond.instanceMethod yX5_means ∈ tt := tt_in (List.mem_of_getElem? (i := 916) (by decide +kernel)) (by decide +kernel)
theorem te_means : Cond.selects RX5 yX5_means yX5_means ∈ tt := tt_in (List.mem_of_getElem? (i := 42) (by decide +kernel)) (by decide +kernel)
theorem k_means (X : gX p s m args meth c cc nL RX5 rt D (tyR cI cZ)) {n : Nat} {x1 : Int32} {x2 : Int32} {x3 : Int32} {M : MR} {rest : List Value} {K : Int32 → MR → Option ρ} (hR : 2 + 1 ≤ R.frames ∧ 8 + (5 + 11) + 41 ≤ R.locals) (hcat : (rest.map fun v => v.category).sum ≤ 8) (d : decode cc pc = .ok (.invokevirtual 106, 3)) (kk : ∀ v M1, gG p l e R s m args below meth c nL (ZR D cI cZ q (AR q s.heap.size) s.heap M1) 0 0 QQ (pc + 3) lv (.int v :: rest) (K v M1)) : gG p l e R s m args below meth c nL (ZR D cI cZ q (AR q s.heap.size) s.heap M) 0 0 QQ pc lv (.int x3 :: .int x2 :: .int x1 :: .ref (q 34) :: rest) (bnd (fR_means n x1 x2 x3 M) K) := r_callVi (As := [.int x1, .int x2, .int x3]) X (c_means l D cI cZ q n x1 x2 x3 M) (cwVR (k := 3) X.2.2.2.2.1 tl_means ti_means te_means tc_means ini5 (by decide +kernel) hR) rfl rfl hcat d kk
-- hasInt
def fR_hasInt (n : Nat) (x0 : Int32) (M : MR) : Option (Int32 × MR) :=
    if x0 < 0 then
      (zt (0 : Int32) (some ((0 : Int32), M)))
    else
      (if (7 : Int32) < x0 then (zt (0 : Int32) (some ((0 : Int32), M))) else (zt (1 : Int32) (some ((1 : Int32), M))))
theorem c_hasInt (l : Launch) (D : va_G) (cI cZ : ClassId) (q : Nat → Nat) (n : Nat) (x0 : Int32) (M : MR) : MetR l D cI cZ q yX5_hasInt cX5_hasInt 1 (some .boolean) 0 0 QI [.int x0] M (fR_hasInt n x0 M) := by
  refine MetR.of (by decide) rfl (Nat.le_of_ble_eq_true rfl) ?_
  intro p e s m args below meth c X
  unfold fR_hasInt
  refine g_pick (lv' := [(0, .int x0)]) [0] rfl ?_
  refine g_iload_n X dX5_hasInt_0 rfl rfl ?_
  refine g_if_lt (tgt := 14) X dX5_hasInt_1 (by decide) ?_ ?_
  · refine g_iconst (v := (0 : Int32)) X dX5_hasInt_14 (by decide) ?_
    exact r_zret X dX5_hasInt_15
  · refine g_iload_n X dX5_hasInt_4 rfl rfl ?_
    refine g_bipush (v := (7 : Int32)) X dX5_hasInt_5 (by decide) ?_
    refine g_icmp_gt (tgt := 14) X dX5_hasInt_7 (by decide) ?_ ?_
    · refine g_iconst (v := (0 : Int32)) X dX5_hasInt_14 (by decide) ?_
      exact r_zret X dX5_hasInt_15
    · refine g_iconst (v := (1 : Int32)) X dX5_hasInt_10 (by decide) ?_
      refine g_goto (tgt := 15) X dX5_hasInt_11 (by decide) ?_
      exact r_zret X dX5_hasInt_15
theorem tc_hasInt : Cond.code yX5_hasInt cX5_hasInt 1 (some .boolean) ∈ tt := tt_in (List.mem_of_getElem? (i := 910) (by decide +kernel)) (by decide +kernel)
theorem tl_hasInt : Cond.methodLink RX5 100 yX5_hasInt ∈ tt := tt_in (List.mem_of_getElem? (i := 908) (by decide +kernel)) (by decide +kernel)
theorem ts_hasInt : Cond.static yX5_hasInt ∈ tt := tt_in (List.mem_of_getElem? (i := 909) (by decide +kernel)) (by decide +kernel)
theorem k_hasInt (X : gX p s m args meth c cc nL RX5 rt D (tyR cI cZ)) {n : Nat} {x0 : Int32} {M : MR} {rest : List Value} {K : Int32 → MR → Option ρ} (hR : 0 + 1 ≤ R.frames ∧ 8 + (1 + 11) + 0 ≤ R.locals) (hcat : (rest.map fun v => v.category).sum ≤ 8) (d : decode cc pc = .ok (.invokestatic 100, 3)) (kk : ∀ v M1, gG p l e R s m args below meth c nL (ZR D cI cZ q (AR q s.heap.size) s.heap M1) 0 0 QQ (pc + 3) lv (.int v :: rest) (K v M1)) : gG p l e R s m args below meth c nL (ZR D cI cZ q (AR q s.heap.size) s.heap M) 0 0 QQ pc lv (.int x0 :: rest) (bnd (fR_hasInt n x0 M) K) := r_callSi (As := [.int x0]) X (c_hasInt l D cI cZ q n x0 M) (cwSR (k := 1) X.2.2.2.2.1 tl_hasInt ts_hasInt tc_hasInt ini5 (by decide +kernel) hR) rfl rfl hcat d kk
-- takes
def fR_takes (n : Nat) (x0 : Int32) (M : MR) : Option (Int32 × MR) :=
    if x0 ≤ (2 : Int32) then
      (some ((0 : Int32), M))
    else
      (if x0 = (16 : Int32) then
        (some ((0 : Int32), M))
      else
        (if x0 = (17 : Int32) then
          (some ((0 : Int32), M))
        else
          (if x0 = (3 : Int32) then
            (some ((1 : Int32), M))
          else
            (if x0 = (4 : Int32) then
              (some ((1 : Int32), M))
            else
              (if x0 = (5 : Int32) then
                (some ((1 : Int32), M))
              else
                (if x0 = (15 : Int32) then
                  (some ((1 : Int32), M))
                else
                  (if x0 = (14 : Int32) then (some ((3 : Int32), M)) else (some ((2 : Int32), M)))))))))
theorem c_takes (l : Launch) (D : va_G) (cI cZ : ClassId) (q : Nat → Nat) (n : Nat) (x0 : Int32) (M : MR) : MetR l D cI cZ q yX5_takes cX5_takes 1 (some .int) 0 0 QI [.int x0] M (fR_takes n x0 M) := by
  refine MetR.of (by decide) rfl (Nat.le_of_ble_eq_true rfl) ?_
  intro p e s m args below meth c X
  unfold fR_takes
  refine g_pick (lv' := [(0, .int x0)]) [0] rfl ?_
  refine g_iload_n X dX5_takes_0 rfl rfl ?_
  refine g_iconst (v := (2 : Int32)) X dX5_takes_1 (by decide) ?_
  refine g_icmp_le (tgt := 17) X dX5_takes_2 (by decide) ?_ ?_
  · refine g_iconst (v := (0 : Int32)) X dX5_takes_17 (by decide) ?_
    refine g_goto (tgt := 57) X dX5_takes_18 (by decide) ?_
    exact r_iret X dX5_takes_57
  · refine g_iload_n X dX5_takes_5 rfl rfl ?_
    refine g_bipush (v := (16 : Int32)) X dX5_takes_6 (by decide) ?_
    refine g_icmp_eq (tgt := 17) X dX5_takes_8 (by decide) ?_ ?_
    · refine g_iconst (v := (0 : Int32)) X dX5_takes_17 (by decide) ?_
      refine g_goto (tgt := 57) X dX5_takes_18 (by decide) ?_
      exact r_iret X dX5_takes_57
    · refine g_iload_n X dX5_takes_11 rfl rfl ?_
      refine g_bipush (v := (17 : Int32)) X dX5_takes_12 (by decide) ?_
      refine g_icmp_ne (tgt := 21) X dX5_takes_14 (by decide) ?_ ?_
      · refine g_iload_n X dX5_takes_21 rfl rfl ?_
        refine g_iconst (v := (3 : Int32)) X dX5_takes_22 (by decide) ?_
        refine g_icmp_eq (tgt := 42) X dX5_takes_23 (by decide) ?_ ?_
        · refine g_iconst (v := (1 : Int32)) X dX5_takes_42 (by decide) ?_
          refine g_goto (tgt := 57) X dX5_takes_43 (by decide) ?_
          exact r_iret X dX5_takes_57
        · refine g_iload_n X dX5_takes_26 rfl rfl ?_
          refine g_iconst (v := (4 : Int32)) X dX5_takes_27 (by decide) ?_
          refine g_icmp_eq (tgt := 42) X dX5_takes_28 (by decide) ?_ ?_
          · refine g_iconst (v := (1 : Int32)) X dX5_takes_42 (by decide) ?_
            refine g_goto (tgt := 57) X dX5_takes_43 (by decide) ?_
            exact r_iret X dX5_takes_57
          · refine g_iload_n X dX5_takes_31 rfl rfl ?_
            refine g_iconst (v := (5 : Int32)) X dX5_takes_32 (by decide) ?_
            refine g_icmp_eq (tgt := 42) X dX5_takes_33 (by decide) ?_ ?_
            · refine g_iconst (v := (1 : Int32)) X dX5_takes_42 (by decide) ?_
              refine g_goto (tgt := 57) X dX5_takes_43 (by decide) ?_
              exact r_iret X dX5_takes_57
            · refine g_iload_n X dX5_takes_36 rfl rfl ?_
              refine g_bipush (v := (15 : Int32)) X dX5_takes_37 (by decide) ?_
              refine g_icmp_ne (tgt := 46) X dX5_takes_39 (by decide) ?_ ?_
              · refine g_iload_n X dX5_takes_46 rfl rfl ?_
                refine g_bipush (v := (14 : Int32)) X dX5_takes_47 (by decide) ?_
                refine g_icmp_ne (tgt := 56) X dX5_takes_49 (by decide) ?_ ?_
                · refine g_iconst (v := (2 : Int32)) X dX5_takes_56 (by decide) ?_
                  exact r_iret X dX5_takes_57
                · refine g_iconst (v := (3 : Int32)) X dX5_takes_52 (by decide) ?_
                  refine g_goto (tgt := 57) X dX5_takes_53 (by decide) ?_
                  exact r_iret X dX5_takes_57
              · refine g_iconst (v := (1 : Int32)) X dX5_takes_42 (by decide) ?_
                refine g_goto (tgt := 57) X dX5_takes_43 (by decide) ?_
                exact r_iret X dX5_takes_57
      · refine g_iconst (v := (0 : Int32)) X dX5_takes_17 (by decide) ?_
        refine g_goto (tgt := 57) X dX5_takes_18 (by decide) ?_
        exact r_iret X dX5_takes_57
theorem tc_takes : Cond.code yX5_takes cX5_takes 1 (some .int) ∈ tt := tt_in (List.mem_of_getElem? (i := 913) (by decide +kernel)) (by decide +kernel)
theorem tl_takes : Cond.methodLink RX5 103 yX5_takes ∈ tt := tt_in (List.mem_of_getElem? (i := 911) (by decide +kernel)) (by decide +kernel)
theorem ts_takes : Cond.static yX5_takes ∈ tt := tt_in (List.mem_of_getElem? (i := 912) (by decide +kernel)) (by decide +kernel)
theorem k_takes (X : gX p s m args meth c cc nL RX5 rt D (tyR cI cZ)) {n : Nat} {x0 : Int32} {M : MR} {rest : List Value} {K : Int32 → MR → Option ρ} (hR : 0 + 1 ≤ R.frames ∧ 8 + (1 + 11) + 0 ≤ R.locals) (hcat : (rest.map fun v => v.category).sum ≤ 8) (d : decode cc pc = .ok (.invokestatic 103, 3)) (kk : ∀ v M1, gG p l e R s m args below meth c nL (ZR D cI cZ q (AR q s.heap.size) s.heap M1) 0 0 QQ (pc + 3) lv (.int v :: rest) (K v M1)) : gG p l e R s m args below meth c nL (ZR D cI cZ q (AR q s.heap.size) s.heap M) 0 0 QQ pc lv (.int x0 :: rest) (bnd (fR_takes n x0 M) K) := r_callSi (As := [.int x0]) X (c_takes l D cI cZ q n x0 M) (cwSR (k := 1) X.2.2.2.2.1 tl_takes ts_takes tc_takes ini5 (by decide +kernel) hR) rfl rfl hcat d kk
-- isActRight
def fR_isActRight_b85 (n : Nat) (x1 : Int32) (x5 : Int32) (s0 : Int32) (M : MR) : Option (Int32 × MR) :=
    if x5 = (1 : Int32) then
      (bnd (fR_means n (x1 + (1 : Int32)) s0 (0 : Int32) M) fun v2 M2 =>
      zt v2 (some (v2, M2)))
    else if x5 = (2 : Int32) then
      (bnd (fR_means n (x1 + (1 : Int32)) s0 (1 : Int32) M) fun v4 M4 =>
      zt v4 (some (v4, M4)))
    else if x5 = (3 : Int32) then
      (bnd (fR_means n (x1 + (1 : Int32)) s0 (1 : Int32) M) fun v6 M6 =>
      zt v6 (some (v6, M6)))
    else if x5 = (4 : Int32) then
      (bnd (fR_means n (x1 + (1 : Int32)) s0 (1 : Int32) M) fun v8 M8 =>
      zt v8 (some (v8, M8)))
    else if x5 = (5 : Int32) then
      (if s0 < 0 then
        (zt (0 : Int32) (some ((0 : Int32), M)))
      else
        (if (9 : Int32) < s0 then (zt (0 : Int32) (some ((0 : Int32), M))) else (zt (1 : Int32) (some ((1 : Int32), M)))))
    else if x5 = (6 : Int32) then
      (if s0 < 0 then
        (zt (0 : Int32) (some ((0 : Int32), M)))
      else
        (if (9 : Int32) < s0 then (zt (0 : Int32) (some ((0 : Int32), M))) else (zt (1 : Int32) (some ((1 : Int32), M)))))
    else if x5 = (7 : Int32) then
      (if s0 < 0 then
        (zt (0 : Int32) (some ((0 : Int32), M)))
      else
        (if (4 : Int32) < s0 then (zt (0 : Int32) (some ((0 : Int32), M))) else (zt (1 : Int32) (some ((1 : Int32), M)))))
    else (zt (1 : Int32) (some ((1 : Int32), M)))
theorem wR_isActRight_b85 (X : gX p s m args meth c cX5_isActRight 7 RX5 (some .boolean) D (tyR cI cZ)) (n : Nat) (x1 : Int32) (x5 : Int32) (s0 : Int32) (M : MR) : gG p l e (rmR 3 65) s m args below meth c 7 (ZR D cI cZ q (AR q s.heap.size) s.heap M) 0 0 (fun r => MQ below (QI D cI cZ q s.heap.size r) args s 0 0 (AR q s.heap.size)) 85 [(0, .ref (q 34)), (1, .int x1), (5, .int x5)] [.int s0] (fR_isActRight_b85 n x1 x5 s0 M) := by
  unfold fR_isActRight_b85
  refine g_istore (lv' := [(6, .int s0), (0, .ref (q 34)), (1, .int x1), (5, .int x5)]) X dX5_isActRight_85 (by decide) rfl ?_
  refine g_iload X dX5_isActRight_87 rfl ?_
  refine g_ite (fun h1 => ?_) (fun h1 => ?_)
  · refine g_tIn (off := 43) (tgt := 132) X dX5_isActRight_89 (by rw [h1]; decide) (by rw [h1]; decide) (by rw [h1]; rfl) (by decide) ?_
    refine g_aload_n X dX5_isActRight_132 rfl rfl ?_
    refine g_iload_n X dX5_isActRight_133 rfl rfl ?_
    refine g_iconst (v := (1 : Int32)) X dX5_isActRight_134 (by decide) ?_
    refine g_iadd X dX5_isActRight_135 ?_
    refine g_iload X dX5_isActRight_136 rfl ?_
    refine g_iconst (v := (0 : Int32)) X dX5_isActRight_138 (by decide) ?_
    refine k_means X ⟨Nat.le_of_ble_eq_true rfl, Nat.le_of_ble_eq_true rfl⟩ (Nat.le_of_ble_eq_true rfl) dX5_isActRight_139 ?_
    intro v2 M2
    exact r_zret X dX5_isActRight_142
  have eh1 := tn_i (n := 1) h1 (by decide)
  refine g_ite (fun h3 => ?_) (fun h3 => ?_)
  · refine g_tIn (off := 54) (tgt := 143) X dX5_isActRight_89 (by rw [h3]; decide) (by rw [h3]; decide) (by rw [h3]; rfl) (by decide) ?_
    refine g_aload_n X dX5_isActRight_143 rfl rfl ?_
    refine g_iload_n X dX5_isActRight_144 rfl rfl ?_
    refine g_iconst (v := (1 : Int32)) X dX5_isActRight_145 (by decide) ?_
    refine g_iadd X dX5_isActRight_146 ?_
    refine g_iload X dX5_isActRight_147 rfl ?_
    refine g_iconst (v := (1 : Int32)) X dX5_isActRight_149 (by decide) ?_
    refine k_means X ⟨Nat.le_of_ble_eq_true rfl, Nat.le_of_ble_eq_true rfl⟩ (Nat.le_of_ble_eq_true rfl) dX5_isActRight_150 ?_
    intro v4 M4
    exact r_zret X dX5_isActRight_153
  have eh3 := tn_i (n := 2) h3 (by decide)
  refine g_ite (fun h5 => ?_) (fun h5 => ?_)
  · refine g_tIn (off := 54) (tgt := 143) X dX5_isActRight_89 (by rw [h5]; decide) (by rw [h5]; decide) (by rw [h5]; rfl) (by decide) ?_
    refine g_aload_n X dX5_isActRight_143 rfl rfl ?_
    refine g_iload_n X dX5_isActRight_144 rfl rfl ?_
    refine g_iconst (v := (1 : Int32)) X dX5_isActRight_145 (by decide) ?_
    refine g_iadd X dX5_isActRight_146 ?_
    refine g_iload X dX5_isActRight_147 rfl ?_
    refine g_iconst (v := (1 : Int32)) X dX5_isActRight_149 (by decide) ?_
    refine k_means X ⟨Nat.le_of_ble_eq_true rfl, Nat.le_of_ble_eq_true rfl⟩ (Nat.le_of_ble_eq_true rfl) dX5_isActRight_150 ?_
    intro v6 M6
    exact r_zret X dX5_isActRight_153
  have eh5 := tn_i (n := 3) h5 (by decide)
  refine g_ite (fun h7 => ?_) (fun h7 => ?_)
  · refine g_tIn (off := 54) (tgt := 143) X dX5_isActRight_89 (by rw [h7]; decide) (by rw [h7]; decide) (by rw [h7]; rfl) (by decide) ?_
    refine g_aload_n X dX5_isActRight_143 rfl rfl ?_
    refine g_iload_n X dX5_isActRight_144 rfl rfl ?_
    refine g_iconst (v := (1 : Int32)) X dX5_isActRight_145 (by decide) ?_
    refine g_iadd X dX5_isActRight_146 ?_
    refine g_iload X dX5_isActRight_147 rfl ?_
    refine g_iconst (v := (1 : Int32)) X dX5_isActRight_149 (by decide) ?_
    refine k_means X ⟨Nat.le_of_ble_eq_true rfl, Nat.le_of_ble_eq_true rfl⟩ (Nat.le_of_ble_eq_true rfl) dX5_isActRight_150 ?_
    intro v8 M8
    exact r_zret X dX5_isActRight_153
  have eh7 := tn_i (n := 4) h7 (by decide)
  refine g_ite (fun h9 => ?_) (fun h9 => ?_)
  · refine g_tIn (off := 65) (tgt := 154) X dX5_isActRight_89 (by rw [h9]; decide) (by rw [h9]; decide) (by rw [h9]; rfl) (by decide) ?_
    refine g_iload X dX5_isActRight_154 rfl ?_
    refine g_if_lt (tgt := 170) X dX5_isActRight_156 (by decide) ?_ ?_
    · refine g_iconst (v := (0 : Int32)) X dX5_isActRight_170 (by decide) ?_
      exact r_zret X dX5_isActRight_171
    · refine g_iload X dX5_isActRight_159 rfl ?_
      refine g_bipush (v := (9 : Int32)) X dX5_isActRight_161 (by decide) ?_
      refine g_icmp_gt (tgt := 170) X dX5_isActRight_163 (by decide) ?_ ?_
      · refine g_iconst (v := (0 : Int32)) X dX5_isActRight_170 (by decide) ?_
        exact r_zret X dX5_isActRight_171
      · refine g_iconst (v := (1 : Int32)) X dX5_isActRight_166 (by decide) ?_
        refine g_goto (tgt := 171) X dX5_isActRight_167 (by decide) ?_
        exact r_zret X dX5_isActRight_171
  have eh9 := tn_i (n := 5) h9 (by decide)
  refine g_ite (fun h10 => ?_) (fun h10 => ?_)
  · refine g_tIn (off := 65) (tgt := 154) X dX5_isActRight_89 (by rw [h10]; decide) (by rw [h10]; decide) (by rw [h10]; rfl) (by decide) ?_
    refine g_iload X dX5_isActRight_154 rfl ?_
    refine g_if_lt (tgt := 170) X dX5_isActRight_156 (by decide) ?_ ?_
    · refine g_iconst (v := (0 : Int32)) X dX5_isActRight_170 (by decide) ?_
      exact r_zret X dX5_isActRight_171
    · refine g_iload X dX5_isActRight_159 rfl ?_
      refine g_bipush (v := (9 : Int32)) X dX5_isActRight_161 (by decide) ?_
      refine g_icmp_gt (tgt := 170) X dX5_isActRight_163 (by decide) ?_ ?_
      · refine g_iconst (v := (0 : Int32)) X dX5_isActRight_170 (by decide) ?_
        exact r_zret X dX5_isActRight_171
      · refine g_iconst (v := (1 : Int32)) X dX5_isActRight_166 (by decide) ?_
        refine g_goto (tgt := 171) X dX5_isActRight_167 (by decide) ?_
        exact r_zret X dX5_isActRight_171
  have eh10 := tn_i (n := 6) h10 (by decide)
  refine g_ite (fun h11 => ?_) (fun h11 => ?_)
  · refine g_tIn (off := 83) (tgt := 172) X dX5_isActRight_89 (by rw [h11]; decide) (by rw [h11]; decide) (by rw [h11]; rfl) (by decide) ?_
    refine g_iload X dX5_isActRight_172 rfl ?_
    refine g_if_lt (tgt := 187) X dX5_isActRight_174 (by decide) ?_ ?_
    · refine g_iconst (v := (0 : Int32)) X dX5_isActRight_187 (by decide) ?_
      exact r_zret X dX5_isActRight_188
    · refine g_iload X dX5_isActRight_177 rfl ?_
      refine g_iconst (v := (4 : Int32)) X dX5_isActRight_179 (by decide) ?_
      refine g_icmp_gt (tgt := 187) X dX5_isActRight_180 (by decide) ?_ ?_
      · refine g_iconst (v := (0 : Int32)) X dX5_isActRight_187 (by decide) ?_
        exact r_zret X dX5_isActRight_188
      · refine g_iconst (v := (1 : Int32)) X dX5_isActRight_183 (by decide) ?_
        refine g_goto (tgt := 188) X dX5_isActRight_184 (by decide) ?_
        exact r_zret X dX5_isActRight_188
  have eh11 := tn_i (n := 7) h11 (by decide)
  refine g_tOut (tgt := 189) X dX5_isActRight_89 (by omega) (by decide) ?_
  refine g_iconst (v := (1 : Int32)) X dX5_isActRight_189 (by decide) ?_
  exact r_zret X dX5_isActRight_190
def fR_isActRight_b65 (n : Nat) (x1 : Int32) (x5 : Int32) (M : MR) : Option (Int32 × MR) :=
    bnd (fR_hasInt n x5 M) fun v1 M1 =>
    if v1 = 0 then
      (fR_isActRight_b85 n x1 x5 (0 : Int32) M1)
    else
      (rd M1 4 60 (x1 + (1 : Int32)) fun v2 =>
      fR_isActRight_b85 n x1 x5 v2 M1)
theorem wR_isActRight_b65 (X : gX p s m args meth c cX5_isActRight 7 RX5 (some .boolean) D (tyR cI cZ)) (n : Nat) (x1 : Int32) (x5 : Int32) (M : MR) : gG p l e (rmR 3 65) s m args below meth c 7 (ZR D cI cZ q (AR q s.heap.size) s.heap M) 0 0 (fun r => MQ below (QI D cI cZ q s.heap.size r) args s 0 0 (AR q s.heap.size)) 65 [(0, .ref (q 34)), (1, .int x1), (5, .int x5)] [] (fR_isActRight_b65 n x1 x5 M) := by
  unfold fR_isActRight_b65
  refine g_iload X dX5_isActRight_65 rfl ?_
  refine k_hasInt X ⟨Nat.le_of_ble_eq_true rfl, Nat.le_of_ble_eq_true rfl⟩ (Nat.le_of_ble_eq_true rfl) dX5_isActRight_67 ?_
  intro v1 M1
  refine g_if_eq (tgt := 84) X dX5_isActRight_70 (by decide) ?_ ?_
  · refine g_iconst (v := (0 : Int32)) X dX5_isActRight_84 (by decide) ?_
    exact g_pick [0, 1, 2] rfl (wR_isActRight_b85 X n x1 x5 (0 : Int32) M1)
  · refine g_aload_n X dX5_isActRight_73 rfl rfl ?_
    refine r_g_text X dX5_isActRight_74 ?_
    refine g_iload_n X dX5_isActRight_77 rfl rfl ?_
    refine g_iconst (v := (1 : Int32)) X dX5_isActRight_78 (by decide) ?_
    refine g_iadd X dX5_isActRight_79 ?_
    refine r_l_text X dX5_isActRight_80 ?_
    intro v2
    refine g_goto (tgt := 85) X dX5_isActRight_81 (by decide) ?_
    exact g_pick [0, 1, 2] rfl (wR_isActRight_b85 X n x1 x5 v2 M1)
def fR_isActRight_b58 (n : Nat) (x1 : Int32) (x4 : Int32) (x5 : Int32) (M : MR) : Option (Int32 × MR) :=
    if x4 = 0 then (zt (0 : Int32) (some ((0 : Int32), M))) else (fR_isActRight_b65 n x1 x5 M)
theorem wR_isActRight_b58 (X : gX p s m args meth c cX5_isActRight 7 RX5 (some .boolean) D (tyR cI cZ)) (n : Nat) (x1 : Int32) (x4 : Int32) (x5 : Int32) (M : MR) : gG p l e (rmR 3 65) s m args below meth c 7 (ZR D cI cZ q (AR q s.heap.size) s.heap M) 0 0 (fun r => MQ below (QI D cI cZ q s.heap.size r) args s 0 0 (AR q s.heap.size)) 58 [(0, .ref (q 34)), (1, .int x1), (4, .int x4), (5, .int x5)] [] (fR_isActRight_b58 n x1 x4 x5 M) := by
  unfold fR_isActRight_b58
  refine g_iload X dX5_isActRight_58 rfl ?_
  refine g_if_ne (tgt := 65) X dX5_isActRight_60 (by decide) ?_ ?_
  · exact g_pick [0, 1, 3] rfl (wR_isActRight_b65 X n x1 x5 M)
  · refine g_iconst (v := (0 : Int32)) X dX5_isActRight_63 (by decide) ?_
    exact r_zret X dX5_isActRight_64
def fR_isActRight_b35 (n : Nat) (x1 : Int32) (x3 : Int32) (x4 : Int32) (x5 : Int32) (M : MR) : Option (Int32 × MR) :=
    bnd (fR_takes n x5 M) fun v1 M1 =>
    if x3 < v1 then
      (zt (0 : Int32) (some ((0 : Int32), M1)))
    else
      (if x5 = (16 : Int32) then
        (fR_isActRight_b58 n x1 x4 x5 M1)
      else
        (if x5 = (17 : Int32) then (fR_isActRight_b58 n x1 x4 x5 M1) else (fR_isActRight_b65 n x1 x5 M1)))
theorem wR_isActRight_b35 (X : gX p s m args meth c cX5_isActRight 7 RX5 (some .boolean) D (tyR cI cZ)) (n : Nat) (x1 : Int32) (x3 : Int32) (x4 : Int32) (x5 : Int32) (M : MR) : gG p l e (rmR 3 65) s m args below meth c 7 (ZR D cI cZ q (AR q s.heap.size) s.heap M) 0 0 (fun r => MQ below (QI D cI cZ q s.heap.size r) args s 0 0 (AR q s.heap.size)) 35 [(0, .ref (q 34)), (1, .int x1), (3, .int x3), (4, .int x4), (5, .int x5)] [] (fR_isActRight_b35 n x1 x3 x4 x5 M) := by
  unfold fR_isActRight_b35
  refine g_iload X dX5_isActRight_35 rfl ?_
  refine k_takes X ⟨Nat.le_of_ble_eq_true rfl, Nat.le_of_ble_eq_true rfl⟩ (Nat.le_of_ble_eq_true rfl) dX5_isActRight_37 ?_
  intro v1 M1
  refine g_iload_n X dX5_isActRight_40 rfl rfl ?_
  refine g_icmp_gt (tgt := 63) X dX5_isActRight_41 (by decide) ?_ ?_
  · refine g_iconst (v := (0 : Int32)) X dX5_isActRight_63 (by decide) ?_
    exact r_zret X dX5_isActRight_64
  · refine g_iload X dX5_isActRight_44 rfl ?_
    refine g_bipush (v := (16 : Int32)) X dX5_isActRight_46 (by decide) ?_
    refine g_icmp_eq (tgt := 58) X dX5_isActRight_48 (by decide) ?_ ?_
    · exact g_pick [0, 1, 3, 4] rfl (wR_isActRight_b58 X n x1 x4 x5 M1)
    · refine g_iload X dX5_isActRight_51 rfl ?_
      refine g_bipush (v := (17 : Int32)) X dX5_isActRight_53 (by decide) ?_
      refine g_icmp_ne (tgt := 65) X dX5_isActRight_55 (by decide) ?_ ?_
      · exact g_pick [0, 1, 4] rfl (wR_isActRight_b65 X n x1 x5 M1)
      · exact g_pick [0, 1, 3, 4] rfl (wR_isActRight_b58 X n x1 x4 x5 M1)
def fR_isActRight (n : Nat) (x1 : Int32) (x2 : Int32) (x3 : Int32) (x4 : Int32) (M : MR) : Option (Int32 × MR) :=
    rd M 4 60 x1 fun v1 =>
    if v1 < 0 then
      (zt (0 : Int32) (some ((0 : Int32), M)))
    else
      (if (18 : Int32) < v1 then
        (zt (0 : Int32) (some ((0 : Int32), M)))
      else
        (bnd (fR_hasInt n v1 M) fun v2 M2 =>
        if v2 = 0 then
          (fR_isActRight_b35 n x1 x3 x4 v1 M2)
        else
          (if x2 ≤ (x1 + (1 : Int32)) then (zt (0 : Int32) (some ((0 : Int32), M2))) else (fR_isActRight_b35 n x1 x3 x4 v1 M2))))
theorem c_isActRight (l : Launch) (D : va_G) (cI cZ : ClassId) (q : Nat → Nat) (n : Nat) (x1 : Int32) (x2 : Int32) (x3 : Int32) (x4 : Int32) (M : MR) : MetR l D cI cZ q yX5_isActRight cX5_isActRight 7 (some .boolean) 3 65 QI [.ref (q 34), .int x1, .int x2, .int x3, .int x4] M (fR_isActRight n x1 x2 x3 x4 M) := by
  refine MetR.of (by decide) rfl (Nat.le_of_ble_eq_true rfl) ?_
  intro p e s m args below meth c X
  unfold fR_isActRight
  refine g_pick (lv' := [(0, .ref (q 34)), (1, .int x1), (2, .int x2), (3, .int x3), (4, .int x4)]) [0, 1, 2, 3, 4] rfl ?_
  refine g_aload_n X dX5_isActRight_0 rfl rfl ?_
  refine r_g_text X dX5_isActRight_1 ?_
  refine g_iload_n X dX5_isActRight_4 rfl rfl ?_
  refine r_l_text X dX5_isActRight_5 ?_
  intro v1
  refine g_istore (lv' := [(5, .int v1), (0, .ref (q 34)), (1, .int x1), (2, .int x2), (3, .int x3), (4, .int x4)]) X dX5_isActRight_6 (by decide) rfl ?_
  refine g_iload X dX5_isActRight_8 rfl ?_
  refine g_if_lt (tgt := 63) X dX5_isActRight_10 (by decide) ?_ ?_
  · refine g_iconst (v := (0 : Int32)) X dX5_isActRight_63 (by decide) ?_
    exact r_zret X dX5_isActRight_64
  · refine g_iload X dX5_isActRight_13 rfl ?_
    refine g_bipush (v := (18 : Int32)) X dX5_isActRight_15 (by decide) ?_
    refine g_icmp_gt (tgt := 63) X dX5_isActRight_17 (by decide) ?_ ?_
    · refine g_iconst (v := (0 : Int32)) X dX5_isActRight_63 (by decide) ?_
      exact r_zret X dX5_isActRight_64
    · refine g_iload X dX5_isActRight_20 rfl ?_
      refine k_hasInt X ⟨Nat.le_of_ble_eq_true rfl, Nat.le_of_ble_eq_true rfl⟩ (Nat.le_of_ble_eq_true rfl) dX5_isActRight_22 ?_
      intro v2 M2
      refine g_if_eq (tgt := 35) X dX5_isActRight_25 (by decide) ?_ ?_
      · exact g_pick [1, 2, 4, 5, 0] rfl (wR_isActRight_b35 X n x1 x3 x4 v1 M2)
      · refine g_iload_n X dX5_isActRight_28 rfl rfl ?_
        refine g_iconst (v := (1 : Int32)) X dX5_isActRight_29 (by decide) ?_
        refine g_iadd X dX5_isActRight_30 ?_
        refine g_iload_n X dX5_isActRight_31 rfl rfl ?_
        refine g_icmp_ge (tgt := 63) X dX5_isActRight_32 (by decide) ?_ ?_
        · refine g_iconst (v := (0 : Int32)) X dX5_isActRight_63 (by decide) ?_
          exact r_zret X dX5_isActRight_64
        · exact g_pick [1, 2, 4, 5, 0] rfl (wR_isActRight_b35 X n x1 x3 x4 v1 M2)
theorem tc_isActRight : Cond.code yX5_isActRight cX5_isActRight 7 (some .boolean) ∈ tt := tt_in (List.mem_of_getElem? (i := 907) (by decide +kernel)) (by decide +kernel)
theorem tl_isActRight : Cond.methodLink RX5 110 yX5_isActRight ∈ tt := tt_in (List.mem_of_getElem? (i := 904) (by decide +kernel)) (by decide +kernel)
theorem ti_isActRight : Cond.instanceMethod yX5_isActRight ∈ tt := tt_in (List.mem_of_getElem? (i := 906) (by decide +kernel)) (by decide +kernel)
theorem te_isActRight : Cond.selects RX5 yX5_isActRight yX5_isActRight ∈ tt := tt_in (List.mem_of_getElem? (i := 41) (by decide +kernel)) (by decide +kernel)
theorem k_isActRight (X : gX p s m args meth c cc nL RX5 rt D (tyR cI cZ)) {n : Nat} {x1 : Int32} {x2 : Int32} {x3 : Int32} {x4 : Int32} {M : MR} {rest : List Value} {K : Int32 → MR → Option ρ} (hR : 3 + 1 ≤ R.frames ∧ 8 + (7 + 11) + 65 ≤ R.locals) (hcat : (rest.map fun v => v.category).sum ≤ 8) (d : decode cc pc = .ok (.invokevirtual 110, 3)) (kk : ∀ v M1, gG p l e R s m args below meth c nL (ZR D cI cZ q (AR q s.heap.size) s.heap M1) 0 0 QQ (pc + 3) lv (.int v :: rest) (K v M1)) : gG p l e R s m args below meth c nL (ZR D cI cZ q (AR q s.heap.size) s.heap M) 0 0 QQ pc lv (.int x4 :: .int x3 :: .int x2 :: .int x1 :: .ref (q 34) :: rest) (bnd (fR_isActRight n x1 x2 x3 x4 M) K) := r_callVi (As := [.int x1, .int x2, .int x3, .int x4]) X (c_isActRight l D cI cZ q n x1 x2 x3 x4 M) (cwVR (k := 4) X.2.2.2.2.1 tl_isActRight ti_isActRight te_isActRight tc_isActRight ini5 (by decide +kernel) hR) rfl rfl hcat d kk
-- code
def fR_code_b69 (n : Nat) (k6 : Int32 → Int32 → Int32 → Int32 → MR → Option (Int32 × MR)) (x2 : Int32) (x3 : Int32) (x5 : Int32) (s0 : Int32) (s1 : Int32) (M : MR) : Option (Int32 × MR) :=
    k6 x2 x3 (s0 + s1) x5 M
theorem wR_code_b69 (X : gX p s m args meth c cX5_code 6 RX5 none D (tyR cI cZ)) (n : Nat) (k6 : Int32 → Int32 → Int32 → Int32 → MR → Option (Int32 × MR)) (hk6 : ∀ (x2 : Int32) (x3 : Int32) (x4 : Int32) (x5 : Int32) (M : MR), gG p l e (rmR 4 91) s m args below meth c 6 (ZR D cI cZ q (AR q s.heap.size) s.heap M) 0 0 (fun r => MQ below (QV D cI cZ q s.heap.size r) args s 0 0 (AR q s.heap.size)) 6 [(0, .ref (q 34)), (2, .int x2), (3, .int x3), (4, .int x4), (5, .int x5)] [] (k6 x2 x3 x4 x5 M)) (x2 : Int32) (x3 : Int32) (x5 : Int32) (s0 : Int32) (s1 : Int32) (M : MR) : gG p l e (rmR 4 91) s m args below meth c 6 (ZR D cI cZ q (AR q s.heap.size) s.heap M) 0 0 (fun r => MQ below (QV D cI cZ q s.heap.size r) args s 0 0 (AR q s.heap.size)) 69 [(0, .ref (q 34)), (2, .int x2), (3, .int x3), (5, .int x5)] [.int s1, .int s0] (fR_code_b69 n k6 x2 x3 x5 s0 s1 M) := by
  unfold fR_code_b69
  refine g_iadd X dX5_code_69 ?_
  refine g_istore (lv' := [(4, .int (s0 + s1)), (0, .ref (q 34)), (2, .int x2), (3, .int x3), (5, .int x5)]) X dX5_code_70 (by decide) rfl ?_
  refine g_goto (tgt := 6) X dX5_code_72 (by decide) ?_
  exact g_pick [1, 2, 3, 0, 4] rfl (hk6 x2 x3 (s0 + s1) x5 M)
def fR_code_b84 (n : Nat) (x2 : Int32) (x5 : Int32) (M : MR) : Option (Int32 × MR) :=
    gf M 7 fun v1 =>
    if 0 ≤ v1 then
      (some (0, M))
    else
      (if x5 = (1 : Int32) then
        (some (0, M))
      else
        (bnd (fR_wrong n x2 M) fun _ M2 =>
        some (0, M2)))
theorem wR_code_b84 (X : gX p s m args meth c cX5_code 6 RX5 none D (tyR cI cZ)) (n : Nat) (x2 : Int32) (x5 : Int32) (M : MR) : gG p l e (rmR 4 91) s m args below meth c 6 (ZR D cI cZ q (AR q s.heap.size) s.heap M) 0 0 (fun r => MQ below (QV D cI cZ q s.heap.size r) args s 0 0 (AR q s.heap.size)) 84 [(0, .ref (q 34)), (2, .int x2), (5, .int x5)] [] (fR_code_b84 n x2 x5 M) := by
  unfold fR_code_b84
  refine g_aload_n X dX5_code_84 rfl rfl ?_
  refine r_g_fault X dX5_code_85 ?_
  intro v1
  refine g_if_ge (tgt := 102) X dX5_code_88 (by decide) ?_ ?_
  · exact r_vret X dX5_code_102
  · refine g_iload X dX5_code_91 rfl ?_
    refine g_iconst (v := (1 : Int32)) X dX5_code_93 (by decide) ?_
    refine g_icmp_eq (tgt := 102) X dX5_code_94 (by decide) ?_ ?_
    · exact r_vret X dX5_code_102
    · refine g_aload_n X dX5_code_97 rfl rfl ?_
      refine g_iload_n X dX5_code_98 rfl rfl ?_
      refine k_wrong X ⟨Nat.le_of_ble_eq_true rfl, Nat.le_of_ble_eq_true rfl⟩ (Nat.le_of_ble_eq_true rfl) dX5_code_99 ?_
      intro v2 M2
      exact r_vret X dX5_code_102
def fR_code_l6 (n : Nat) : Nat → Int32 → Int32 → Int32 → Int32 → MR → Option (Int32 × MR)
  | 0, _, _, _, _, _ => none
  | k + 1, x2, x3, x4, x5, M => if x2 ≤ x4 then
      (fR_code_b84 n x2 x5 M)
    else
      (gf M 7 fun v1 =>
      if 0 ≤ v1 then
        (fR_code_b84 n x2 x5 M)
      else
        (bnd (fR_isActRight n x4 x2 x5 x3 M) fun v2 M2 =>
        if v2 = 0 then
          (bnd (fR_wrong n x4 M2) fun _ M3 =>
          (fR_code_l6 n k) x2 x3 x4 x5 M3)
        else
          (rd M2 4 60 x4 fun v4 =>
          bnd (fR_takes n v4 M2) fun v5 M5 =>
          rd M5 4 60 x4 fun v6 =>
          bnd (fR_hasInt n v6 M5) fun v7 M7 =>
          if v7 = 0 then
            (fR_code_b69 n (fR_code_l6 n k) x2 x3 (x5 + ((1 : Int32) - v5)) x4 (1 : Int32) M7)
          else
            (fR_code_b69 n (fR_code_l6 n k) x2 x3 (x5 + ((1 : Int32) - v5)) x4 (2 : Int32) M7))))
theorem wR_code_l6 (X : gX p s m args meth c cX5_code 6 RX5 none D (tyR cI cZ)) (n : Nat) : ∀ (k : Nat) (x2 : Int32) (x3 : Int32) (x4 : Int32) (x5 : Int32) (M : MR), gG p l e (rmR 4 91) s m args below meth c 6 (ZR D cI cZ q (AR q s.heap.size) s.heap M) 0 0 (fun r => MQ below (QV D cI cZ q s.heap.size r) args s 0 0 (AR q s.heap.size)) 6 [(0, .ref (q 34)), (2, .int x2), (3, .int x3), (4, .int x4), (5, .int x5)] [] (fR_code_l6 n k x2 x3 x4 x5 M) := by
  intro k
  induction k with
  | zero =>
    intro x2 x3 x4 x5 M
    exact g_none
  | succ k ih =>
    intro x2 x3 x4 x5 M
    rw [fR_code_l6]
    refine g_iload X dX5_code_6 rfl ?_
    refine g_iload_n X dX5_code_8 rfl rfl ?_
    refine g_icmp_ge (tgt := 84) X dX5_code_9 (by decide) ?_ ?_
    · exact g_pick [0, 1, 4] rfl (wR_code_b84 X n x2 x5 M)
    · refine g_aload_n X dX5_code_12 rfl rfl ?_
      refine r_g_fault X dX5_code_13 ?_
      intro v1
      refine g_if_ge (tgt := 84) X dX5_code_16 (by decide) ?_ ?_
      · exact g_pick [0, 1, 4] rfl (wR_code_b84 X n x2 x5 M)
      · refine g_aload_n X dX5_code_19 rfl rfl ?_
        refine g_iload X dX5_code_20 rfl ?_
        refine g_iload_n X dX5_code_22 rfl rfl ?_
        refine g_iload X dX5_code_23 rfl ?_
        refine g_iload_n X dX5_code_25 rfl rfl ?_
        refine k_isActRight X ⟨Nat.le_of_ble_eq_true rfl, Nat.le_of_ble_eq_true rfl⟩ (Nat.le_of_ble_eq_true rfl) dX5_code_26 ?_
        intro v2 M2
        refine g_if_eq (tgt := 75) X dX5_code_29 (by decide) ?_ ?_
        · refine g_aload_n X dX5_code_75 rfl rfl ?_
          refine g_iload X dX5_code_76 rfl ?_
          refine k_wrong X ⟨Nat.le_of_ble_eq_true rfl, Nat.le_of_ble_eq_true rfl⟩ (Nat.le_of_ble_eq_true rfl) dX5_code_78 ?_
          intro v3 M3
          refine g_goto (tgt := 6) X dX5_code_81 (by decide) ?_
          exact g_pick [0, 1, 2, 3, 4] rfl (ih x2 x3 x4 x5 M3)
        · refine g_iload X dX5_code_32 rfl ?_
          refine g_iconst (v := (1 : Int32)) X dX5_code_34 (by decide) ?_
          refine g_aload_n X dX5_code_35 rfl rfl ?_
          refine r_g_text X dX5_code_36 ?_
          refine g_iload X dX5_code_39 rfl ?_
          refine r_l_text X dX5_code_41 ?_
          intro v4
          refine k_takes X ⟨Nat.le_of_ble_eq_true rfl, Nat.le_of_ble_eq_true rfl⟩ (Nat.le_of_ble_eq_true rfl) dX5_code_42 ?_
          intro v5 M5
          refine g_isub X dX5_code_45 ?_
          refine g_iadd X dX5_code_46 ?_
          refine g_istore (lv' := [(5, .int (x5 + ((1 : Int32) - v5))), (0, .ref (q 34)), (2, .int x2), (3, .int x3), (4, .int x4)]) X dX5_code_47 (by decide) rfl ?_
          refine g_iload X dX5_code_49 rfl ?_
          refine g_aload_n X dX5_code_51 rfl rfl ?_
          refine r_g_text X dX5_code_52 ?_
          refine g_iload X dX5_code_55 rfl ?_
          refine r_l_text X dX5_code_57 ?_
          intro v6
          refine k_hasInt X ⟨Nat.le_of_ble_eq_true rfl, Nat.le_of_ble_eq_true rfl⟩ (Nat.le_of_ble_eq_true rfl) dX5_code_58 ?_
          intro v7 M7
          refine g_if_eq (tgt := 68) X dX5_code_61 (by decide) ?_ ?_
          · refine g_iconst (v := (1 : Int32)) X dX5_code_68 (by decide) ?_
            exact g_pick [1, 2, 3, 0] rfl (wR_code_b69 X n (fR_code_l6 n k) ih x2 x3 (x5 + ((1 : Int32) - v5)) x4 (1 : Int32) M7)
          · refine g_iconst (v := (2 : Int32)) X dX5_code_64 (by decide) ?_
            refine g_goto (tgt := 69) X dX5_code_65 (by decide) ?_
            exact g_pick [1, 2, 3, 0] rfl (wR_code_b69 X n (fR_code_l6 n k) ih x2 x3 (x5 + ((1 : Int32) - v5)) x4 (2 : Int32) M7)
def fR_code (n : Nat) (x1 : Int32) (x2 : Int32) (x3 : Int32) (M : MR) : Option (Int32 × MR) :=
    fR_code_l6 n n x2 x3 x1 (0 : Int32) M
theorem c_code (l : Launch) (D : va_G) (cI cZ : ClassId) (q : Nat → Nat) (n : Nat) (x1 : Int32) (x2 : Int32) (x3 : Int32) (M : MR) : MetR l D cI cZ q yX5_code cX5_code 6 none 4 91 QV [.ref (q 34), .int x1, .int x2, .int x3] M (fR_code n x1 x2 x3 M) := by
  refine MetR.of (by decide) rfl (Nat.le_of_ble_eq_true rfl) ?_
  intro p e s m args below meth c X
  unfold fR_code
  refine g_pick (lv' := [(0, .ref (q 34)), (1, .int x1), (2, .int x2), (3, .int x3)]) [0, 1, 2, 3] rfl ?_
  refine g_iload_n X dX5_code_0 rfl rfl ?_
  refine g_istore (lv' := [(4, .int x1), (0, .ref (q 34)), (1, .int x1), (2, .int x2), (3, .int x3)]) X dX5_code_1 (by decide) rfl ?_
  refine g_iconst (v := (0 : Int32)) X dX5_code_3 (by decide) ?_
  refine g_istore (lv' := [(5, .int (0 : Int32)), (4, .int x1), (0, .ref (q 34)), (1, .int x1), (2, .int x2), (3, .int x3)]) X dX5_code_4 (by decide) rfl ?_
  exact g_pick [2, 4, 5, 1, 0] rfl (wR_code_l6 X n n x2 x3 x1 (0 : Int32) M)
theorem tc_code : Cond.code yX5_code cX5_code 6 none ∈ tt := tt_in (List.mem_of_getElem? (i := 903) (by decide +kernel)) (by decide +kernel)
theorem tl_code : Cond.methodLink RX5 118 yX5_code ∈ tt := tt_in (List.mem_of_getElem? (i := 900) (by decide +kernel)) (by decide +kernel)
theorem ti_code : Cond.instanceMethod yX5_code ∈ tt := tt_in (List.mem_of_getElem? (i := 902) (by decide +kernel)) (by decide +kernel)
theorem te_code : Cond.selects RX5 yX5_code yX5_code ∈ tt := tt_in (List.mem_of_getElem? (i := 40) (by decide +kernel)) (by decide +kernel)
theorem k_code (X : gX p s m args meth c cc nL RX5 rt D (tyR cI cZ)) {n : Nat} {x1 : Int32} {x2 : Int32} {x3 : Int32} {M : MR} {rest : List Value} {K : Int32 → MR → Option ρ} (hR : 4 + 1 ≤ R.frames ∧ 8 + (6 + 11) + 91 ≤ R.locals) (hcat : (rest.map fun v => v.category).sum ≤ 8) (d : decode cc pc = .ok (.invokevirtual 118, 3)) (kk : ∀ v M1, gG p l e R s m args below meth c nL (ZR D cI cZ q (AR q s.heap.size) s.heap M1) 0 0 QQ (pc + 3) lv (rest) (K v M1)) : gG p l e R s m args below meth c nL (ZR D cI cZ q (AR q s.heap.size) s.heap M) 0 0 QQ pc lv (.int x3 :: .int x2 :: .int x1 :: .ref (q 34) :: rest) (bnd (fR_code n x1 x2 x3 M) K) := r_callVv (As := [.int x1, .int x2, .int x3]) X (c_code l D cI cZ q n x1 x2 x3 M) (cwVR (k := 3) X.2.2.2.2.1 tl_code ti_code te_code tc_code ini5 (by decide +kernel) hR) rfl rfl hcat d kk
end RM
end
section
theorem dX5_names_0 : decode cX5_names 0 = .ok (.iconst 0, 1) := by decide +kernel
theorem dX5_names_1 : decode cX5_names 1 = .ok (.istore 4, 2) := by decide +kernel
theorem dX5_names_3 : decode cX5_names 3 = .ok (.iconst 0, 1) := by decide +kernel
theorem dX5_names_4 : decode cX5_names 4 = .ok (.istore 5, 2) := by decide +kernel
theorem dX5_names_6 : decode cX5_names 6 = .ok (.iload 5, 2) := by decide +kernel
theorem dX5_names_8 : decode cX5_names 8 = .ok (.iload_n 1, 1) := by decide +kernel
theorem dX5_names_9 : decode cX5_names 9 = .ok (.if_icmp .ge 172, 3) := by decide +kernel
theorem dX5_names_12 : decode cX5_names 12 = .ok (.aload_n 0, 1) := by decide +kernel
theorem dX5_names_13 : decode cX5_names 13 = .ok (.getfield 84, 3) := by decide +kernel
theorem dX5_names_16 : decode cX5_names 16 = .ok (.ifCond .ge 165, 3) := by decide +kernel
theorem dX5_names_19 : decode cX5_names 19 = .ok (.aload_n 0, 1) := by decide +kernel
theorem dX5_names_20 : decode cX5_names 20 = .ok (.getfield 87, 3) := by decide +kernel
theorem dX5_names_23 : decode cX5_names 23 = .ok (.istore 6, 2) := by decide +kernel
theorem dX5_names_25 : decode cX5_names 25 = .ok (.aload_n 0, 1) := by decide +kernel
theorem dX5_names_26 : decode cX5_names 26 = .ok (.invokevirtual 114, 3) := by decide +kernel
theorem dX5_names_29 : decode cX5_names 29 = .ok (.istore 7, 2) := by decide +kernel
theorem dX5_names_31 : decode cX5_names 31 = .ok (.aload_n 0, 1) := by decide +kernel
theorem dX5_names_32 : decode cX5_names 32 = .ok (.getfield 84, 3) := by decide +kernel
theorem dX5_names_35 : decode cX5_names 35 = .ok (.ifCond .ge 31, 3) := by decide +kernel
theorem dX5_names_38 : decode cX5_names 38 = .ok (.iload 7, 2) := by decide +kernel
theorem dX5_names_40 : decode cX5_names 40 = .ok (.ifCond .lt 20, 3) := by decide +kernel
theorem dX5_names_43 : decode cX5_names 43 = .ok (.iload 7, 2) := by decide +kernel
theorem dX5_names_45 : decode cX5_names 45 = .ok (.iload_n 2, 1) := by decide +kernel
theorem dX5_names_46 : decode cX5_names 46 = .ok (.if_icmp .gt 14, 3) := by decide +kernel
theorem dX5_names_49 : decode cX5_names 49 = .ok (.iload 4, 2) := by decide +kernel
theorem dX5_names_51 : decode cX5_names 51 = .ok (.iload 7, 2) := by decide +kernel
theorem dX5_names_53 : decode cX5_names 53 = .ok (.ishr, 1) := by decide +kernel
theorem dX5_names_54 : decode cX5_names 54 = .ok (.iconst 1, 1) := by decide +kernel
theorem dX5_names_55 : decode cX5_names 55 = .ok (.iand, 1) := by decide +kernel
theorem dX5_names_56 : decode cX5_names 56 = .ok (.iconst 1, 1) := by decide +kernel
theorem dX5_names_57 : decode cX5_names 57 = .ok (.if_icmp .ne 9, 3) := by decide +kernel
theorem dX5_names_60 : decode cX5_names 60 = .ok (.aload_n 0, 1) := by decide +kernel
theorem dX5_names_61 : decode cX5_names 61 = .ok (.iload 6, 2) := by decide +kernel
theorem dX5_names_63 : decode cX5_names 63 = .ok (.invokevirtual 93, 3) := by decide +kernel
theorem dX5_names_66 : decode cX5_names 66 = .ok (.iload 4, 2) := by decide +kernel
theorem dX5_names_68 : decode cX5_names 68 = .ok (.aload_n 0, 1) := by decide +kernel
theorem dX5_names_69 : decode cX5_names 69 = .ok (.getfield 84, 3) := by decide +kernel
theorem dX5_names_72 : decode cX5_names 72 = .ok (.ifCond .ge 10, 3) := by decide +kernel
theorem dX5_names_75 : decode cX5_names 75 = .ok (.iconst 1, 1) := by decide +kernel
theorem dX5_names_76 : decode cX5_names 76 = .ok (.iload 7, 2) := by decide +kernel
theorem dX5_names_78 : decode cX5_names 78 = .ok (.ishl, 1) := by decide +kernel
theorem dX5_names_79 : decode cX5_names 79 = .ok (.goto 4, 3) := by decide +kernel
theorem dX5_names_82 : decode cX5_names 82 = .ok (.iconst 0, 1) := by decide +kernel
theorem dX5_names_83 : decode cX5_names 83 = .ok (.ior, 1) := by decide +kernel
theorem dX5_names_84 : decode cX5_names 84 = .ok (.istore 4, 2) := by decide +kernel
theorem dX5_names_86 : decode cX5_names 86 = .ok (.aload_n 0, 1) := by decide +kernel
theorem dX5_names_87 : decode cX5_names 87 = .ok (.getfield 87, 3) := by decide +kernel
theorem dX5_names_90 : decode cX5_names 90 = .ok (.istore 6, 2) := by decide +kernel
theorem dX5_names_92 : decode cX5_names 92 = .ok (.aload_n 0, 1) := by decide +kernel
theorem dX5_names_93 : decode cX5_names 93 = .ok (.getfield 84, 3) := by decide +kernel
theorem dX5_names_96 : decode cX5_names 96 = .ok (.ifCond .ge 10, 3) := by decide +kernel
theorem dX5_names_99 : decode cX5_names 99 = .ok (.aload_n 0, 1) := by decide +kernel
theorem dX5_names_100 : decode cX5_names 100 = .ok (.invokevirtual 114, 3) := by decide +kernel
theorem dX5_names_103 : decode cX5_names 103 = .ok (.goto 4, 3) := by decide +kernel
theorem dX5_names_106 : decode cX5_names 106 = .ok (.iconst 0, 1) := by decide +kernel
theorem dX5_names_107 : decode cX5_names 107 = .ok (.istore 8, 2) := by decide +kernel
theorem dX5_names_109 : decode cX5_names 109 = .ok (.iload_n 3, 1) := by decide +kernel
theorem dX5_names_110 : decode cX5_names 110 = .ok (.ifCond .eq 65, 3) := by decide +kernel
theorem dX5_names_113 : decode cX5_names 113 = .ok (.aload_n 0, 1) := by decide +kernel
theorem dX5_names_114 : decode cX5_names 114 = .ok (.getfield 84, 3) := by decide +kernel
theorem dX5_names_117 : decode cX5_names 117 = .ok (.ifCond .ge 58, 3) := by decide +kernel
theorem dX5_names_120 : decode cX5_names 120 = .ok (.iload 8, 2) := by decide +kernel
theorem dX5_names_122 : decode cX5_names 122 = .ok (.ifCond .lt 17, 3) := by decide +kernel
theorem dX5_names_125 : decode cX5_names 125 = .ok (.iload 8, 2) := by decide +kernel
theorem dX5_names_127 : decode cX5_names 127 = .ok (.aload_n 0, 1) := by decide +kernel
theorem dX5_names_128 : decode cX5_names 128 = .ok (.getfield 90, 3) := by decide +kernel
theorem dX5_names_131 : decode cX5_names 131 = .ok (.aload_n 0, 1) := by decide +kernel
theorem dX5_names_132 : decode cX5_names 132 = .ok (.getfield 87, 3) := by decide +kernel
theorem dX5_names_135 : decode cX5_names 135 = .ok (.isub, 1) := by decide +kernel
theorem dX5_names_136 : decode cX5_names 136 = .ok (.if_icmp .le 12, 3) := by decide +kernel
theorem dX5_names_139 : decode cX5_names 139 = .ok (.aload_n 0, 1) := by decide +kernel
theorem dX5_names_140 : decode cX5_names 140 = .ok (.iload 6, 2) := by decide +kernel
theorem dX5_names_142 : decode cX5_names 142 = .ok (.invokevirtual 93, 3) := by decide +kernel
theorem dX5_names_145 : decode cX5_names 145 = .ok (.goto 30, 3) := by decide +kernel
theorem dX5_names_148 : decode cX5_names 148 = .ok (.aload_n 0, 1) := by decide +kernel
theorem dX5_names_149 : decode cX5_names 149 = .ok (.aload_n 0, 1) := by decide +kernel
theorem dX5_names_150 : decode cX5_names 150 = .ok (.getfield 87, 3) := by decide +kernel
theorem dX5_names_153 : decode cX5_names 153 = .ok (.aload_n 0, 1) := by decide +kernel
theorem dX5_names_154 : decode cX5_names 154 = .ok (.getfield 87, 3) := by decide +kernel
theorem dX5_names_157 : decode cX5_names 157 = .ok (.iload 8, 2) := by decide +kernel
theorem dX5_names_159 : decode cX5_names 159 = .ok (.iadd, 1) := by decide +kernel
theorem dX5_names_160 : decode cX5_names 160 = .ok (.iconst 1, 1) := by decide +kernel
theorem dX5_names_161 : decode cX5_names 161 = .ok (.invokevirtual 118, 3) := by decide +kernel
theorem dX5_names_164 : decode cX5_names 164 = .ok (.aload_n 0, 1) := by decide +kernel
theorem dX5_names_165 : decode cX5_names 165 = .ok (.dup, 1) := by decide +kernel
theorem dX5_names_166 : decode cX5_names 166 = .ok (.getfield 87, 3) := by decide +kernel
theorem dX5_names_169 : decode cX5_names 169 = .ok (.iload 8, 2) := by decide +kernel
theorem dX5_names_171 : decode cX5_names 171 = .ok (.iadd, 1) := by decide +kernel
theorem dX5_names_172 : decode cX5_names 172 = .ok (.putfield 87, 3) := by decide +kernel
theorem dX5_names_175 : decode cX5_names 175 = .ok (.iinc 5 1, 3) := by decide +kernel
theorem dX5_names_178 : decode cX5_names 178 = .ok (.goto (-172), 3) := by decide +kernel
theorem dX5_names_181 : decode cX5_names 181 = .ok (.return_, 1) := by decide +kernel
theorem dX5_classText_0 : decode cX5_classText 0 = .ok (.aload_n 0, 1) := by decide +kernel
theorem dX5_classText_1 : decode cX5_classText 1 = .ok (.iconst 0, 1) := by decide +kernel
theorem dX5_classText_2 : decode cX5_classText 2 = .ok (.putfield 87, 3) := by decide +kernel
theorem dX5_classText_5 : decode cX5_classText 5 = .ok (.aload_n 0, 1) := by decide +kernel
theorem dX5_classText_6 : decode cX5_classText 6 = .ok (.invokevirtual 114, 3) := by decide +kernel
theorem dX5_classText_9 : decode cX5_classText 9 = .ok (.istore_n 1, 1) := by decide +kernel
theorem dX5_classText_10 : decode cX5_classText 10 = .ok (.aload_n 0, 1) := by decide +kernel
theorem dX5_classText_11 : decode cX5_classText 11 = .ok (.getfield 84, 3) := by decide +kernel
theorem dX5_classText_14 : decode cX5_classText 14 = .ok (.ifCond .ge 23, 3) := by decide +kernel
theorem dX5_classText_17 : decode cX5_classText 17 = .ok (.iload_n 1, 1) := by decide +kernel
theorem dX5_classText_18 : decode cX5_classText 18 = .ok (.iconst (-1), 1) := by decide +kernel
theorem dX5_classText_19 : decode cX5_classText 19 = .ok (.if_icmp .eq 18, 3) := by decide +kernel
theorem dX5_classText_22 : decode cX5_classText 22 = .ok (.aload_n 0, 1) := by decide +kernel
theorem dX5_classText_23 : decode cX5_classText 23 = .ok (.iconst 0, 1) := by decide +kernel
theorem dX5_classText_24 : decode cX5_classText 24 = .ok (.iload_n 1, 1) := by decide +kernel
theorem dX5_classText_25 : decode cX5_classText 25 = .ok (.iconst 1, 1) := by decide +kernel
theorem dX5_classText_26 : decode cX5_classText 26 = .ok (.invokevirtual 106, 3) := by decide +kernel
theorem dX5_classText_29 : decode cX5_classText 29 = .ok (.ifCond .ne 8, 3) := by decide +kernel
theorem dX5_classText_32 : decode cX5_classText 32 = .ok (.aload_n 0, 1) := by decide +kernel
theorem dX5_classText_33 : decode cX5_classText 33 = .ok (.iconst 0, 1) := by decide +kernel
theorem dX5_classText_34 : decode cX5_classText 34 = .ok (.invokevirtual 93, 3) := by decide +kernel
theorem dX5_classText_37 : decode cX5_classText 37 = .ok (.aload_n 0, 1) := by decide +kernel
theorem dX5_classText_38 : decode cX5_classText 38 = .ok (.getfield 87, 3) := by decide +kernel
theorem dX5_classText_41 : decode cX5_classText 41 = .ok (.istore_n 2, 1) := by decide +kernel
theorem dX5_classText_42 : decode cX5_classText 42 = .ok (.aload_n 0, 1) := by decide +kernel
theorem dX5_classText_43 : decode cX5_classText 43 = .ok (.getfield 84, 3) := by decide +kernel
theorem dX5_classText_46 : decode cX5_classText 46 = .ok (.ifCond .ge 10, 3) := by decide +kernel
theorem dX5_classText_49 : decode cX5_classText 49 = .ok (.aload_n 0, 1) := by decide +kernel
theorem dX5_classText_50 : decode cX5_classText 50 = .ok (.invokevirtual 114, 3) := by decide +kernel
theorem dX5_classText_53 : decode cX5_classText 53 = .ok (.goto 4, 3) := by decide +kernel
theorem dX5_classText_56 : decode cX5_classText 56 = .ok (.iconst 0, 1) := by decide +kernel
theorem dX5_classText_57 : decode cX5_classText 57 = .ok (.istore_n 3, 1) := by decide +kernel
theorem dX5_classText_58 : decode cX5_classText 58 = .ok (.aload_n 0, 1) := by decide +kernel
theorem dX5_classText_59 : decode cX5_classText 59 = .ok (.getfield 84, 3) := by decide +kernel
theorem dX5_classText_62 : decode cX5_classText 62 = .ok (.ifCond .ge 17, 3) := by decide +kernel
theorem dX5_classText_65 : decode cX5_classText 65 = .ok (.iload_n 3, 1) := by decide +kernel
theorem dX5_classText_66 : decode cX5_classText 66 = .ok (.ifCond .lt 8, 3) := by decide +kernel
theorem dX5_classText_69 : decode cX5_classText 69 = .ok (.iload_n 3, 1) := by decide +kernel
theorem dX5_classText_70 : decode cX5_classText 70 = .ok (.iconst 4, 1) := by decide +kernel
theorem dX5_classText_71 : decode cX5_classText 71 = .ok (.if_icmp .le 8, 3) := by decide +kernel
theorem dX5_classText_74 : decode cX5_classText 74 = .ok (.aload_n 0, 1) := by decide +kernel
theorem dX5_classText_75 : decode cX5_classText 75 = .ok (.iload_n 2, 1) := by decide +kernel
theorem dX5_classText_76 : decode cX5_classText 76 = .ok (.invokevirtual 93, 3) := by decide +kernel
theorem dX5_classText_79 : decode cX5_classText 79 = .ok (.aload_n 0, 1) := by decide +kernel
theorem dX5_classText_80 : decode cX5_classText 80 = .ok (.iload_n 3, 1) := by decide +kernel
theorem dX5_classText_81 : decode cX5_classText 81 = .ok (.bipush 9, 2) := by decide +kernel
theorem dX5_classText_83 : decode cX5_classText 83 = .ok (.iconst 0, 1) := by decide +kernel
theorem dX5_classText_84 : decode cX5_classText 84 = .ok (.invokevirtual 122, 3) := by decide +kernel
theorem dX5_classText_87 : decode cX5_classText 87 = .ok (.aload_n 0, 1) := by decide +kernel
theorem dX5_classText_88 : decode cX5_classText 88 = .ok (.getfield 87, 3) := by decide +kernel
theorem dX5_classText_91 : decode cX5_classText 91 = .ok (.istore_n 2, 1) := by decide +kernel
theorem dX5_classText_92 : decode cX5_classText 92 = .ok (.aload_n 0, 1) := by decide +kernel
theorem dX5_classText_93 : decode cX5_classText 93 = .ok (.getfield 84, 3) := by decide +kernel
theorem dX5_classText_96 : decode cX5_classText 96 = .ok (.ifCond .ge 10, 3) := by decide +kernel
theorem dX5_classText_99 : decode cX5_classText 99 = .ok (.aload_n 0, 1) := by decide +kernel
theorem dX5_classText_100 : decode cX5_classText 100 = .ok (.invokevirtual 114, 3) := by decide +kernel
theorem dX5_classText_103 : decode cX5_classText 103 = .ok (.goto 4, 3) := by decide +kernel
theorem dX5_classText_106 : decode cX5_classText 106 = .ok (.iconst 0, 1) := by decide +kernel
theorem dX5_classText_107 : decode cX5_classText 107 = .ok (.istore_n 3, 1) := by decide +kernel
theorem dX5_classText_108 : decode cX5_classText 108 = .ok (.aload_n 0, 1) := by decide +kernel
theorem dX5_classText_109 : decode cX5_classText 109 = .ok (.getfield 84, 3) := by decide +kernel
theorem dX5_classText_112 : decode cX5_classText 112 = .ok (.ifCond .ge 17, 3) := by decide +kernel
theorem dX5_classText_115 : decode cX5_classText 115 = .ok (.iload_n 3, 1) := by decide +kernel
theorem dX5_classText_116 : decode cX5_classText 116 = .ok (.ifCond .lt 8, 3) := by decide +kernel
theorem dX5_classText_119 : decode cX5_classText 119 = .ok (.iload_n 3, 1) := by decide +kernel
theorem dX5_classText_120 : decode cX5_classText 120 = .ok (.iconst 3, 1) := by decide +kernel
theorem dX5_classText_121 : decode cX5_classText 121 = .ok (.if_icmp .le 8, 3) := by decide +kernel
theorem dX5_classText_124 : decode cX5_classText 124 = .ok (.aload_n 0, 1) := by decide +kernel
theorem dX5_classText_125 : decode cX5_classText 125 = .ok (.iload_n 2, 1) := by decide +kernel
theorem dX5_classText_126 : decode cX5_classText 126 = .ok (.invokevirtual 93, 3) := by decide +kernel
theorem dX5_classText_129 : decode cX5_classText 129 = .ok (.aload_n 0, 1) := by decide +kernel
theorem dX5_classText_130 : decode cX5_classText 130 = .ok (.iload_n 3, 1) := by decide +kernel
theorem dX5_classText_131 : decode cX5_classText 131 = .ok (.iconst 4, 1) := by decide +kernel
theorem dX5_classText_132 : decode cX5_classText 132 = .ok (.iconst 1, 1) := by decide +kernel
theorem dX5_classText_133 : decode cX5_classText 133 = .ok (.invokevirtual 122, 3) := by decide +kernel
theorem dX5_classText_136 : decode cX5_classText 136 = .ok (.aload_n 0, 1) := by decide +kernel
theorem dX5_classText_137 : decode cX5_classText 137 = .ok (.getfield 84, 3) := by decide +kernel
theorem dX5_classText_140 : decode cX5_classText 140 = .ok (.ifCond .ge 27, 3) := by decide +kernel
theorem dX5_classText_143 : decode cX5_classText 143 = .ok (.aload_n 0, 1) := by decide +kernel
theorem dX5_classText_144 : decode cX5_classText 144 = .ok (.getfield 87, 3) := by decide +kernel
theorem dX5_classText_147 : decode cX5_classText 147 = .ok (.aload_n 0, 1) := by decide +kernel
theorem dX5_classText_148 : decode cX5_classText 148 = .ok (.getfield 90, 3) := by decide +kernel
theorem dX5_classText_151 : decode cX5_classText 151 = .ok (.if_icmp .ge 16, 3) := by decide +kernel
theorem dX5_classText_154 : decode cX5_classText 154 = .ok (.aload_n 0, 1) := by decide +kernel
theorem dX5_classText_155 : decode cX5_classText 155 = .ok (.aload_n 0, 1) := by decide +kernel
theorem dX5_classText_156 : decode cX5_classText 156 = .ok (.getfield 87, 3) := by decide +kernel
theorem dX5_classText_159 : decode cX5_classText 159 = .ok (.aload_n 0, 1) := by decide +kernel
theorem dX5_classText_160 : decode cX5_classText 160 = .ok (.getfield 90, 3) := by decide +kernel
theorem dX5_classText_163 : decode cX5_classText 163 = .ok (.iconst 0, 1) := by decide +kernel
theorem dX5_classText_164 : decode cX5_classText 164 = .ok (.invokevirtual 118, 3) := by decide +kernel
theorem dX5_classText_167 : decode cX5_classText 167 = .ok (.return_, 1) := by decide +kernel
theorem dX5_looked_0 : decode cX5_looked 0 = .ok (.aload_n 0, 1) := by decide +kernel
theorem dX5_looked_1 : decode cX5_looked 1 = .ok (.iconst (-1), 1) := by decide +kernel
theorem dX5_looked_2 : decode cX5_looked 2 = .ok (.putfield 84, 3) := by decide +kernel
theorem dX5_looked_5 : decode cX5_looked 5 = .ok (.iconst 0, 1) := by decide +kernel
theorem dX5_looked_6 : decode cX5_looked 6 = .ok (.istore_n 2, 1) := by decide +kernel
theorem dX5_looked_7 : decode cX5_looked 7 = .ok (.iload_n 2, 1) := by decide +kernel
theorem dX5_looked_8 : decode cX5_looked 8 = .ok (.sipush 150, 3) := by decide +kernel
theorem dX5_looked_11 : decode cX5_looked 11 = .ok (.if_icmp .ge 16, 3) := by decide +kernel
theorem dX5_looked_14 : decode cX5_looked 14 = .ok (.aload_n 0, 1) := by decide +kernel
theorem dX5_looked_15 : decode cX5_looked 15 = .ok (.getfield 27, 3) := by decide +kernel
theorem dX5_looked_18 : decode cX5_looked 18 = .ok (.iload_n 2, 1) := by decide +kernel
theorem dX5_looked_19 : decode cX5_looked 19 = .ok (.iconst 0, 1) := by decide +kernel
theorem dX5_looked_20 : decode cX5_looked 20 = .ok (.bastore, 1) := by decide +kernel
theorem dX5_looked_21 : decode cX5_looked 21 = .ok (.iinc 2 1, 3) := by decide +kernel
theorem dX5_looked_24 : decode cX5_looked 24 = .ok (.goto (-17), 3) := by decide +kernel
theorem dX5_looked_27 : decode cX5_looked 27 = .ok (.iconst 0, 1) := by decide +kernel
theorem dX5_looked_28 : decode cX5_looked 28 = .ok (.istore_n 2, 1) := by decide +kernel
theorem dX5_looked_29 : decode cX5_looked 29 = .ok (.iload_n 2, 1) := by decide +kernel
theorem dX5_looked_30 : decode cX5_looked 30 = .ok (.aload_n 0, 1) := by decide +kernel
theorem dX5_looked_31 : decode cX5_looked 31 = .ok (.getfield 90, 3) := by decide +kernel
theorem dX5_looked_34 : decode cX5_looked 34 = .ok (.if_icmp .ge 21, 3) := by decide +kernel
theorem dX5_looked_37 : decode cX5_looked 37 = .ok (.aload_n 0, 1) := by decide +kernel
theorem dX5_looked_38 : decode cX5_looked 38 = .ok (.getfield 24, 3) := by decide +kernel
theorem dX5_looked_41 : decode cX5_looked 41 = .ok (.iload_n 2, 1) := by decide +kernel
theorem dX5_looked_42 : decode cX5_looked 42 = .ok (.aload_n 0, 1) := by decide +kernel
theorem dX5_looked_43 : decode cX5_looked 43 = .ok (.getfield 21, 3) := by decide +kernel
theorem dX5_looked_46 : decode cX5_looked 46 = .ok (.iload_n 2, 1) := by decide +kernel
theorem dX5_looked_47 : decode cX5_looked 47 = .ok (.iaload, 1) := by decide +kernel
theorem dX5_looked_48 : decode cX5_looked 48 = .ok (.iastore, 1) := by decide +kernel
theorem dX5_looked_49 : decode cX5_looked 49 = .ok (.iinc 2 1, 3) := by decide +kernel
theorem dX5_looked_52 : decode cX5_looked 52 = .ok (.goto (-23), 3) := by decide +kernel
theorem dX5_looked_55 : decode cX5_looked 55 = .ok (.iload_n 1, 1) := by decide +kernel
theorem dX5_looked_56 : decode cX5_looked 56 = .ok (.ifCond .ne 16, 3) := by decide +kernel
theorem dX5_looked_59 : decode cX5_looked 59 = .ok (.aload_n 0, 1) := by decide +kernel
theorem dX5_looked_60 : decode cX5_looked 60 = .ok (.iconst 0, 1) := by decide +kernel
theorem dX5_looked_61 : decode cX5_looked 61 = .ok (.aload_n 0, 1) := by decide +kernel
theorem dX5_looked_62 : decode cX5_looked 62 = .ok (.getfield 90, 3) := by decide +kernel
theorem dX5_looked_65 : decode cX5_looked 65 = .ok (.iconst 0, 1) := by decide +kernel
theorem dX5_looked_66 : decode cX5_looked 66 = .ok (.invokevirtual 118, 3) := by decide +kernel
theorem dX5_looked_69 : decode cX5_looked 69 = .ok (.goto 7, 3) := by decide +kernel
theorem dX5_looked_72 : decode cX5_looked 72 = .ok (.aload_n 0, 1) := by decide +kernel
theorem dX5_looked_73 : decode cX5_looked 73 = .ok (.invokevirtual 125, 3) := by decide +kernel
theorem dX5_looked_76 : decode cX5_looked 76 = .ok (.aload_n 0, 1) := by decide +kernel
theorem dX5_looked_77 : decode cX5_looked 77 = .ok (.getfield 84, 3) := by decide +kernel
theorem dX5_looked_80 : decode cX5_looked 80 = .ok (.ireturn, 1) := by decide +kernel
theorem dX5_textOf_0 : decode cX5_textOf 0 = .ok (.aload_n 0, 1) := by decide +kernel
theorem dX5_textOf_1 : decode cX5_textOf 1 = .ok (.getfield 8, 3) := by decide +kernel
theorem dX5_textOf_4 : decode cX5_textOf 4 = .ok (.iload_n 1, 1) := by decide +kernel
theorem dX5_textOf_5 : decode cX5_textOf 5 = .ok (.invokestatic 73, 3) := by decide +kernel
theorem dX5_textOf_8 : decode cX5_textOf 8 = .ok (.bipush 8, 2) := by decide +kernel
theorem dX5_textOf_10 : decode cX5_textOf 10 = .ok (.iadd, 1) := by decide +kernel
theorem dX5_textOf_11 : decode cX5_textOf 11 = .ok (.iload_n 2, 1) := by decide +kernel
theorem dX5_textOf_12 : decode cX5_textOf 12 = .ok (.iadd, 1) := by decide +kernel
theorem dX5_textOf_13 : decode cX5_textOf 13 = .ok (.iaload, 1) := by decide +kernel
theorem dX5_textOf_14 : decode cX5_textOf 14 = .ok (.ireturn, 1) := by decide +kernel
theorem dX5_parentOf_0 : decode cX5_parentOf 0 = .ok (.aload_n 0, 1) := by decide +kernel
theorem dX5_parentOf_1 : decode cX5_parentOf 1 = .ok (.iload_n 1, 1) := by decide +kernel
theorem dX5_parentOf_2 : decode cX5_parentOf 2 = .ok (.iconst 0, 1) := by decide +kernel
theorem dX5_parentOf_3 : decode cX5_parentOf 3 = .ok (.invokevirtual 128, 3) := by decide +kernel
theorem dX5_parentOf_6 : decode cX5_parentOf 6 = .ok (.ireturn, 1) := by decide +kernel
theorem dX5_ownField_0 : decode cX5_ownField 0 = .ok (.iconst 0, 1) := by decide +kernel
theorem dX5_ownField_1 : decode cX5_ownField 1 = .ok (.istore_n 3, 1) := by decide +kernel
theorem dX5_ownField_2 : decode cX5_ownField 2 = .ok (.iload_n 3, 1) := by decide +kernel
theorem dX5_ownField_3 : decode cX5_ownField 3 = .ok (.aload_n 0, 1) := by decide +kernel
theorem dX5_ownField_4 : decode cX5_ownField 4 = .ok (.iload_n 1, 1) := by decide +kernel
theorem dX5_ownField_5 : decode cX5_ownField 5 = .ok (.iconst 1, 1) := by decide +kernel
theorem dX5_ownField_6 : decode cX5_ownField 6 = .ok (.invokevirtual 128, 3) := by decide +kernel
theorem dX5_ownField_9 : decode cX5_ownField 9 = .ok (.if_icmp .ge 29, 3) := by decide +kernel
theorem dX5_ownField_12 : decode cX5_ownField 12 = .ok (.aload_n 0, 1) := by decide +kernel
theorem dX5_ownField_13 : decode cX5_ownField 13 = .ok (.iload_n 1, 1) := by decide +kernel
theorem dX5_ownField_14 : decode cX5_ownField 14 = .ok (.iconst 2, 1) := by decide +kernel
theorem dX5_ownField_15 : decode cX5_ownField 15 = .ok (.iconst 2, 1) := by decide +kernel
theorem dX5_ownField_16 : decode cX5_ownField 16 = .ok (.iload_n 3, 1) := by decide +kernel
theorem dX5_ownField_17 : decode cX5_ownField 17 = .ok (.imul, 1) := by decide +kernel
theorem dX5_ownField_18 : decode cX5_ownField 18 = .ok (.iadd, 1) := by decide +kernel
theorem dX5_ownField_19 : decode cX5_ownField 19 = .ok (.invokevirtual 128, 3) := by decide +kernel
theorem dX5_ownField_22 : decode cX5_ownField 22 = .ok (.iload_n 2, 1) := by decide +kernel
theorem dX5_ownField_23 : decode cX5_ownField 23 = .ok (.if_icmp .ne 9, 3) := by decide +kernel
theorem dX5_ownField_26 : decode cX5_ownField 26 = .ok (.iconst 3, 1) := by decide +kernel
theorem dX5_ownField_27 : decode cX5_ownField 27 = .ok (.iconst 2, 1) := by decide +kernel
theorem dX5_ownField_28 : decode cX5_ownField 28 = .ok (.iload_n 3, 1) := by decide +kernel
theorem dX5_ownField_29 : decode cX5_ownField 29 = .ok (.imul, 1) := by decide +kernel
theorem dX5_ownField_30 : decode cX5_ownField 30 = .ok (.iadd, 1) := by decide +kernel
theorem dX5_ownField_31 : decode cX5_ownField 31 = .ok (.ireturn, 1) := by decide +kernel
theorem dX5_ownField_32 : decode cX5_ownField 32 = .ok (.iinc 3 1, 3) := by decide +kernel
theorem dX5_ownField_35 : decode cX5_ownField 35 = .ok (.goto (-33), 3) := by decide +kernel
theorem dX5_ownField_38 : decode cX5_ownField 38 = .ok (.iconst (-1), 1) := by decide +kernel
theorem dX5_ownField_39 : decode cX5_ownField 39 = .ok (.ireturn, 1) := by decide +kernel
theorem dX5_place0_0 : decode cX5_place0 0 = .ok (.iconst 2, 1) := by decide +kernel
theorem dX5_place0_1 : decode cX5_place0 1 = .ok (.iconst 2, 1) := by decide +kernel
theorem dX5_place0_2 : decode cX5_place0 2 = .ok (.aload_n 0, 1) := by decide +kernel
theorem dX5_place0_3 : decode cX5_place0 3 = .ok (.iload_n 1, 1) := by decide +kernel
theorem dX5_place0_4 : decode cX5_place0 4 = .ok (.iconst 1, 1) := by decide +kernel
theorem dX5_place0_5 : decode cX5_place0 5 = .ok (.invokevirtual 128, 3) := by decide +kernel
theorem dX5_place0_8 : decode cX5_place0 8 = .ok (.imul, 1) := by decide +kernel
theorem dX5_place0_9 : decode cX5_place0 9 = .ok (.iadd, 1) := by decide +kernel
theorem dX5_place0_10 : decode cX5_place0 10 = .ok (.ireturn, 1) := by decide +kernel
theorem dX5_methodPlace_0 : decode cX5_methodPlace 0 = .ok (.iconst 3, 1) := by decide +kernel
theorem dX5_methodPlace_1 : decode cX5_methodPlace 1 = .ok (.iconst 2, 1) := by decide +kernel
theorem dX5_methodPlace_2 : decode cX5_methodPlace 2 = .ok (.aload_n 0, 1) := by decide +kernel
theorem dX5_methodPlace_3 : decode cX5_methodPlace 3 = .ok (.iload_n 1, 1) := by decide +kernel
theorem dX5_methodPlace_4 : decode cX5_methodPlace 4 = .ok (.iconst 1, 1) := by decide +kernel
theorem dX5_methodPlace_5 : decode cX5_methodPlace 5 = .ok (.invokevirtual 128, 3) := by decide +kernel
theorem dX5_methodPlace_8 : decode cX5_methodPlace 8 = .ok (.imul, 1) := by decide +kernel
theorem dX5_methodPlace_9 : decode cX5_methodPlace 9 = .ok (.iadd, 1) := by decide +kernel
theorem dX5_methodPlace_10 : decode cX5_methodPlace 10 = .ok (.istore_n 3, 1) := by decide +kernel
theorem dX5_methodPlace_11 : decode cX5_methodPlace 11 = .ok (.iconst 0, 1) := by decide +kernel
theorem dX5_methodPlace_12 : decode cX5_methodPlace 12 = .ok (.istore 4, 2) := by decide +kernel
theorem dX5_methodPlace_14 : decode cX5_methodPlace 14 = .ok (.iload 4, 2) := by decide +kernel
theorem dX5_methodPlace_16 : decode cX5_methodPlace 16 = .ok (.iload_n 2, 1) := by decide +kernel
theorem dX5_methodPlace_17 : decode cX5_methodPlace 17 = .ok (.if_icmp .ge 22, 3) := by decide +kernel
theorem dX5_methodPlace_20 : decode cX5_methodPlace 20 = .ok (.iload_n 3, 1) := by decide +kernel
theorem dX5_methodPlace_21 : decode cX5_methodPlace 21 = .ok (.iconst 2, 1) := by decide +kernel
theorem dX5_methodPlace_22 : decode cX5_methodPlace 22 = .ok (.aload_n 0, 1) := by decide +kernel
theorem dX5_methodPlace_23 : decode cX5_methodPlace 23 = .ok (.iload_n 1, 1) := by decide +kernel
theorem dX5_methodPlace_24 : decode cX5_methodPlace 24 = .ok (.iload_n 3, 1) := by decide +kernel
theorem dX5_methodPlace_25 : decode cX5_methodPlace 25 = .ok (.iconst 1, 1) := by decide +kernel
theorem dX5_methodPlace_26 : decode cX5_methodPlace 26 = .ok (.iadd, 1) := by decide +kernel
theorem dX5_methodPlace_27 : decode cX5_methodPlace 27 = .ok (.invokevirtual 128, 3) := by decide +kernel
theorem dX5_methodPlace_30 : decode cX5_methodPlace 30 = .ok (.iadd, 1) := by decide +kernel
theorem dX5_methodPlace_31 : decode cX5_methodPlace 31 = .ok (.iadd, 1) := by decide +kernel
theorem dX5_methodPlace_32 : decode cX5_methodPlace 32 = .ok (.istore_n 3, 1) := by decide +kernel
theorem dX5_methodPlace_33 : decode cX5_methodPlace 33 = .ok (.iinc 4 1, 3) := by decide +kernel
theorem dX5_methodPlace_36 : decode cX5_methodPlace 36 = .ok (.goto (-22), 3) := by decide +kernel
theorem dX5_methodPlace_39 : decode cX5_methodPlace 39 = .ok (.iload_n 2, 1) := by decide +kernel
theorem dX5_methodPlace_40 : decode cX5_methodPlace 40 = .ok (.aload_n 0, 1) := by decide +kernel
theorem dX5_methodPlace_41 : decode cX5_methodPlace 41 = .ok (.iload_n 1, 1) := by decide +kernel
theorem dX5_methodPlace_42 : decode cX5_methodPlace 42 = .ok (.aload_n 0, 1) := by decide +kernel
theorem dX5_methodPlace_43 : decode cX5_methodPlace 43 = .ok (.iload_n 1, 1) := by decide +kernel
theorem dX5_methodPlace_44 : decode cX5_methodPlace 44 = .ok (.invokevirtual 132, 3) := by decide +kernel
theorem dX5_methodPlace_47 : decode cX5_methodPlace 47 = .ok (.invokevirtual 128, 3) := by decide +kernel
theorem dX5_methodPlace_50 : decode cX5_methodPlace 50 = .ok (.if_icmp .ge 9, 3) := by decide +kernel
theorem dX5_methodPlace_53 : decode cX5_methodPlace 53 = .ok (.iload_n 3, 1) := by decide +kernel
theorem dX5_methodPlace_54 : decode cX5_methodPlace 54 = .ok (.iconst 1, 1) := by decide +kernel
theorem dX5_methodPlace_55 : decode cX5_methodPlace 55 = .ok (.iadd, 1) := by decide +kernel
theorem dX5_methodPlace_56 : decode cX5_methodPlace 56 = .ok (.goto 4, 3) := by decide +kernel
theorem dX5_methodPlace_59 : decode cX5_methodPlace 59 = .ok (.iload_n 3, 1) := by decide +kernel
theorem dX5_methodPlace_60 : decode cX5_methodPlace 60 = .ok (.ireturn, 1) := by decide +kernel
theorem dX5_ownMethod_0 : decode cX5_ownMethod 0 = .ok (.iconst 0, 1) := by decide +kernel
theorem dX5_ownMethod_1 : decode cX5_ownMethod 1 = .ok (.istore_n 3, 1) := by decide +kernel
theorem dX5_ownMethod_2 : decode cX5_ownMethod 2 = .ok (.iload_n 3, 1) := by decide +kernel
theorem dX5_ownMethod_3 : decode cX5_ownMethod 3 = .ok (.aload_n 0, 1) := by decide +kernel
theorem dX5_ownMethod_4 : decode cX5_ownMethod 4 = .ok (.iload_n 1, 1) := by decide +kernel
theorem dX5_ownMethod_5 : decode cX5_ownMethod 5 = .ok (.aload_n 0, 1) := by decide +kernel
theorem dX5_ownMethod_6 : decode cX5_ownMethod 6 = .ok (.iload_n 1, 1) := by decide +kernel
theorem dX5_ownMethod_7 : decode cX5_ownMethod 7 = .ok (.invokevirtual 132, 3) := by decide +kernel
theorem dX5_ownMethod_10 : decode cX5_ownMethod 10 = .ok (.invokevirtual 128, 3) := by decide +kernel
theorem dX5_ownMethod_13 : decode cX5_ownMethod 13 = .ok (.if_icmp .ge 33, 3) := by decide +kernel
theorem dX5_ownMethod_16 : decode cX5_ownMethod 16 = .ok (.aload_n 0, 1) := by decide +kernel
theorem dX5_ownMethod_17 : decode cX5_ownMethod 17 = .ok (.iload_n 1, 1) := by decide +kernel
theorem dX5_ownMethod_18 : decode cX5_ownMethod 18 = .ok (.iload_n 3, 1) := by decide +kernel
theorem dX5_ownMethod_19 : decode cX5_ownMethod 19 = .ok (.invokevirtual 135, 3) := by decide +kernel
theorem dX5_ownMethod_22 : decode cX5_ownMethod 22 = .ok (.istore 4, 2) := by decide +kernel
theorem dX5_ownMethod_24 : decode cX5_ownMethod 24 = .ok (.aload_n 0, 1) := by decide +kernel
theorem dX5_ownMethod_25 : decode cX5_ownMethod 25 = .ok (.iload_n 1, 1) := by decide +kernel
theorem dX5_ownMethod_26 : decode cX5_ownMethod 26 = .ok (.iload 4, 2) := by decide +kernel
theorem dX5_ownMethod_28 : decode cX5_ownMethod 28 = .ok (.iconst 1, 1) := by decide +kernel
theorem dX5_ownMethod_29 : decode cX5_ownMethod 29 = .ok (.isub, 1) := by decide +kernel
theorem dX5_ownMethod_30 : decode cX5_ownMethod 30 = .ok (.invokevirtual 128, 3) := by decide +kernel
theorem dX5_ownMethod_33 : decode cX5_ownMethod 33 = .ok (.iload_n 2, 1) := by decide +kernel
theorem dX5_ownMethod_34 : decode cX5_ownMethod 34 = .ok (.if_icmp .ne 6, 3) := by decide +kernel
theorem dX5_ownMethod_37 : decode cX5_ownMethod 37 = .ok (.iload 4, 2) := by decide +kernel
theorem dX5_ownMethod_39 : decode cX5_ownMethod 39 = .ok (.ireturn, 1) := by decide +kernel
theorem dX5_ownMethod_40 : decode cX5_ownMethod 40 = .ok (.iinc 3 1, 3) := by decide +kernel
theorem dX5_ownMethod_43 : decode cX5_ownMethod 43 = .ok (.goto (-41), 3) := by decide +kernel
theorem dX5_ownMethod_46 : decode cX5_ownMethod 46 = .ok (.iconst (-1), 1) := by decide +kernel
theorem dX5_ownMethod_47 : decode cX5_ownMethod 47 = .ok (.ireturn, 1) := by decide +kernel
theorem dX5_startPlace_0 : decode cX5_startPlace 0 = .ok (.aload_n 0, 1) := by decide +kernel
theorem dX5_startPlace_1 : decode cX5_startPlace 1 = .ok (.iload_n 1, 1) := by decide +kernel
theorem dX5_startPlace_2 : decode cX5_startPlace 2 = .ok (.aload_n 0, 1) := by decide +kernel
theorem dX5_startPlace_3 : decode cX5_startPlace 3 = .ok (.iload_n 1, 1) := by decide +kernel
theorem dX5_startPlace_4 : decode cX5_startPlace 4 = .ok (.aload_n 0, 1) := by decide +kernel
theorem dX5_startPlace_5 : decode cX5_startPlace 5 = .ok (.iload_n 1, 1) := by decide +kernel
theorem dX5_startPlace_6 : decode cX5_startPlace 6 = .ok (.invokevirtual 132, 3) := by decide +kernel
theorem dX5_startPlace_9 : decode cX5_startPlace 9 = .ok (.invokevirtual 128, 3) := by decide +kernel
theorem dX5_startPlace_12 : decode cX5_startPlace 12 = .ok (.invokevirtual 135, 3) := by decide +kernel
theorem dX5_startPlace_15 : decode cX5_startPlace 15 = .ok (.ireturn, 1) := by decide +kernel
theorem dX5_lengthOf_0 : decode cX5_lengthOf 0 = .ok (.aload_n 0, 1) := by decide +kernel
theorem dX5_lengthOf_1 : decode cX5_lengthOf 1 = .ok (.getfield 8, 3) := by decide +kernel
theorem dX5_lengthOf_4 : decode cX5_lengthOf 4 = .ok (.iload_n 1, 1) := by decide +kernel
theorem dX5_lengthOf_5 : decode cX5_lengthOf 5 = .ok (.invokestatic 73, 3) := by decide +kernel
theorem dX5_lengthOf_8 : decode cX5_lengthOf 8 = .ok (.bipush 7, 2) := by decide +kernel
theorem dX5_lengthOf_10 : decode cX5_lengthOf 10 = .ok (.iadd, 1) := by decide +kernel
theorem dX5_lengthOf_11 : decode cX5_lengthOf 11 = .ok (.iaload, 1) := by decide +kernel
theorem dX5_lengthOf_12 : decode cX5_lengthOf 12 = .ok (.ireturn, 1) := by decide +kernel
theorem dX5_isBelow_0 : decode cX5_isBelow 0 = .ok (.iload_n 1, 1) := by decide +kernel
theorem dX5_isBelow_1 : decode cX5_isBelow 1 = .ok (.istore_n 3, 1) := by decide +kernel
theorem dX5_isBelow_2 : decode cX5_isBelow 2 = .ok (.iload_n 3, 1) := by decide +kernel
theorem dX5_isBelow_3 : decode cX5_isBelow 3 = .ok (.ifCond .lt 17, 3) := by decide +kernel
theorem dX5_isBelow_6 : decode cX5_isBelow 6 = .ok (.iload_n 3, 1) := by decide +kernel
theorem dX5_isBelow_7 : decode cX5_isBelow 7 = .ok (.iload_n 2, 1) := by decide +kernel
theorem dX5_isBelow_8 : decode cX5_isBelow 8 = .ok (.if_icmp .eq 12, 3) := by decide +kernel
theorem dX5_isBelow_11 : decode cX5_isBelow 11 = .ok (.aload_n 0, 1) := by decide +kernel
theorem dX5_isBelow_12 : decode cX5_isBelow 12 = .ok (.iload_n 3, 1) := by decide +kernel
theorem dX5_isBelow_13 : decode cX5_isBelow 13 = .ok (.invokevirtual 138, 3) := by decide +kernel
theorem dX5_isBelow_16 : decode cX5_isBelow 16 = .ok (.istore_n 3, 1) := by decide +kernel
theorem dX5_isBelow_17 : decode cX5_isBelow 17 = .ok (.goto (-15), 3) := by decide +kernel
theorem dX5_isBelow_20 : decode cX5_isBelow 20 = .ok (.iload_n 3, 1) := by decide +kernel
theorem dX5_isBelow_21 : decode cX5_isBelow 21 = .ok (.iload_n 2, 1) := by decide +kernel
theorem dX5_isBelow_22 : decode cX5_isBelow 22 = .ok (.if_icmp .ne 7, 3) := by decide +kernel
theorem dX5_isBelow_25 : decode cX5_isBelow 25 = .ok (.iconst 1, 1) := by decide +kernel
theorem dX5_isBelow_26 : decode cX5_isBelow 26 = .ok (.goto 4, 3) := by decide +kernel
theorem dX5_isBelow_29 : decode cX5_isBelow 29 = .ok (.iconst 0, 1) := by decide +kernel
theorem dX5_isBelow_30 : decode cX5_isBelow 30 = .ok (.ireturn, 1) := by decide +kernel
section RM
variable {ρ : Type} {p : Program} {l : Launch} {e : Env} {R : Room} {s : State} {m : MethodId} {args : Array Value} {below : List Frame} {meth : Method} {c : Code}
variable {cc : ByteArray} {nL : Nat} {rt : Option FieldType} {D : va_G} {cI cZ : ClassId} {q : Nat → Nat} {QQ : ρ → State → Prop} {pc : Nat} {lv : List (Nat × Value)}

-- names
def fR_names_b175 (n : Nat) (k6 : Int32 → Int32 → Int32 → Int32 → Int32 → MR → Option (Int32 × MR)) (x1 : Int32) (x2 : Int32) (x3 : Int32) (x4 : Int32) (x5 : Int32) (M : MR) : Option (Int32 × MR) :=
    k6 x1 x2 x3 x4 (x5 + (1 : Int32)) M
theorem wR_names_b175 (X : gX p s m args meth c cX5_names 9 RX5 none D (tyR cI cZ)) (n : Nat) (k6 : Int32 → Int32 → Int32 → Int32 → Int32 → MR → Option (Int32 × MR)) (hk6 : ∀ (x1 : Int32) (x2 : Int32) (x3 : Int32) (x4 : Int32) (x5 : Int32) (M : MR), gG p l e (rmR 5 116) s m args below meth c 9 (ZR D cI cZ q (AR q s.heap.size) s.heap M) 0 0 (fun r => MQ below (QV D cI cZ q s.heap.size r) args s 0 0 (AR q s.heap.size)) 6 [(0, .ref (q 34)), (1, .int x1), (2, .int x2), (3, .int x3), (4, .int x4), (5, .int x5)] [] (k6 x1 x2 x3 x4 x5 M)) (x1 : Int32) (x2 : Int32) (x3 : Int32) (x4 : Int32) (x5 : Int32) (M : MR) : gG p l e (rmR 5 116) s m args below meth c 9 (ZR D cI cZ q (AR q s.heap.size) s.heap M) 0 0 (fun r => MQ below (QV D cI cZ q s.heap.size r) args s 0 0 (AR q s.heap.size)) 175 [(0, .ref (q 34)), (1, .int x1), (2, .int x2), (3, .int x3), (4, .int x4), (5, .int x5)] [] (fR_names_b175 n k6 x1 x2 x3 x4 x5 M) := by
  unfold fR_names_b175
  refine g_iinc (v := (1 : Int32)) (lv' := [(5, .int (x5 + (1 : Int32))), (0, .ref (q 34)), (1, .int x1), (2, .int x2), (3, .int x3), (4, .int x4)]) X dX5_names_175 rfl (by decide) (by decide) rfl ?_
  refine g_goto (tgt := 6) X dX5_names_178 (by decide) ?_
  exact g_pick [1, 2, 3, 4, 5, 0] rfl (hk6 x1 x2 x3 x4 (x5 + (1 : Int32)) M)
def fR_names_b139 (n : Nat) (k6 : Int32 → Int32 → Int32 → Int32 → Int32 → MR → Option (Int32 × MR)) (x1 : Int32) (x2 : Int32) (x3 : Int32) (x4 : Int32) (x5 : Int32) (x6 : Int32) (M : MR) : Option (Int32 × MR) :=
    bnd (fR_wrong n x6 M) fun _ M1 =>
    fR_names_b175 n k6 x1 x2 x3 x4 x5 M1
theorem wR_names_b139 (X : gX p s m args meth c cX5_names 9 RX5 none D (tyR cI cZ)) (n : Nat) (k6 : Int32 → Int32 → Int32 → Int32 → Int32 → MR → Option (Int32 × MR)) (hk6 : ∀ (x1 : Int32) (x2 : Int32) (x3 : Int32) (x4 : Int32) (x5 : Int32) (M : MR), gG p l e (rmR 5 116) s m args below meth c 9 (ZR D cI cZ q (AR q s.heap.size) s.heap M) 0 0 (fun r => MQ below (QV D cI cZ q s.heap.size r) args s 0 0 (AR q s.heap.size)) 6 [(0, .ref (q 34)), (1, .int x1), (2, .int x2), (3, .int x3), (4, .int x4), (5, .int x5)] [] (k6 x1 x2 x3 x4 x5 M)) (x1 : Int32) (x2 : Int32) (x3 : Int32) (x4 : Int32) (x5 : Int32) (x6 : Int32) (M : MR) : gG p l e (rmR 5 116) s m args below meth c 9 (ZR D cI cZ q (AR q s.heap.size) s.heap M) 0 0 (fun r => MQ below (QV D cI cZ q s.heap.size r) args s 0 0 (AR q s.heap.size)) 139 [(0, .ref (q 34)), (1, .int x1), (2, .int x2), (3, .int x3), (4, .int x4), (5, .int x5), (6, .int x6)] [] (fR_names_b139 n k6 x1 x2 x3 x4 x5 x6 M) := by
  unfold fR_names_b139
  refine g_aload_n X dX5_names_139 rfl rfl ?_
  refine g_iload X dX5_names_140 rfl ?_
  refine k_wrong X ⟨Nat.le_of_ble_eq_true rfl, Nat.le_of_ble_eq_true rfl⟩ (Nat.le_of_ble_eq_true rfl) dX5_names_142 ?_
  intro v1 M1
  refine g_goto (tgt := 175) X dX5_names_145 (by decide) ?_
  exact g_pick [0, 1, 2, 3, 4, 5] rfl (wR_names_b175 X n k6 hk6 x1 x2 x3 x4 x5 M1)
def fR_names_b107 (n : Nat) (k6 : Int32 → Int32 → Int32 → Int32 → Int32 → MR → Option (Int32 × MR)) (x1 : Int32) (x2 : Int32) (x3 : Int32) (x4 : Int32) (x5 : Int32) (x6 : Int32) (s0 : Int32) (M : MR) : Option (Int32 × MR) :=
    if x3 = 0 then
      (fR_names_b175 n k6 x1 x2 x3 x4 x5 M)
    else
      (gf M 7 fun v1 =>
      if 0 ≤ v1 then
        (fR_names_b175 n k6 x1 x2 x3 x4 x5 M)
      else
        (if s0 < 0 then
          (fR_names_b139 n k6 x1 x2 x3 x4 x5 x6 M)
        else
          (gf M 6 fun v2 =>
          gf M 8 fun v3 =>
          if s0 ≤ (v2 - v3) then
            (gf M 8 fun v4 =>
            gf M 8 fun v5 =>
            bnd (fR_code n v4 (v5 + s0) (1 : Int32) M) fun _ M6 =>
            gf M6 8 fun v7 =>
            pf M6 8 (v7 + s0) fun M8 =>
            fR_names_b175 n k6 x1 x2 x3 x4 x5 M8)
          else
            (fR_names_b139 n k6 x1 x2 x3 x4 x5 x6 M))))
theorem wR_names_b107 (X : gX p s m args meth c cX5_names 9 RX5 none D (tyR cI cZ)) (n : Nat) (k6 : Int32 → Int32 → Int32 → Int32 → Int32 → MR → Option (Int32 × MR)) (hk6 : ∀ (x1 : Int32) (x2 : Int32) (x3 : Int32) (x4 : Int32) (x5 : Int32) (M : MR), gG p l e (rmR 5 116) s m args below meth c 9 (ZR D cI cZ q (AR q s.heap.size) s.heap M) 0 0 (fun r => MQ below (QV D cI cZ q s.heap.size r) args s 0 0 (AR q s.heap.size)) 6 [(0, .ref (q 34)), (1, .int x1), (2, .int x2), (3, .int x3), (4, .int x4), (5, .int x5)] [] (k6 x1 x2 x3 x4 x5 M)) (x1 : Int32) (x2 : Int32) (x3 : Int32) (x4 : Int32) (x5 : Int32) (x6 : Int32) (s0 : Int32) (M : MR) : gG p l e (rmR 5 116) s m args below meth c 9 (ZR D cI cZ q (AR q s.heap.size) s.heap M) 0 0 (fun r => MQ below (QV D cI cZ q s.heap.size r) args s 0 0 (AR q s.heap.size)) 107 [(0, .ref (q 34)), (1, .int x1), (2, .int x2), (3, .int x3), (4, .int x4), (5, .int x5), (6, .int x6)] [.int s0] (fR_names_b107 n k6 x1 x2 x3 x4 x5 x6 s0 M) := by
  unfold fR_names_b107
  refine g_istore (lv' := [(8, .int s0), (0, .ref (q 34)), (1, .int x1), (2, .int x2), (3, .int x3), (4, .int x4), (5, .int x5), (6, .int x6)]) X dX5_names_107 (by decide) rfl ?_
  refine g_iload_n X dX5_names_109 rfl rfl ?_
  refine g_if_eq (tgt := 175) X dX5_names_110 (by decide) ?_ ?_
  · exact g_pick [1, 2, 3, 4, 5, 6] rfl (wR_names_b175 X n k6 hk6 x1 x2 x3 x4 x5 M)
  · refine g_aload_n X dX5_names_113 rfl rfl ?_
    refine r_g_fault X dX5_names_114 ?_
    intro v1
    refine g_if_ge (tgt := 175) X dX5_names_117 (by decide) ?_ ?_
    · exact g_pick [1, 2, 3, 4, 5, 6] rfl (wR_names_b175 X n k6 hk6 x1 x2 x3 x4 x5 M)
    · refine g_iload X dX5_names_120 rfl ?_
      refine g_if_lt (tgt := 139) X dX5_names_122 (by decide) ?_ ?_
      · exact g_pick [1, 2, 3, 4, 5, 6, 7] rfl (wR_names_b139 X n k6 hk6 x1 x2 x3 x4 x5 x6 M)
      · refine g_iload X dX5_names_125 rfl ?_
        refine g_aload_n X dX5_names_127 rfl rfl ?_
        refine r_g_length X dX5_names_128 ?_
        intro v2
        refine g_aload_n X dX5_names_131 rfl rfl ?_
        refine r_g_at X dX5_names_132 ?_
        intro v3
        refine g_isub X dX5_names_135 ?_
        refine g_icmp_le (tgt := 148) X dX5_names_136 (by decide) ?_ ?_
        · refine g_aload_n X dX5_names_148 rfl rfl ?_
          refine g_aload_n X dX5_names_149 rfl rfl ?_
          refine r_g_at X dX5_names_150 ?_
          intro v4
          refine g_aload_n X dX5_names_153 rfl rfl ?_
          refine r_g_at X dX5_names_154 ?_
          intro v5
          refine g_iload X dX5_names_157 rfl ?_
          refine g_iadd X dX5_names_159 ?_
          refine g_iconst (v := (1 : Int32)) X dX5_names_160 (by decide) ?_
          refine k_code X ⟨Nat.le_of_ble_eq_true rfl, Nat.le_of_ble_eq_true rfl⟩ (Nat.le_of_ble_eq_true rfl) dX5_names_161 ?_
          intro v6 M6
          refine g_aload_n X dX5_names_164 rfl rfl ?_
          refine g_dup X dX5_names_165 rfl ?_
          refine r_g_at X dX5_names_166 ?_
          intro v7
          refine g_iload X dX5_names_169 rfl ?_
          refine g_iadd X dX5_names_171 ?_
          refine r_p_at X dX5_names_172 ?_
          intro M8
          exact g_pick [1, 2, 3, 4, 5, 6] rfl (wR_names_b175 X n k6 hk6 x1 x2 x3 x4 x5 M8)
        · exact g_pick [1, 2, 3, 4, 5, 6, 7] rfl (wR_names_b139 X n k6 hk6 x1 x2 x3 x4 x5 x6 M)
def fR_names_b83 (n : Nat) (k6 : Int32 → Int32 → Int32 → Int32 → Int32 → MR → Option (Int32 × MR)) (x1 : Int32) (x2 : Int32) (x3 : Int32) (x5 : Int32) (s0 : Int32) (s1 : Int32) (M : MR) : Option (Int32 × MR) :=
    gf M 8 fun v1 =>
    gf M 7 fun v2 =>
    if 0 ≤ v2 then
      (fR_names_b107 n k6 x1 x2 x3 (s0 ||| s1) x5 v1 (0 : Int32) M)
    else
      (bnd (fR_take n M) fun v3 M3 =>
      fR_names_b107 n k6 x1 x2 x3 (s0 ||| s1) x5 v1 v3 M3)
theorem wR_names_b83 (X : gX p s m args meth c cX5_names 9 RX5 none D (tyR cI cZ)) (n : Nat) (k6 : Int32 → Int32 → Int32 → Int32 → Int32 → MR → Option (Int32 × MR)) (hk6 : ∀ (x1 : Int32) (x2 : Int32) (x3 : Int32) (x4 : Int32) (x5 : Int32) (M : MR), gG p l e (rmR 5 116) s m args below meth c 9 (ZR D cI cZ q (AR q s.heap.size) s.heap M) 0 0 (fun r => MQ below (QV D cI cZ q s.heap.size r) args s 0 0 (AR q s.heap.size)) 6 [(0, .ref (q 34)), (1, .int x1), (2, .int x2), (3, .int x3), (4, .int x4), (5, .int x5)] [] (k6 x1 x2 x3 x4 x5 M)) (x1 : Int32) (x2 : Int32) (x3 : Int32) (x5 : Int32) (s0 : Int32) (s1 : Int32) (M : MR) : gG p l e (rmR 5 116) s m args below meth c 9 (ZR D cI cZ q (AR q s.heap.size) s.heap M) 0 0 (fun r => MQ below (QV D cI cZ q s.heap.size r) args s 0 0 (AR q s.heap.size)) 83 [(0, .ref (q 34)), (1, .int x1), (2, .int x2), (3, .int x3), (5, .int x5)] [.int s1, .int s0] (fR_names_b83 n k6 x1 x2 x3 x5 s0 s1 M) := by
  unfold fR_names_b83
  refine g_ior X dX5_names_83 ?_
  refine g_istore (lv' := [(4, .int (s0 ||| s1)), (0, .ref (q 34)), (1, .int x1), (2, .int x2), (3, .int x3), (5, .int x5)]) X dX5_names_84 (by decide) rfl ?_
  refine g_aload_n X dX5_names_86 rfl rfl ?_
  refine r_g_at X dX5_names_87 ?_
  intro v1
  refine g_istore (lv' := [(6, .int v1), (4, .int (s0 ||| s1)), (0, .ref (q 34)), (1, .int x1), (2, .int x2), (3, .int x3), (5, .int x5)]) X dX5_names_90 (by decide) rfl ?_
  refine g_aload_n X dX5_names_92 rfl rfl ?_
  refine r_g_fault X dX5_names_93 ?_
  intro v2
  refine g_if_ge (tgt := 106) X dX5_names_96 (by decide) ?_ ?_
  · refine g_iconst (v := (0 : Int32)) X dX5_names_106 (by decide) ?_
    exact g_pick [2, 3, 4, 5, 1, 6, 0] rfl (wR_names_b107 X n k6 hk6 x1 x2 x3 (s0 ||| s1) x5 v1 (0 : Int32) M)
  · refine g_aload_n X dX5_names_99 rfl rfl ?_
    refine k_take X ⟨Nat.le_of_ble_eq_true rfl, Nat.le_of_ble_eq_true rfl⟩ (Nat.le_of_ble_eq_true rfl) dX5_names_100 ?_
    intro v3 M3
    refine g_goto (tgt := 107) X dX5_names_103 (by decide) ?_
    exact g_pick [2, 3, 4, 5, 1, 6, 0] rfl (wR_names_b107 X n k6 hk6 x1 x2 x3 (s0 ||| s1) x5 v1 v3 M3)
def fR_names_b66 (n : Nat) (k6 : Int32 → Int32 → Int32 → Int32 → Int32 → MR → Option (Int32 × MR)) (x1 : Int32) (x2 : Int32) (x3 : Int32) (x4 : Int32) (x5 : Int32) (x7 : Int32) (M : MR) : Option (Int32 × MR) :=
    gf M 7 fun v1 =>
    if 0 ≤ v1 then
      (fR_names_b83 n k6 x1 x2 x3 x5 x4 (0 : Int32) M)
    else
      (fR_names_b83 n k6 x1 x2 x3 x5 x4 ((1 : Int32) <<< (x7 &&& 31)) M)
theorem wR_names_b66 (X : gX p s m args meth c cX5_names 9 RX5 none D (tyR cI cZ)) (n : Nat) (k6 : Int32 → Int32 → Int32 → Int32 → Int32 → MR → Option (Int32 × MR)) (hk6 : ∀ (x1 : Int32) (x2 : Int32) (x3 : Int32) (x4 : Int32) (x5 : Int32) (M : MR), gG p l e (rmR 5 116) s m args below meth c 9 (ZR D cI cZ q (AR q s.heap.size) s.heap M) 0 0 (fun r => MQ below (QV D cI cZ q s.heap.size r) args s 0 0 (AR q s.heap.size)) 6 [(0, .ref (q 34)), (1, .int x1), (2, .int x2), (3, .int x3), (4, .int x4), (5, .int x5)] [] (k6 x1 x2 x3 x4 x5 M)) (x1 : Int32) (x2 : Int32) (x3 : Int32) (x4 : Int32) (x5 : Int32) (x7 : Int32) (M : MR) : gG p l e (rmR 5 116) s m args below meth c 9 (ZR D cI cZ q (AR q s.heap.size) s.heap M) 0 0 (fun r => MQ below (QV D cI cZ q s.heap.size r) args s 0 0 (AR q s.heap.size)) 66 [(0, .ref (q 34)), (1, .int x1), (2, .int x2), (3, .int x3), (4, .int x4), (5, .int x5), (7, .int x7)] [] (fR_names_b66 n k6 x1 x2 x3 x4 x5 x7 M) := by
  unfold fR_names_b66
  refine g_iload X dX5_names_66 rfl ?_
  refine g_aload_n X dX5_names_68 rfl rfl ?_
  refine r_g_fault X dX5_names_69 ?_
  intro v1
  refine g_if_ge (tgt := 82) X dX5_names_72 (by decide) ?_ ?_
  · refine g_iconst (v := (0 : Int32)) X dX5_names_82 (by decide) ?_
    exact g_pick [0, 1, 2, 3, 5] rfl (wR_names_b83 X n k6 hk6 x1 x2 x3 x5 x4 (0 : Int32) M)
  · refine g_iconst (v := (1 : Int32)) X dX5_names_75 (by decide) ?_
    refine g_iload X dX5_names_76 rfl ?_
    refine g_ishl X dX5_names_78 ?_
    refine g_goto (tgt := 83) X dX5_names_79 (by decide) ?_
    exact g_pick [0, 1, 2, 3, 5] rfl (wR_names_b83 X n k6 hk6 x1 x2 x3 x5 x4 ((1 : Int32) <<< (x7 &&& 31)) M)
def fR_names_b60 (n : Nat) (k6 : Int32 → Int32 → Int32 → Int32 → Int32 → MR → Option (Int32 × MR)) (x1 : Int32) (x2 : Int32) (x3 : Int32) (x4 : Int32) (x5 : Int32) (x6 : Int32) (x7 : Int32) (M : MR) : Option (Int32 × MR) :=
    bnd (fR_wrong n x6 M) fun _ M1 =>
    fR_names_b66 n k6 x1 x2 x3 x4 x5 x7 M1
theorem wR_names_b60 (X : gX p s m args meth c cX5_names 9 RX5 none D (tyR cI cZ)) (n : Nat) (k6 : Int32 → Int32 → Int32 → Int32 → Int32 → MR → Option (Int32 × MR)) (hk6 : ∀ (x1 : Int32) (x2 : Int32) (x3 : Int32) (x4 : Int32) (x5 : Int32) (M : MR), gG p l e (rmR 5 116) s m args below meth c 9 (ZR D cI cZ q (AR q s.heap.size) s.heap M) 0 0 (fun r => MQ below (QV D cI cZ q s.heap.size r) args s 0 0 (AR q s.heap.size)) 6 [(0, .ref (q 34)), (1, .int x1), (2, .int x2), (3, .int x3), (4, .int x4), (5, .int x5)] [] (k6 x1 x2 x3 x4 x5 M)) (x1 : Int32) (x2 : Int32) (x3 : Int32) (x4 : Int32) (x5 : Int32) (x6 : Int32) (x7 : Int32) (M : MR) : gG p l e (rmR 5 116) s m args below meth c 9 (ZR D cI cZ q (AR q s.heap.size) s.heap M) 0 0 (fun r => MQ below (QV D cI cZ q s.heap.size r) args s 0 0 (AR q s.heap.size)) 60 [(0, .ref (q 34)), (1, .int x1), (2, .int x2), (3, .int x3), (4, .int x4), (5, .int x5), (6, .int x6), (7, .int x7)] [] (fR_names_b60 n k6 x1 x2 x3 x4 x5 x6 x7 M) := by
  unfold fR_names_b60
  refine g_aload_n X dX5_names_60 rfl rfl ?_
  refine g_iload X dX5_names_61 rfl ?_
  refine k_wrong X ⟨Nat.le_of_ble_eq_true rfl, Nat.le_of_ble_eq_true rfl⟩ (Nat.le_of_ble_eq_true rfl) dX5_names_63 ?_
  intro v1 M1
  exact g_pick [0, 1, 2, 3, 4, 5, 7] rfl (wR_names_b66 X n k6 hk6 x1 x2 x3 x4 x5 x7 M1)
def fR_names_l6 (n : Nat) : Nat → Int32 → Int32 → Int32 → Int32 → Int32 → MR → Option (Int32 × MR)
  | 0, _, _, _, _, _, _ => none
  | k + 1, x1, x2, x3, x4, x5, M => if x1 ≤ x5 then
      (some (0, M))
    else
      (gf M 7 fun v1 =>
      if 0 ≤ v1 then
        (some (0, M))
      else
        (gf M 8 fun v2 =>
        bnd (fR_take n M) fun v3 M3 =>
        gf M3 7 fun v4 =>
        if 0 ≤ v4 then
          (fR_names_b66 n (fR_names_l6 n k) x1 x2 x3 x4 x5 v3 M3)
        else
          (if v3 < 0 then
            (fR_names_b60 n (fR_names_l6 n k) x1 x2 x3 x4 x5 v2 v3 M3)
          else
            (if x2 < v3 then
              (fR_names_b60 n (fR_names_l6 n k) x1 x2 x3 x4 x5 v2 v3 M3)
            else
              (if ((x4 >>> (v3 &&& 31)) &&& (1 : Int32)) = (1 : Int32) then
                (fR_names_b60 n (fR_names_l6 n k) x1 x2 x3 x4 x5 v2 v3 M3)
              else
                (fR_names_b66 n (fR_names_l6 n k) x1 x2 x3 x4 x5 v3 M3))))))
theorem wR_names_l6 (X : gX p s m args meth c cX5_names 9 RX5 none D (tyR cI cZ)) (n : Nat) : ∀ (k : Nat) (x1 : Int32) (x2 : Int32) (x3 : Int32) (x4 : Int32) (x5 : Int32) (M : MR), gG p l e (rmR 5 116) s m args below meth c 9 (ZR D cI cZ q (AR q s.heap.size) s.heap M) 0 0 (fun r => MQ below (QV D cI cZ q s.heap.size r) args s 0 0 (AR q s.heap.size)) 6 [(0, .ref (q 34)), (1, .int x1), (2, .int x2), (3, .int x3), (4, .int x4), (5, .int x5)] [] (fR_names_l6 n k x1 x2 x3 x4 x5 M) := by
  intro k
  induction k with
  | zero =>
    intro x1 x2 x3 x4 x5 M
    exact g_none
  | succ k ih =>
    intro x1 x2 x3 x4 x5 M
    rw [fR_names_l6]
    refine g_iload X dX5_names_6 rfl ?_
    refine g_iload_n X dX5_names_8 rfl rfl ?_
    refine g_icmp_ge (tgt := 181) X dX5_names_9 (by decide) ?_ ?_
    · exact r_vret X dX5_names_181
    · refine g_aload_n X dX5_names_12 rfl rfl ?_
      refine r_g_fault X dX5_names_13 ?_
      intro v1
      refine g_if_ge (tgt := 181) X dX5_names_16 (by decide) ?_ ?_
      · exact r_vret X dX5_names_181
      · refine g_aload_n X dX5_names_19 rfl rfl ?_
        refine r_g_at X dX5_names_20 ?_
        intro v2
        refine g_istore (lv' := [(6, .int v2), (0, .ref (q 34)), (1, .int x1), (2, .int x2), (3, .int x3), (4, .int x4), (5, .int x5)]) X dX5_names_23 (by decide) rfl ?_
        refine g_aload_n X dX5_names_25 rfl rfl ?_
        refine k_take X ⟨Nat.le_of_ble_eq_true rfl, Nat.le_of_ble_eq_true rfl⟩ (Nat.le_of_ble_eq_true rfl) dX5_names_26 ?_
        intro v3 M3
        refine g_istore (lv' := [(7, .int v3), (6, .int v2), (0, .ref (q 34)), (1, .int x1), (2, .int x2), (3, .int x3), (4, .int x4), (5, .int x5)]) X dX5_names_29 (by decide) rfl ?_
        refine g_aload_n X dX5_names_31 rfl rfl ?_
        refine r_g_fault X dX5_names_32 ?_
        intro v4
        refine g_if_ge (tgt := 66) X dX5_names_35 (by decide) ?_ ?_
        · exact g_pick [2, 3, 4, 5, 6, 7, 0] rfl (wR_names_b66 X n (fR_names_l6 n k) ih x1 x2 x3 x4 x5 v3 M3)
        · refine g_iload X dX5_names_38 rfl ?_
          refine g_if_lt (tgt := 60) X dX5_names_40 (by decide) ?_ ?_
          · exact g_pick [2, 3, 4, 5, 6, 7, 1, 0] rfl (wR_names_b60 X n (fR_names_l6 n k) ih x1 x2 x3 x4 x5 v2 v3 M3)
          · refine g_iload X dX5_names_43 rfl ?_
            refine g_iload_n X dX5_names_45 rfl rfl ?_
            refine g_icmp_gt (tgt := 60) X dX5_names_46 (by decide) ?_ ?_
            · exact g_pick [2, 3, 4, 5, 6, 7, 1, 0] rfl (wR_names_b60 X n (fR_names_l6 n k) ih x1 x2 x3 x4 x5 v2 v3 M3)
            · refine g_iload X dX5_names_49 rfl ?_
              refine g_iload X dX5_names_51 rfl ?_
              refine g_ishr X dX5_names_53 ?_
              refine g_iconst (v := (1 : Int32)) X dX5_names_54 (by decide) ?_
              refine g_iand X dX5_names_55 ?_
              refine g_iconst (v := (1 : Int32)) X dX5_names_56 (by decide) ?_
              refine g_icmp_ne (tgt := 66) X dX5_names_57 (by decide) ?_ ?_
              · exact g_pick [2, 3, 4, 5, 6, 7, 0] rfl (wR_names_b66 X n (fR_names_l6 n k) ih x1 x2 x3 x4 x5 v3 M3)
              · exact g_pick [2, 3, 4, 5, 6, 7, 1, 0] rfl (wR_names_b60 X n (fR_names_l6 n k) ih x1 x2 x3 x4 x5 v2 v3 M3)
def fR_names (n : Nat) (x1 : Int32) (x2 : Int32) (x3 : Int32) (M : MR) : Option (Int32 × MR) :=
    fR_names_l6 n n x1 x2 x3 (0 : Int32) (0 : Int32) M
theorem c_names (l : Launch) (D : va_G) (cI cZ : ClassId) (q : Nat → Nat) (n : Nat) (x1 : Int32) (x2 : Int32) (x3 : Int32) (M : MR) : MetR l D cI cZ q yX5_names cX5_names 9 none 5 116 QV [.ref (q 34), .int x1, .int x2, .int x3] M (fR_names n x1 x2 x3 M) := by
  refine MetR.of (by decide) rfl (Nat.le_of_ble_eq_true rfl) ?_
  intro p e s m args below meth c X
  unfold fR_names
  refine g_pick (lv' := [(0, .ref (q 34)), (1, .int x1), (2, .int x2), (3, .int x3)]) [0, 1, 2, 3] rfl ?_
  refine g_iconst (v := (0 : Int32)) X dX5_names_0 (by decide) ?_
  refine g_istore (lv' := [(4, .int (0 : Int32)), (0, .ref (q 34)), (1, .int x1), (2, .int x2), (3, .int x3)]) X dX5_names_1 (by decide) rfl ?_
  refine g_iconst (v := (0 : Int32)) X dX5_names_3 (by decide) ?_
  refine g_istore (lv' := [(5, .int (0 : Int32)), (4, .int (0 : Int32)), (0, .ref (q 34)), (1, .int x1), (2, .int x2), (3, .int x3)]) X dX5_names_4 (by decide) rfl ?_
  exact g_pick [2, 3, 4, 5, 1, 0] rfl (wR_names_l6 X n n x1 x2 x3 (0 : Int32) (0 : Int32) M)
theorem tc_names : Cond.code yX5_names cX5_names 9 none ∈ tt := tt_in (List.mem_of_getElem? (i := 937) (by decide +kernel)) (by decide +kernel)
theorem tl_names : Cond.methodLink RX5 122 yX5_names ∈ tt := tt_in (List.mem_of_getElem? (i := 934) (by decide +kernel)) (by decide +kernel)
theorem ti_names : Cond.instanceMethod yX5_names ∈ tt := tt_in (List.mem_of_getElem? (i := 936) (by decide +kernel)) (by decide +kernel)
theorem te_names : Cond.selects RX5 yX5_names yX5_names ∈ tt := tt_in (List.mem_of_getElem? (i := 46) (by decide +kernel)) (by decide +kernel)
theorem k_names (X : gX p s m args meth c cc nL RX5 rt D (tyR cI cZ)) {n : Nat} {x1 : Int32} {x2 : Int32} {x3 : Int32} {M : MR} {rest : List Value} {K : Int32 → MR → Option ρ} (hR : 5 + 1 ≤ R.frames ∧ 8 + (9 + 11) + 116 ≤ R.locals) (hcat : (rest.map fun v => v.category).sum ≤ 8) (d : decode cc pc = .ok (.invokevirtual 122, 3)) (kk : ∀ v M1, gG p l e R s m args below meth c nL (ZR D cI cZ q (AR q s.heap.size) s.heap M1) 0 0 QQ (pc + 3) lv (rest) (K v M1)) : gG p l e R s m args below meth c nL (ZR D cI cZ q (AR q s.heap.size) s.heap M) 0 0 QQ pc lv (.int x3 :: .int x2 :: .int x1 :: .ref (q 34) :: rest) (bnd (fR_names n x1 x2 x3 M) K) := r_callVv (As := [.int x1, .int x2, .int x3]) X (c_names l D cI cZ q n x1 x2 x3 M) (cwVR (k := 3) X.2.2.2.2.1 tl_names ti_names te_names tc_names ini5 (by decide +kernel) hR) rfl rfl hcat d kk
-- classText
def fR_classText_b129 (n : Nat) (x3 : Int32) (M : MR) : Option (Int32 × MR) :=
    bnd (fR_names n x3 (4 : Int32) (1 : Int32) M) fun _ M1 =>
    gf M1 7 fun v2 =>
    if 0 ≤ v2 then
      (some (0, M1))
    else
      (gf M1 8 fun v3 =>
      gf M1 6 fun v4 =>
      if v4 ≤ v3 then
        (some (0, M1))
      else
        (gf M1 8 fun v5 =>
        gf M1 6 fun v6 =>
        bnd (fR_code n v5 v6 (0 : Int32) M1) fun _ M7 =>
        some (0, M7)))
theorem wR_classText_b129 (X : gX p s m args meth c cX5_classText 4 RX5 none D (tyR cI cZ)) (n : Nat) (x3 : Int32) (M : MR) : gG p l e (rmR 6 144) s m args below meth c 4 (ZR D cI cZ q (AR q s.heap.size) s.heap M) 0 0 (fun r => MQ below (QV D cI cZ q s.heap.size r) args s 0 0 (AR q s.heap.size)) 129 [(0, .ref (q 34)), (3, .int x3)] [] (fR_classText_b129 n x3 M) := by
  unfold fR_classText_b129
  refine g_aload_n X dX5_classText_129 rfl rfl ?_
  refine g_iload_n X dX5_classText_130 rfl rfl ?_
  refine g_iconst (v := (4 : Int32)) X dX5_classText_131 (by decide) ?_
  refine g_iconst (v := (1 : Int32)) X dX5_classText_132 (by decide) ?_
  refine k_names X ⟨Nat.le_of_ble_eq_true rfl, Nat.le_of_ble_eq_true rfl⟩ (Nat.le_of_ble_eq_true rfl) dX5_classText_133 ?_
  intro v1 M1
  refine g_aload_n X dX5_classText_136 rfl rfl ?_
  refine r_g_fault X dX5_classText_137 ?_
  intro v2
  refine g_if_ge (tgt := 167) X dX5_classText_140 (by decide) ?_ ?_
  · exact r_vret X dX5_classText_167
  · refine g_aload_n X dX5_classText_143 rfl rfl ?_
    refine r_g_at X dX5_classText_144 ?_
    intro v3
    refine g_aload_n X dX5_classText_147 rfl rfl ?_
    refine r_g_length X dX5_classText_148 ?_
    intro v4
    refine g_icmp_ge (tgt := 167) X dX5_classText_151 (by decide) ?_ ?_
    · exact r_vret X dX5_classText_167
    · refine g_aload_n X dX5_classText_154 rfl rfl ?_
      refine g_aload_n X dX5_classText_155 rfl rfl ?_
      refine r_g_at X dX5_classText_156 ?_
      intro v5
      refine g_aload_n X dX5_classText_159 rfl rfl ?_
      refine r_g_length X dX5_classText_160 ?_
      intro v6
      refine g_iconst (v := (0 : Int32)) X dX5_classText_163 (by decide) ?_
      refine k_code X ⟨Nat.le_of_ble_eq_true rfl, Nat.le_of_ble_eq_true rfl⟩ (Nat.le_of_ble_eq_true rfl) dX5_classText_164 ?_
      intro v7 M7
      exact r_vret X dX5_classText_167
def fR_classText_b124 (n : Nat) (x2 : Int32) (x3 : Int32) (M : MR) : Option (Int32 × MR) :=
    bnd (fR_wrong n x2 M) fun _ M1 =>
    fR_classText_b129 n x3 M1
theorem wR_classText_b124 (X : gX p s m args meth c cX5_classText 4 RX5 none D (tyR cI cZ)) (n : Nat) (x2 : Int32) (x3 : Int32) (M : MR) : gG p l e (rmR 6 144) s m args below meth c 4 (ZR D cI cZ q (AR q s.heap.size) s.heap M) 0 0 (fun r => MQ below (QV D cI cZ q s.heap.size r) args s 0 0 (AR q s.heap.size)) 124 [(0, .ref (q 34)), (2, .int x2), (3, .int x3)] [] (fR_classText_b124 n x2 x3 M) := by
  unfold fR_classText_b124
  refine g_aload_n X dX5_classText_124 rfl rfl ?_
  refine g_iload_n X dX5_classText_125 rfl rfl ?_
  refine k_wrong X ⟨Nat.le_of_ble_eq_true rfl, Nat.le_of_ble_eq_true rfl⟩ (Nat.le_of_ble_eq_true rfl) dX5_classText_126 ?_
  intro v1 M1
  exact g_pick [0, 2] rfl (wR_classText_b129 X n x3 M1)
def fR_classText_b107 (n : Nat) (x2 : Int32) (s0 : Int32) (M : MR) : Option (Int32 × MR) :=
    gf M 7 fun v1 =>
    if 0 ≤ v1 then
      (fR_classText_b129 n s0 M)
    else
      (if s0 < 0 then
        (fR_classText_b124 n x2 s0 M)
      else
        (if s0 ≤ (3 : Int32) then (fR_classText_b129 n s0 M) else (fR_classText_b124 n x2 s0 M)))
theorem wR_classText_b107 (X : gX p s m args meth c cX5_classText 4 RX5 none D (tyR cI cZ)) (n : Nat) (x2 : Int32) (s0 : Int32) (M : MR) : gG p l e (rmR 6 144) s m args below meth c 4 (ZR D cI cZ q (AR q s.heap.size) s.heap M) 0 0 (fun r => MQ below (QV D cI cZ q s.heap.size r) args s 0 0 (AR q s.heap.size)) 107 [(0, .ref (q 34)), (2, .int x2)] [.int s0] (fR_classText_b107 n x2 s0 M) := by
  unfold fR_classText_b107
  refine g_istore_n (lv' := [(3, .int s0), (0, .ref (q 34)), (2, .int x2)]) X dX5_classText_107 rfl (by decide) rfl ?_
  refine g_aload_n X dX5_classText_108 rfl rfl ?_
  refine r_g_fault X dX5_classText_109 ?_
  intro v1
  refine g_if_ge (tgt := 129) X dX5_classText_112 (by decide) ?_ ?_
  · exact g_pick [1, 0] rfl (wR_classText_b129 X n s0 M)
  · refine g_iload_n X dX5_classText_115 rfl rfl ?_
    refine g_if_lt (tgt := 124) X dX5_classText_116 (by decide) ?_ ?_
    · exact g_pick [1, 2, 0] rfl (wR_classText_b124 X n x2 s0 M)
    · refine g_iload_n X dX5_classText_119 rfl rfl ?_
      refine g_iconst (v := (3 : Int32)) X dX5_classText_120 (by decide) ?_
      refine g_icmp_le (tgt := 129) X dX5_classText_121 (by decide) ?_ ?_
      · exact g_pick [1, 0] rfl (wR_classText_b129 X n s0 M)
      · exact g_pick [1, 2, 0] rfl (wR_classText_b124 X n x2 s0 M)
def fR_classText_b79 (n : Nat) (x3 : Int32) (M : MR) : Option (Int32 × MR) :=
    bnd (fR_names n x3 (9 : Int32) (0 : Int32) M) fun _ M1 =>
    gf M1 8 fun v2 =>
    gf M1 7 fun v3 =>
    if 0 ≤ v3 then
      (fR_classText_b107 n v2 (0 : Int32) M1)
    else
      (bnd (fR_take n M1) fun v4 M4 =>
      fR_classText_b107 n v2 v4 M4)
theorem wR_classText_b79 (X : gX p s m args meth c cX5_classText 4 RX5 none D (tyR cI cZ)) (n : Nat) (x3 : Int32) (M : MR) : gG p l e (rmR 6 144) s m args below meth c 4 (ZR D cI cZ q (AR q s.heap.size) s.heap M) 0 0 (fun r => MQ below (QV D cI cZ q s.heap.size r) args s 0 0 (AR q s.heap.size)) 79 [(0, .ref (q 34)), (3, .int x3)] [] (fR_classText_b79 n x3 M) := by
  unfold fR_classText_b79
  refine g_aload_n X dX5_classText_79 rfl rfl ?_
  refine g_iload_n X dX5_classText_80 rfl rfl ?_
  refine g_bipush (v := (9 : Int32)) X dX5_classText_81 (by decide) ?_
  refine g_iconst (v := (0 : Int32)) X dX5_classText_83 (by decide) ?_
  refine k_names X ⟨Nat.le_of_ble_eq_true rfl, Nat.le_of_ble_eq_true rfl⟩ (Nat.le_of_ble_eq_true rfl) dX5_classText_84 ?_
  intro v1 M1
  refine g_aload_n X dX5_classText_87 rfl rfl ?_
  refine r_g_at X dX5_classText_88 ?_
  intro v2
  refine g_istore_n (lv' := [(2, .int v2), (0, .ref (q 34)), (3, .int x3)]) X dX5_classText_91 rfl (by decide) rfl ?_
  refine g_aload_n X dX5_classText_92 rfl rfl ?_
  refine r_g_fault X dX5_classText_93 ?_
  intro v3
  refine g_if_ge (tgt := 106) X dX5_classText_96 (by decide) ?_ ?_
  · refine g_iconst (v := (0 : Int32)) X dX5_classText_106 (by decide) ?_
    exact g_pick [1, 0] rfl (wR_classText_b107 X n v2 (0 : Int32) M1)
  · refine g_aload_n X dX5_classText_99 rfl rfl ?_
    refine k_take X ⟨Nat.le_of_ble_eq_true rfl, Nat.le_of_ble_eq_true rfl⟩ (Nat.le_of_ble_eq_true rfl) dX5_classText_100 ?_
    intro v4 M4
    refine g_goto (tgt := 107) X dX5_classText_103 (by decide) ?_
    exact g_pick [1, 0] rfl (wR_classText_b107 X n v2 v4 M4)
def fR_classText_b74 (n : Nat) (x2 : Int32) (x3 : Int32) (M : MR) : Option (Int32 × MR) :=
    bnd (fR_wrong n x2 M) fun _ M1 =>
    fR_classText_b79 n x3 M1
theorem wR_classText_b74 (X : gX p s m args meth c cX5_classText 4 RX5 none D (tyR cI cZ)) (n : Nat) (x2 : Int32) (x3 : Int32) (M : MR) : gG p l e (rmR 6 144) s m args below meth c 4 (ZR D cI cZ q (AR q s.heap.size) s.heap M) 0 0 (fun r => MQ below (QV D cI cZ q s.heap.size r) args s 0 0 (AR q s.heap.size)) 74 [(0, .ref (q 34)), (2, .int x2), (3, .int x3)] [] (fR_classText_b74 n x2 x3 M) := by
  unfold fR_classText_b74
  refine g_aload_n X dX5_classText_74 rfl rfl ?_
  refine g_iload_n X dX5_classText_75 rfl rfl ?_
  refine k_wrong X ⟨Nat.le_of_ble_eq_true rfl, Nat.le_of_ble_eq_true rfl⟩ (Nat.le_of_ble_eq_true rfl) dX5_classText_76 ?_
  intro v1 M1
  exact g_pick [0, 2] rfl (wR_classText_b79 X n x3 M1)
def fR_classText_b57 (n : Nat) (x2 : Int32) (s0 : Int32) (M : MR) : Option (Int32 × MR) :=
    gf M 7 fun v1 =>
    if 0 ≤ v1 then
      (fR_classText_b79 n s0 M)
    else
      (if s0 < 0 then
        (fR_classText_b74 n x2 s0 M)
      else
        (if s0 ≤ (4 : Int32) then (fR_classText_b79 n s0 M) else (fR_classText_b74 n x2 s0 M)))
theorem wR_classText_b57 (X : gX p s m args meth c cX5_classText 4 RX5 none D (tyR cI cZ)) (n : Nat) (x2 : Int32) (s0 : Int32) (M : MR) : gG p l e (rmR 6 144) s m args below meth c 4 (ZR D cI cZ q (AR q s.heap.size) s.heap M) 0 0 (fun r => MQ below (QV D cI cZ q s.heap.size r) args s 0 0 (AR q s.heap.size)) 57 [(0, .ref (q 34)), (2, .int x2)] [.int s0] (fR_classText_b57 n x2 s0 M) := by
  unfold fR_classText_b57
  refine g_istore_n (lv' := [(3, .int s0), (0, .ref (q 34)), (2, .int x2)]) X dX5_classText_57 rfl (by decide) rfl ?_
  refine g_aload_n X dX5_classText_58 rfl rfl ?_
  refine r_g_fault X dX5_classText_59 ?_
  intro v1
  refine g_if_ge (tgt := 79) X dX5_classText_62 (by decide) ?_ ?_
  · exact g_pick [1, 0] rfl (wR_classText_b79 X n s0 M)
  · refine g_iload_n X dX5_classText_65 rfl rfl ?_
    refine g_if_lt (tgt := 74) X dX5_classText_66 (by decide) ?_ ?_
    · exact g_pick [1, 2, 0] rfl (wR_classText_b74 X n x2 s0 M)
    · refine g_iload_n X dX5_classText_69 rfl rfl ?_
      refine g_iconst (v := (4 : Int32)) X dX5_classText_70 (by decide) ?_
      refine g_icmp_le (tgt := 79) X dX5_classText_71 (by decide) ?_ ?_
      · exact g_pick [1, 0] rfl (wR_classText_b79 X n s0 M)
      · exact g_pick [1, 2, 0] rfl (wR_classText_b74 X n x2 s0 M)
def fR_classText_b37 (n : Nat) (M : MR) : Option (Int32 × MR) :=
    gf M 8 fun v1 =>
    gf M 7 fun v2 =>
    if 0 ≤ v2 then
      (fR_classText_b57 n v1 (0 : Int32) M)
    else
      (bnd (fR_take n M) fun v3 M3 =>
      fR_classText_b57 n v1 v3 M3)
theorem wR_classText_b37 (X : gX p s m args meth c cX5_classText 4 RX5 none D (tyR cI cZ)) (n : Nat) (M : MR) : gG p l e (rmR 6 144) s m args below meth c 4 (ZR D cI cZ q (AR q s.heap.size) s.heap M) 0 0 (fun r => MQ below (QV D cI cZ q s.heap.size r) args s 0 0 (AR q s.heap.size)) 37 [(0, .ref (q 34))] [] (fR_classText_b37 n M) := by
  unfold fR_classText_b37
  refine g_aload_n X dX5_classText_37 rfl rfl ?_
  refine r_g_at X dX5_classText_38 ?_
  intro v1
  refine g_istore_n (lv' := [(2, .int v1), (0, .ref (q 34))]) X dX5_classText_41 rfl (by decide) rfl ?_
  refine g_aload_n X dX5_classText_42 rfl rfl ?_
  refine r_g_fault X dX5_classText_43 ?_
  intro v2
  refine g_if_ge (tgt := 56) X dX5_classText_46 (by decide) ?_ ?_
  · refine g_iconst (v := (0 : Int32)) X dX5_classText_56 (by decide) ?_
    exact g_pick [1, 0] rfl (wR_classText_b57 X n v1 (0 : Int32) M)
  · refine g_aload_n X dX5_classText_49 rfl rfl ?_
    refine k_take X ⟨Nat.le_of_ble_eq_true rfl, Nat.le_of_ble_eq_true rfl⟩ (Nat.le_of_ble_eq_true rfl) dX5_classText_50 ?_
    intro v3 M3
    refine g_goto (tgt := 57) X dX5_classText_53 (by decide) ?_
    exact g_pick [1, 0] rfl (wR_classText_b57 X n v1 v3 M3)
def fR_classText (n : Nat) (M : MR) : Option (Int32 × MR) :=
    pf M 8 (0 : Int32) fun M1 =>
    bnd (fR_take n M1) fun v2 M2 =>
    gf M2 7 fun v3 =>
    if 0 ≤ v3 then
      (fR_classText_b37 n M2)
    else
      (if v2 = (-1 : Int32) then
        (fR_classText_b37 n M2)
      else
        (bnd (fR_means n (0 : Int32) v2 (1 : Int32) M2) fun v4 M4 =>
        if v4 = 0 then
          (bnd (fR_wrong n (0 : Int32) M4) fun _ M5 =>
          fR_classText_b37 n M5)
        else
          (fR_classText_b37 n M4)))
theorem c_classText (l : Launch) (D : va_G) (cI cZ : ClassId) (q : Nat → Nat) (n : Nat) (M : MR) : MetR l D cI cZ q yX5_classText cX5_classText 4 none 6 144 QV [.ref (q 34)] M (fR_classText n M) := by
  refine MetR.of (by decide) rfl (Nat.le_of_ble_eq_true rfl) ?_
  intro p e s m args below meth c X
  unfold fR_classText
  refine g_pick (lv' := [(0, .ref (q 34))]) [0] rfl ?_
  refine g_aload_n X dX5_classText_0 rfl rfl ?_
  refine g_iconst (v := (0 : Int32)) X dX5_classText_1 (by decide) ?_
  refine r_p_at X dX5_classText_2 ?_
  intro M1
  refine g_aload_n X dX5_classText_5 rfl rfl ?_
  refine k_take X ⟨Nat.le_of_ble_eq_true rfl, Nat.le_of_ble_eq_true rfl⟩ (Nat.le_of_ble_eq_true rfl) dX5_classText_6 ?_
  intro v2 M2
  refine g_istore_n (lv' := [(1, .int v2), (0, .ref (q 34))]) X dX5_classText_9 rfl (by decide) rfl ?_
  refine g_aload_n X dX5_classText_10 rfl rfl ?_
  refine r_g_fault X dX5_classText_11 ?_
  intro v3
  refine g_if_ge (tgt := 37) X dX5_classText_14 (by decide) ?_ ?_
  · exact g_pick [1] rfl (wR_classText_b37 X n M2)
  · refine g_iload_n X dX5_classText_17 rfl rfl ?_
    refine g_iconst (v := (-1 : Int32)) X dX5_classText_18 (by decide) ?_
    refine g_icmp_eq (tgt := 37) X dX5_classText_19 (by decide) ?_ ?_
    · exact g_pick [1] rfl (wR_classText_b37 X n M2)
    · refine g_aload_n X dX5_classText_22 rfl rfl ?_
      refine g_iconst (v := (0 : Int32)) X dX5_classText_23 (by decide) ?_
      refine g_iload_n X dX5_classText_24 rfl rfl ?_
      refine g_iconst (v := (1 : Int32)) X dX5_classText_25 (by decide) ?_
      refine k_means X ⟨Nat.le_of_ble_eq_true rfl, Nat.le_of_ble_eq_true rfl⟩ (Nat.le_of_ble_eq_true rfl) dX5_classText_26 ?_
      intro v4 M4
      refine g_if_ne (tgt := 37) X dX5_classText_29 (by decide) ?_ ?_
      · exact g_pick [1] rfl (wR_classText_b37 X n M4)
      · refine g_aload_n X dX5_classText_32 rfl rfl ?_
        refine g_iconst (v := (0 : Int32)) X dX5_classText_33 (by decide) ?_
        refine k_wrong X ⟨Nat.le_of_ble_eq_true rfl, Nat.le_of_ble_eq_true rfl⟩ (Nat.le_of_ble_eq_true rfl) dX5_classText_34 ?_
        intro v5 M5
        exact g_pick [1] rfl (wR_classText_b37 X n M5)
theorem tc_classText : Cond.code yX5_classText cX5_classText 4 none ∈ tt := tt_in (List.mem_of_getElem? (i := 929) (by decide +kernel)) (by decide +kernel)
theorem tl_classText : Cond.methodLink RX5 125 yX5_classText ∈ tt := tt_in (List.mem_of_getElem? (i := 926) (by decide +kernel)) (by decide +kernel)
theorem ti_classText : Cond.instanceMethod yX5_classText ∈ tt := tt_in (List.mem_of_getElem? (i := 928) (by decide +kernel)) (by decide +kernel)
theorem te_classText : Cond.selects RX5 yX5_classText yX5_classText ∈ tt := tt_in (List.mem_of_getElem? (i := 44) (by decide +kernel)) (by decide +kernel)
theorem k_classText (X : gX p s m args meth c cc nL RX5 rt D (tyR cI cZ)) {n : Nat} {M : MR} {rest : List Value} {K : Int32 → MR → Option ρ} (hR : 6 + 1 ≤ R.frames ∧ 8 + (4 + 11) + 144 ≤ R.locals) (hcat : (rest.map fun v => v.category).sum ≤ 8) (d : decode cc pc = .ok (.invokevirtual 125, 3)) (kk : ∀ v M1, gG p l e R s m args below meth c nL (ZR D cI cZ q (AR q s.heap.size) s.heap M1) 0 0 QQ (pc + 3) lv (rest) (K v M1)) : gG p l e R s m args below meth c nL (ZR D cI cZ q (AR q s.heap.size) s.heap M) 0 0 QQ pc lv (.ref (q 34) :: rest) (bnd (fR_classText n M) K) := r_callVv (As := []) X (c_classText l D cI cZ q n M) (cwVR (k := 0) X.2.2.2.2.1 tl_classText ti_classText te_classText tc_classText ini5 (by decide +kernel) hR) rfl rfl hcat d kk
-- looked
def fR_looked_l29 (n : Nat) : Nat → Int32 → Int32 → MR → Option (Int32 × MR)
  | 0, _, _, _ => none
  | k + 1, x1, x2, M => gf M 6 fun v1 =>
    if v1 ≤ x2 then
      (if x1 = 0 then
        (gf M 6 fun v4 =>
        bnd (fR_code n (0 : Int32) v4 (0 : Int32) M) fun _ M5 =>
        gf M5 7 fun v6 =>
        some (v6, M5))
      else
        (bnd (fR_classText n M) fun _ M2 =>
        gf M2 7 fun v3 =>
        some (v3, M2)))
    else
      (rd M 4 60 x2 fun v7 =>
      wr M 5 60 x2 v7 fun M8 =>
      (fR_looked_l29 n k) x1 (x2 + (1 : Int32)) M8)
theorem wR_looked_l29 (X : gX p s m args meth c cX5_looked 3 RX5 (some .int) D (tyR cI cZ)) (n : Nat) : ∀ (k : Nat) (x1 : Int32) (x2 : Int32) (M : MR), gG p l e (rmR 7 167) s m args below meth c 3 (ZR D cI cZ q (AR q s.heap.size) s.heap M) 0 0 (fun r => MQ below (QI D cI cZ q s.heap.size r) args s 0 0 (AR q s.heap.size)) 29 [(0, .ref (q 34)), (1, .int x1), (2, .int x2)] [] (fR_looked_l29 n k x1 x2 M) := by
  intro k
  induction k with
  | zero =>
    intro x1 x2 M
    exact g_none
  | succ k ih =>
    intro x1 x2 M
    rw [fR_looked_l29]
    refine g_iload_n X dX5_looked_29 rfl rfl ?_
    refine g_aload_n X dX5_looked_30 rfl rfl ?_
    refine r_g_length X dX5_looked_31 ?_
    intro v1
    refine g_icmp_ge (tgt := 55) X dX5_looked_34 (by decide) ?_ ?_
    · refine g_iload_n X dX5_looked_55 rfl rfl ?_
      refine g_if_ne (tgt := 72) X dX5_looked_56 (by decide) ?_ ?_
      · refine g_aload_n X dX5_looked_72 rfl rfl ?_
        refine k_classText X ⟨Nat.le_of_ble_eq_true rfl, Nat.le_of_ble_eq_true rfl⟩ (Nat.le_of_ble_eq_true rfl) dX5_looked_73 ?_
        intro v2 M2
        refine g_aload_n X dX5_looked_76 rfl rfl ?_
        refine r_g_fault X dX5_looked_77 ?_
        intro v3
        exact r_iret X dX5_looked_80
      · refine g_aload_n X dX5_looked_59 rfl rfl ?_
        refine g_iconst (v := (0 : Int32)) X dX5_looked_60 (by decide) ?_
        refine g_aload_n X dX5_looked_61 rfl rfl ?_
        refine r_g_length X dX5_looked_62 ?_
        intro v4
        refine g_iconst (v := (0 : Int32)) X dX5_looked_65 (by decide) ?_
        refine k_code X ⟨Nat.le_of_ble_eq_true rfl, Nat.le_of_ble_eq_true rfl⟩ (Nat.le_of_ble_eq_true rfl) dX5_looked_66 ?_
        intro v5 M5
        refine g_goto (tgt := 76) X dX5_looked_69 (by decide) ?_
        refine g_aload_n X dX5_looked_76 rfl rfl ?_
        refine r_g_fault X dX5_looked_77 ?_
        intro v6
        exact r_iret X dX5_looked_80
    · refine g_aload_n X dX5_looked_37 rfl rfl ?_
      refine r_g_meant X dX5_looked_38 ?_
      refine g_iload_n X dX5_looked_41 rfl rfl ?_
      refine g_aload_n X dX5_looked_42 rfl rfl ?_
      refine r_g_text X dX5_looked_43 ?_
      refine g_iload_n X dX5_looked_46 rfl rfl ?_
      refine r_l_text X dX5_looked_47 ?_
      intro v7
      refine r_s_meant X dX5_looked_48 ?_
      intro M8
      refine g_iinc (v := (1 : Int32)) (lv' := [(2, .int (x2 + (1 : Int32))), (0, .ref (q 34)), (1, .int x1)]) X dX5_looked_49 rfl (by decide) (by decide) rfl ?_
      refine g_goto (tgt := 29) X dX5_looked_52 (by decide) ?_
      exact g_pick [1, 2, 0] rfl (ih x1 (x2 + (1 : Int32)) M8)
def fR_looked_l7 (n : Nat) : Nat → Int32 → Int32 → MR → Option (Int32 × MR)
  | 0, _, _, _ => none
  | k + 1, x1, x2, M => if (150 : Int32) ≤ x2 then
      (fR_looked_l29 n n x1 (0 : Int32) M)
    else
      (wz M 9 150 x2 (0 : Int32) fun M1 =>
      (fR_looked_l7 n k) x1 (x2 + (1 : Int32)) M1)
theorem wR_looked_l7 (X : gX p s m args meth c cX5_looked 3 RX5 (some .int) D (tyR cI cZ)) (n : Nat) : ∀ (k : Nat) (x1 : Int32) (x2 : Int32) (M : MR), gG p l e (rmR 7 167) s m args below meth c 3 (ZR D cI cZ q (AR q s.heap.size) s.heap M) 0 0 (fun r => MQ below (QI D cI cZ q s.heap.size r) args s 0 0 (AR q s.heap.size)) 7 [(0, .ref (q 34)), (1, .int x1), (2, .int x2)] [] (fR_looked_l7 n k x1 x2 M) := by
  intro k
  induction k with
  | zero =>
    intro x1 x2 M
    exact g_none
  | succ k ih =>
    intro x1 x2 M
    rw [fR_looked_l7]
    refine g_iload_n X dX5_looked_7 rfl rfl ?_
    refine g_sipush (v := (150 : Int32)) X dX5_looked_8 (by decide) ?_
    refine g_icmp_ge (tgt := 27) X dX5_looked_11 (by decide) ?_ ?_
    · refine g_iconst (v := (0 : Int32)) X dX5_looked_27 (by decide) ?_
      refine g_istore_n (lv' := [(2, .int (0 : Int32)), (0, .ref (q 34)), (1, .int x1)]) X dX5_looked_28 rfl (by decide) rfl ?_
      exact g_pick [1, 2, 0] rfl (wR_looked_l29 X n n x1 (0 : Int32) M)
    · refine g_aload_n X dX5_looked_14 rfl rfl ?_
      refine r_g_leaned X dX5_looked_15 ?_
      refine g_iload_n X dX5_looked_18 rfl rfl ?_
      refine g_iconst (v := (0 : Int32)) X dX5_looked_19 (by decide) ?_
      refine r_s_leaned X dX5_looked_20 ?_
      intro M1
      refine g_iinc (v := (1 : Int32)) (lv' := [(2, .int (x2 + (1 : Int32))), (0, .ref (q 34)), (1, .int x1)]) X dX5_looked_21 rfl (by decide) (by decide) rfl ?_
      refine g_goto (tgt := 7) X dX5_looked_24 (by decide) ?_
      exact g_pick [1, 2, 0] rfl (ih x1 (x2 + (1 : Int32)) M1)
def fR_looked (n : Nat) (x1 : Int32) (M : MR) : Option (Int32 × MR) :=
    pf M 7 (-1 : Int32) fun M1 =>
    fR_looked_l7 n n x1 (0 : Int32) M1
theorem c_looked (l : Launch) (D : va_G) (cI cZ : ClassId) (q : Nat → Nat) (n : Nat) (x1 : Int32) (M : MR) : MetR l D cI cZ q yX5_looked cX5_looked 3 (some .int) 7 167 QI [.ref (q 34), .int x1] M (fR_looked n x1 M) := by
  refine MetR.of (by decide) rfl (Nat.le_of_ble_eq_true rfl) ?_
  intro p e s m args below meth c X
  unfold fR_looked
  refine g_pick (lv' := [(0, .ref (q 34)), (1, .int x1)]) [0, 1] rfl ?_
  refine g_aload_n X dX5_looked_0 rfl rfl ?_
  refine g_iconst (v := (-1 : Int32)) X dX5_looked_1 (by decide) ?_
  refine r_p_fault X dX5_looked_2 ?_
  intro M1
  refine g_iconst (v := (0 : Int32)) X dX5_looked_5 (by decide) ?_
  refine g_istore_n (lv' := [(2, .int (0 : Int32)), (0, .ref (q 34)), (1, .int x1)]) X dX5_looked_6 rfl (by decide) rfl ?_
  exact g_pick [1, 2, 0] rfl (wR_looked_l7 X n n x1 (0 : Int32) M1)
theorem tc_looked : Cond.code yX5_looked cX5_looked 3 (some .int) ∈ tt := tt_in (List.mem_of_getElem? (i := 899) (by decide +kernel)) (by decide +kernel)
theorem tl_looked : Cond.methodLink RX5 239 yX5_looked ∈ tt := tt_in (List.mem_of_getElem? (i := 896) (by decide +kernel)) (by decide +kernel)
theorem ti_looked : Cond.instanceMethod yX5_looked ∈ tt := tt_in (List.mem_of_getElem? (i := 898) (by decide +kernel)) (by decide +kernel)
theorem te_looked : Cond.selects RX5 yX5_looked yX5_looked ∈ tt := tt_in (List.mem_of_getElem? (i := 39) (by decide +kernel)) (by decide +kernel)
theorem k_looked (X : gX p s m args meth c cc nL RX5 rt D (tyR cI cZ)) {n : Nat} {x1 : Int32} {M : MR} {rest : List Value} {K : Int32 → MR → Option ρ} (hR : 7 + 1 ≤ R.frames ∧ 8 + (3 + 11) + 167 ≤ R.locals) (hcat : (rest.map fun v => v.category).sum ≤ 8) (d : decode cc pc = .ok (.invokevirtual 239, 3)) (kk : ∀ v M1, gG p l e R s m args below meth c nL (ZR D cI cZ q (AR q s.heap.size) s.heap M1) 0 0 QQ (pc + 3) lv (.int v :: rest) (K v M1)) : gG p l e R s m args below meth c nL (ZR D cI cZ q (AR q s.heap.size) s.heap M) 0 0 QQ pc lv (.int x1 :: .ref (q 34) :: rest) (bnd (fR_looked n x1 M) K) := r_callVi (As := [.int x1]) X (c_looked l D cI cZ q n x1 M) (cwVR (k := 1) X.2.2.2.2.1 tl_looked ti_looked te_looked tc_looked ini5 (by decide +kernel) hR) rfl rfl hcat d kk
-- textOf
def fR_textOf (n : Nat) (x1 : Int32) (x2 : Int32) (M : MR) : Option (Int32 × MR) :=
    bnd (fR_editAt n x1 M) fun v1 M1 =>
    rd M1 0 62610 ((v1 + (8 : Int32)) + x2) fun v2 =>
    some (v2, M1)
theorem c_textOf (l : Launch) (D : va_G) (cI cZ : ClassId) (q : Nat → Nat) (n : Nat) (x1 : Int32) (x2 : Int32) (M : MR) : MetR l D cI cZ q yX5_textOf cX5_textOf 3 (some .int) 1 20 QI [.ref (q 34), .int x1, .int x2] M (fR_textOf n x1 x2 M) := by
  refine MetR.of (by decide) rfl (Nat.le_of_ble_eq_true rfl) ?_
  intro p e s m args below meth c X
  unfold fR_textOf
  refine g_pick (lv' := [(0, .ref (q 34)), (1, .int x1), (2, .int x2)]) [0, 1, 2] rfl ?_
  refine g_aload_n X dX5_textOf_0 rfl rfl ?_
  refine r_g_m X dX5_textOf_1 ?_
  refine g_iload_n X dX5_textOf_4 rfl rfl ?_
  refine k_editAt X ⟨Nat.le_of_ble_eq_true rfl, Nat.le_of_ble_eq_true rfl⟩ (Nat.le_of_ble_eq_true rfl) dX5_textOf_5 ?_
  intro v1 M1
  refine g_bipush (v := (8 : Int32)) X dX5_textOf_8 (by decide) ?_
  refine g_iadd X dX5_textOf_10 ?_
  refine g_iload_n X dX5_textOf_11 rfl rfl ?_
  refine g_iadd X dX5_textOf_12 ?_
  refine r_l_m X dX5_textOf_13 ?_
  intro v2
  exact r_iret X dX5_textOf_14
theorem tc_textOf : Cond.code yX5_textOf cX5_textOf 3 (some .int) ∈ tt := tt_in (List.mem_of_getElem? (i := 976) (by decide +kernel)) (by decide +kernel)
theorem tl_textOf : Cond.methodLink RX5 128 yX5_textOf ∈ tt := tt_in (List.mem_of_getElem? (i := 973) (by decide +kernel)) (by decide +kernel)
theorem ti_textOf : Cond.instanceMethod yX5_textOf ∈ tt := tt_in (List.mem_of_getElem? (i := 975) (by decide +kernel)) (by decide +kernel)
theorem te_textOf : Cond.selects RX5 yX5_textOf yX5_textOf ∈ tt := tt_in (List.mem_of_getElem? (i := 55) (by decide +kernel)) (by decide +kernel)
theorem k_textOf (X : gX p s m args meth c cc nL RX5 rt D (tyR cI cZ)) {n : Nat} {x1 : Int32} {x2 : Int32} {M : MR} {rest : List Value} {K : Int32 → MR → Option ρ} (hR : 1 + 1 ≤ R.frames ∧ 8 + (3 + 11) + 20 ≤ R.locals) (hcat : (rest.map fun v => v.category).sum ≤ 8) (d : decode cc pc = .ok (.invokevirtual 128, 3)) (kk : ∀ v M1, gG p l e R s m args below meth c nL (ZR D cI cZ q (AR q s.heap.size) s.heap M1) 0 0 QQ (pc + 3) lv (.int v :: rest) (K v M1)) : gG p l e R s m args below meth c nL (ZR D cI cZ q (AR q s.heap.size) s.heap M) 0 0 QQ pc lv (.int x2 :: .int x1 :: .ref (q 34) :: rest) (bnd (fR_textOf n x1 x2 M) K) := r_callVi (As := [.int x1, .int x2]) X (c_textOf l D cI cZ q n x1 x2 M) (cwVR (k := 2) X.2.2.2.2.1 tl_textOf ti_textOf te_textOf tc_textOf ini5 (by decide +kernel) hR) rfl rfl hcat d kk
-- parentOf
def fR_parentOf (n : Nat) (x1 : Int32) (M : MR) : Option (Int32 × MR) :=
    bnd (fR_textOf n x1 (0 : Int32) M) fun v1 M1 =>
    some (v1, M1)
theorem c_parentOf (l : Launch) (D : va_G) (cI cZ : ClassId) (q : Nat → Nat) (n : Nat) (x1 : Int32) (M : MR) : MetR l D cI cZ q yX5_parentOf cX5_parentOf 2 (some .int) 2 42 QI [.ref (q 34), .int x1] M (fR_parentOf n x1 M) := by
  refine MetR.of (by decide) rfl (Nat.le_of_ble_eq_true rfl) ?_
  intro p e s m args below meth c X
  unfold fR_parentOf
  refine g_pick (lv' := [(0, .ref (q 34)), (1, .int x1)]) [0, 1] rfl ?_
  refine g_aload_n X dX5_parentOf_0 rfl rfl ?_
  refine g_iload_n X dX5_parentOf_1 rfl rfl ?_
  refine g_iconst (v := (0 : Int32)) X dX5_parentOf_2 (by decide) ?_
  refine k_textOf X ⟨Nat.le_of_ble_eq_true rfl, Nat.le_of_ble_eq_true rfl⟩ (Nat.le_of_ble_eq_true rfl) dX5_parentOf_3 ?_
  intro v1 M1
  exact r_iret X dX5_parentOf_6
theorem tc_parentOf : Cond.code yX5_parentOf cX5_parentOf 2 (some .int) ∈ tt := tt_in (List.mem_of_getElem? (i := 984) (by decide +kernel)) (by decide +kernel)
theorem tl_parentOf : Cond.methodLink RX5 138 yX5_parentOf ∈ tt := tt_in (List.mem_of_getElem? (i := 981) (by decide +kernel)) (by decide +kernel)
theorem ti_parentOf : Cond.instanceMethod yX5_parentOf ∈ tt := tt_in (List.mem_of_getElem? (i := 983) (by decide +kernel)) (by decide +kernel)
theorem te_parentOf : Cond.selects RX5 yX5_parentOf yX5_parentOf ∈ tt := tt_in (List.mem_of_getElem? (i := 57) (by decide +kernel)) (by decide +kernel)
theorem k_parentOf (X : gX p s m args meth c cc nL RX5 rt D (tyR cI cZ)) {n : Nat} {x1 : Int32} {M : MR} {rest : List Value} {K : Int32 → MR → Option ρ} (hR : 2 + 1 ≤ R.frames ∧ 8 + (2 + 11) + 42 ≤ R.locals) (hcat : (rest.map fun v => v.category).sum ≤ 8) (d : decode cc pc = .ok (.invokevirtual 138, 3)) (kk : ∀ v M1, gG p l e R s m args below meth c nL (ZR D cI cZ q (AR q s.heap.size) s.heap M1) 0 0 QQ (pc + 3) lv (.int v :: rest) (K v M1)) : gG p l e R s m args below meth c nL (ZR D cI cZ q (AR q s.heap.size) s.heap M) 0 0 QQ pc lv (.int x1 :: .ref (q 34) :: rest) (bnd (fR_parentOf n x1 M) K) := r_callVi (As := [.int x1]) X (c_parentOf l D cI cZ q n x1 M) (cwVR (k := 1) X.2.2.2.2.1 tl_parentOf ti_parentOf te_parentOf tc_parentOf ini5 (by decide +kernel) hR) rfl rfl hcat d kk
-- ownField
def fR_ownField_l2 (n : Nat) : Nat → Int32 → Int32 → Int32 → MR → Option (Int32 × MR)
  | 0, _, _, _, _ => none
  | k + 1, x1, x2, x3, M => bnd (fR_textOf n x1 (1 : Int32) M) fun v1 M1 =>
    if v1 ≤ x3 then
      (some ((-1 : Int32), M1))
    else
      (bnd (fR_textOf n x1 ((2 : Int32) + ((2 : Int32) * x3)) M1) fun v2 M2 =>
      if v2 = x2 then
        (some (((3 : Int32) + ((2 : Int32) * x3)), M2))
      else
        ((fR_ownField_l2 n k) x1 x2 (x3 + (1 : Int32)) M2))
theorem wR_ownField_l2 (X : gX p s m args meth c cX5_ownField 4 RX5 (some .int) D (tyR cI cZ)) (n : Nat) : ∀ (k : Nat) (x1 : Int32) (x2 : Int32) (x3 : Int32) (M : MR), gG p l e (rmR 2 42) s m args below meth c 4 (ZR D cI cZ q (AR q s.heap.size) s.heap M) 0 0 (fun r => MQ below (QI D cI cZ q s.heap.size r) args s 0 0 (AR q s.heap.size)) 2 [(0, .ref (q 34)), (1, .int x1), (2, .int x2), (3, .int x3)] [] (fR_ownField_l2 n k x1 x2 x3 M) := by
  intro k
  induction k with
  | zero =>
    intro x1 x2 x3 M
    exact g_none
  | succ k ih =>
    intro x1 x2 x3 M
    rw [fR_ownField_l2]
    refine g_iload_n X dX5_ownField_2 rfl rfl ?_
    refine g_aload_n X dX5_ownField_3 rfl rfl ?_
    refine g_iload_n X dX5_ownField_4 rfl rfl ?_
    refine g_iconst (v := (1 : Int32)) X dX5_ownField_5 (by decide) ?_
    refine k_textOf X ⟨Nat.le_of_ble_eq_true rfl, Nat.le_of_ble_eq_true rfl⟩ (Nat.le_of_ble_eq_true rfl) dX5_ownField_6 ?_
    intro v1 M1
    refine g_icmp_ge (tgt := 38) X dX5_ownField_9 (by decide) ?_ ?_
    · refine g_iconst (v := (-1 : Int32)) X dX5_ownField_38 (by decide) ?_
      exact r_iret X dX5_ownField_39
    · refine g_aload_n X dX5_ownField_12 rfl rfl ?_
      refine g_iload_n X dX5_ownField_13 rfl rfl ?_
      refine g_iconst (v := (2 : Int32)) X dX5_ownField_14 (by decide) ?_
      refine g_iconst (v := (2 : Int32)) X dX5_ownField_15 (by decide) ?_
      refine g_iload_n X dX5_ownField_16 rfl rfl ?_
      refine g_imul X dX5_ownField_17 ?_
      refine g_iadd X dX5_ownField_18 ?_
      refine k_textOf X ⟨Nat.le_of_ble_eq_true rfl, Nat.le_of_ble_eq_true rfl⟩ (Nat.le_of_ble_eq_true rfl) dX5_ownField_19 ?_
      intro v2 M2
      refine g_iload_n X dX5_ownField_22 rfl rfl ?_
      refine g_icmp_ne (tgt := 32) X dX5_ownField_23 (by decide) ?_ ?_
      · refine g_iinc (v := (1 : Int32)) (lv' := [(3, .int (x3 + (1 : Int32))), (0, .ref (q 34)), (1, .int x1), (2, .int x2)]) X dX5_ownField_32 rfl (by decide) (by decide) rfl ?_
        refine g_goto (tgt := 2) X dX5_ownField_35 (by decide) ?_
        exact g_pick [1, 2, 3, 0] rfl (ih x1 x2 (x3 + (1 : Int32)) M2)
      · refine g_iconst (v := (3 : Int32)) X dX5_ownField_26 (by decide) ?_
        refine g_iconst (v := (2 : Int32)) X dX5_ownField_27 (by decide) ?_
        refine g_iload_n X dX5_ownField_28 rfl rfl ?_
        refine g_imul X dX5_ownField_29 ?_
        refine g_iadd X dX5_ownField_30 ?_
        exact r_iret X dX5_ownField_31
def fR_ownField (n : Nat) (x1 : Int32) (x2 : Int32) (M : MR) : Option (Int32 × MR) :=
    fR_ownField_l2 n n x1 x2 (0 : Int32) M
theorem c_ownField (l : Launch) (D : va_G) (cI cZ : ClassId) (q : Nat → Nat) (n : Nat) (x1 : Int32) (x2 : Int32) (M : MR) : MetR l D cI cZ q yX5_ownField cX5_ownField 4 (some .int) 2 42 QI [.ref (q 34), .int x1, .int x2] M (fR_ownField n x1 x2 M) := by
  refine MetR.of (by decide) rfl (Nat.le_of_ble_eq_true rfl) ?_
  intro p e s m args below meth c X
  unfold fR_ownField
  refine g_pick (lv' := [(0, .ref (q 34)), (1, .int x1), (2, .int x2)]) [0, 1, 2] rfl ?_
  refine g_iconst (v := (0 : Int32)) X dX5_ownField_0 (by decide) ?_
  refine g_istore_n (lv' := [(3, .int (0 : Int32)), (0, .ref (q 34)), (1, .int x1), (2, .int x2)]) X dX5_ownField_1 rfl (by decide) rfl ?_
  exact g_pick [1, 2, 3, 0] rfl (wR_ownField_l2 X n n x1 x2 (0 : Int32) M)
theorem tc_ownField : Cond.code yX5_ownField cX5_ownField 4 (some .int) ∈ tt := tt_in (List.mem_of_getElem? (i := 1015) (by decide +kernel)) (by decide +kernel)
theorem tl_ownField : Cond.methodLink RX5 144 yX5_ownField ∈ tt := tt_in (List.mem_of_getElem? (i := 1012) (by decide +kernel)) (by decide +kernel)
theorem ti_ownField : Cond.instanceMethod yX5_ownField ∈ tt := tt_in (List.mem_of_getElem? (i := 1014) (by decide +kernel)) (by decide +kernel)
theorem te_ownField : Cond.selects RX5 yX5_ownField yX5_ownField ∈ tt := tt_in (List.mem_of_getElem? (i := 64) (by decide +kernel)) (by decide +kernel)
theorem k_ownField (X : gX p s m args meth c cc nL RX5 rt D (tyR cI cZ)) {n : Nat} {x1 : Int32} {x2 : Int32} {M : MR} {rest : List Value} {K : Int32 → MR → Option ρ} (hR : 2 + 1 ≤ R.frames ∧ 8 + (4 + 11) + 42 ≤ R.locals) (hcat : (rest.map fun v => v.category).sum ≤ 8) (d : decode cc pc = .ok (.invokevirtual 144, 3)) (kk : ∀ v M1, gG p l e R s m args below meth c nL (ZR D cI cZ q (AR q s.heap.size) s.heap M1) 0 0 QQ (pc + 3) lv (.int v :: rest) (K v M1)) : gG p l e R s m args below meth c nL (ZR D cI cZ q (AR q s.heap.size) s.heap M) 0 0 QQ pc lv (.int x2 :: .int x1 :: .ref (q 34) :: rest) (bnd (fR_ownField n x1 x2 M) K) := r_callVi (As := [.int x1, .int x2]) X (c_ownField l D cI cZ q n x1 x2 M) (cwVR (k := 2) X.2.2.2.2.1 tl_ownField ti_ownField te_ownField tc_ownField ini5 (by decide +kernel) hR) rfl rfl hcat d kk
-- place0
def fR_place0 (n : Nat) (x1 : Int32) (M : MR) : Option (Int32 × MR) :=
    bnd (fR_textOf n x1 (1 : Int32) M) fun v1 M1 =>
    some (((2 : Int32) + ((2 : Int32) * v1)), M1)
theorem c_place0 (l : Launch) (D : va_G) (cI cZ : ClassId) (q : Nat → Nat) (n : Nat) (x1 : Int32) (M : MR) : MetR l D cI cZ q yX5_place0 cX5_place0 2 (some .int) 2 42 QI [.ref (q 34), .int x1] M (fR_place0 n x1 M) := by
  refine MetR.of (by decide) rfl (Nat.le_of_ble_eq_true rfl) ?_
  intro p e s m args below meth c X
  unfold fR_place0
  refine g_pick (lv' := [(0, .ref (q 34)), (1, .int x1)]) [0, 1] rfl ?_
  refine g_iconst (v := (2 : Int32)) X dX5_place0_0 (by decide) ?_
  refine g_iconst (v := (2 : Int32)) X dX5_place0_1 (by decide) ?_
  refine g_aload_n X dX5_place0_2 rfl rfl ?_
  refine g_iload_n X dX5_place0_3 rfl rfl ?_
  refine g_iconst (v := (1 : Int32)) X dX5_place0_4 (by decide) ?_
  refine k_textOf X ⟨Nat.le_of_ble_eq_true rfl, Nat.le_of_ble_eq_true rfl⟩ (Nat.le_of_ble_eq_true rfl) dX5_place0_5 ?_
  intro v1 M1
  refine g_imul X dX5_place0_8 ?_
  refine g_iadd X dX5_place0_9 ?_
  exact r_iret X dX5_place0_10
theorem tc_place0 : Cond.code yX5_place0 cX5_place0 2 (some .int) ∈ tt := tt_in (List.mem_of_getElem? (i := 996) (by decide +kernel)) (by decide +kernel)
theorem tl_place0 : Cond.methodLink RX5 132 yX5_place0 ∈ tt := tt_in (List.mem_of_getElem? (i := 993) (by decide +kernel)) (by decide +kernel)
theorem ti_place0 : Cond.instanceMethod yX5_place0 ∈ tt := tt_in (List.mem_of_getElem? (i := 995) (by decide +kernel)) (by decide +kernel)
theorem te_place0 : Cond.selects RX5 yX5_place0 yX5_place0 ∈ tt := tt_in (List.mem_of_getElem? (i := 60) (by decide +kernel)) (by decide +kernel)
theorem k_place0 (X : gX p s m args meth c cc nL RX5 rt D (tyR cI cZ)) {n : Nat} {x1 : Int32} {M : MR} {rest : List Value} {K : Int32 → MR → Option ρ} (hR : 2 + 1 ≤ R.frames ∧ 8 + (2 + 11) + 42 ≤ R.locals) (hcat : (rest.map fun v => v.category).sum ≤ 8) (d : decode cc pc = .ok (.invokevirtual 132, 3)) (kk : ∀ v M1, gG p l e R s m args below meth c nL (ZR D cI cZ q (AR q s.heap.size) s.heap M1) 0 0 QQ (pc + 3) lv (.int v :: rest) (K v M1)) : gG p l e R s m args below meth c nL (ZR D cI cZ q (AR q s.heap.size) s.heap M) 0 0 QQ pc lv (.int x1 :: .ref (q 34) :: rest) (bnd (fR_place0 n x1 M) K) := r_callVi (As := [.int x1]) X (c_place0 l D cI cZ q n x1 M) (cwVR (k := 1) X.2.2.2.2.1 tl_place0 ti_place0 te_place0 tc_place0 ini5 (by decide +kernel) hR) rfl rfl hcat d kk
-- methodPlace
def fR_methodPlace_l14 (n : Nat) : Nat → Int32 → Int32 → Int32 → Int32 → MR → Option (Int32 × MR)
  | 0, _, _, _, _, _ => none
  | k + 1, x1, x2, x3, x4, M => if x2 ≤ x4 then
      (bnd (fR_place0 n x1 M) fun v1 M1 =>
      bnd (fR_textOf n x1 v1 M1) fun v2 M2 =>
      if v2 ≤ x2 then (some (x3, M2)) else (some ((x3 + (1 : Int32)), M2)))
    else
      (bnd (fR_textOf n x1 (x3 + (1 : Int32)) M) fun v3 M3 =>
      (fR_methodPlace_l14 n k) x1 x2 (x3 + ((2 : Int32) + v3)) (x4 + (1 : Int32)) M3)
theorem wR_methodPlace_l14 (X : gX p s m args meth c cX5_methodPlace 5 RX5 (some .int) D (tyR cI cZ)) (n : Nat) : ∀ (k : Nat) (x1 : Int32) (x2 : Int32) (x3 : Int32) (x4 : Int32) (M : MR), gG p l e (rmR 3 63) s m args below meth c 5 (ZR D cI cZ q (AR q s.heap.size) s.heap M) 0 0 (fun r => MQ below (QI D cI cZ q s.heap.size r) args s 0 0 (AR q s.heap.size)) 14 [(0, .ref (q 34)), (1, .int x1), (2, .int x2), (3, .int x3), (4, .int x4)] [] (fR_methodPlace_l14 n k x1 x2 x3 x4 M) := by
  intro k
  induction k with
  | zero =>
    intro x1 x2 x3 x4 M
    exact g_none
  | succ k ih =>
    intro x1 x2 x3 x4 M
    rw [fR_methodPlace_l14]
    refine g_iload X dX5_methodPlace_14 rfl ?_
    refine g_iload_n X dX5_methodPlace_16 rfl rfl ?_
    refine g_icmp_ge (tgt := 39) X dX5_methodPlace_17 (by decide) ?_ ?_
    · refine g_iload_n X dX5_methodPlace_39 rfl rfl ?_
      refine g_aload_n X dX5_methodPlace_40 rfl rfl ?_
      refine g_iload_n X dX5_methodPlace_41 rfl rfl ?_
      refine g_aload_n X dX5_methodPlace_42 rfl rfl ?_
      refine g_iload_n X dX5_methodPlace_43 rfl rfl ?_
      refine k_place0 X ⟨Nat.le_of_ble_eq_true rfl, Nat.le_of_ble_eq_true rfl⟩ (Nat.le_of_ble_eq_true rfl) dX5_methodPlace_44 ?_
      intro v1 M1
      refine k_textOf X ⟨Nat.le_of_ble_eq_true rfl, Nat.le_of_ble_eq_true rfl⟩ (Nat.le_of_ble_eq_true rfl) dX5_methodPlace_47 ?_
      intro v2 M2
      refine g_icmp_ge (tgt := 59) X dX5_methodPlace_50 (by decide) ?_ ?_
      · refine g_iload_n X dX5_methodPlace_59 rfl rfl ?_
        exact r_iret X dX5_methodPlace_60
      · refine g_iload_n X dX5_methodPlace_53 rfl rfl ?_
        refine g_iconst (v := (1 : Int32)) X dX5_methodPlace_54 (by decide) ?_
        refine g_iadd X dX5_methodPlace_55 ?_
        refine g_goto (tgt := 60) X dX5_methodPlace_56 (by decide) ?_
        exact r_iret X dX5_methodPlace_60
    · refine g_iload_n X dX5_methodPlace_20 rfl rfl ?_
      refine g_iconst (v := (2 : Int32)) X dX5_methodPlace_21 (by decide) ?_
      refine g_aload_n X dX5_methodPlace_22 rfl rfl ?_
      refine g_iload_n X dX5_methodPlace_23 rfl rfl ?_
      refine g_iload_n X dX5_methodPlace_24 rfl rfl ?_
      refine g_iconst (v := (1 : Int32)) X dX5_methodPlace_25 (by decide) ?_
      refine g_iadd X dX5_methodPlace_26 ?_
      refine k_textOf X ⟨Nat.le_of_ble_eq_true rfl, Nat.le_of_ble_eq_true rfl⟩ (Nat.le_of_ble_eq_true rfl) dX5_methodPlace_27 ?_
      intro v3 M3
      refine g_iadd X dX5_methodPlace_30 ?_
      refine g_iadd X dX5_methodPlace_31 ?_
      refine g_istore_n (lv' := [(3, .int (x3 + ((2 : Int32) + v3))), (0, .ref (q 34)), (1, .int x1), (2, .int x2), (4, .int x4)]) X dX5_methodPlace_32 rfl (by decide) rfl ?_
      refine g_iinc (v := (1 : Int32)) (lv' := [(4, .int (x4 + (1 : Int32))), (3, .int (x3 + ((2 : Int32) + v3))), (0, .ref (q 34)), (1, .int x1), (2, .int x2)]) X dX5_methodPlace_33 rfl (by decide) (by decide) rfl ?_
      refine g_goto (tgt := 14) X dX5_methodPlace_36 (by decide) ?_
      exact g_pick [2, 3, 4, 1, 0] rfl (ih x1 x2 (x3 + ((2 : Int32) + v3)) (x4 + (1 : Int32)) M3)
def fR_methodPlace (n : Nat) (x1 : Int32) (x2 : Int32) (M : MR) : Option (Int32 × MR) :=
    bnd (fR_textOf n x1 (1 : Int32) M) fun v1 M1 =>
    fR_methodPlace_l14 n n x1 x2 ((3 : Int32) + ((2 : Int32) * v1)) (0 : Int32) M1
theorem c_methodPlace (l : Launch) (D : va_G) (cI cZ : ClassId) (q : Nat → Nat) (n : Nat) (x1 : Int32) (x2 : Int32) (M : MR) : MetR l D cI cZ q yX5_methodPlace cX5_methodPlace 5 (some .int) 3 63 QI [.ref (q 34), .int x1, .int x2] M (fR_methodPlace n x1 x2 M) := by
  refine MetR.of (by decide) rfl (Nat.le_of_ble_eq_true rfl) ?_
  intro p e s m args below meth c X
  unfold fR_methodPlace
  refine g_pick (lv' := [(0, .ref (q 34)), (1, .int x1), (2, .int x2)]) [0, 1, 2] rfl ?_
  refine g_iconst (v := (3 : Int32)) X dX5_methodPlace_0 (by decide) ?_
  refine g_iconst (v := (2 : Int32)) X dX5_methodPlace_1 (by decide) ?_
  refine g_aload_n X dX5_methodPlace_2 rfl rfl ?_
  refine g_iload_n X dX5_methodPlace_3 rfl rfl ?_
  refine g_iconst (v := (1 : Int32)) X dX5_methodPlace_4 (by decide) ?_
  refine k_textOf X ⟨Nat.le_of_ble_eq_true rfl, Nat.le_of_ble_eq_true rfl⟩ (Nat.le_of_ble_eq_true rfl) dX5_methodPlace_5 ?_
  intro v1 M1
  refine g_imul X dX5_methodPlace_8 ?_
  refine g_iadd X dX5_methodPlace_9 ?_
  refine g_istore_n (lv' := [(3, .int ((3 : Int32) + ((2 : Int32) * v1))), (0, .ref (q 34)), (1, .int x1), (2, .int x2)]) X dX5_methodPlace_10 rfl (by decide) rfl ?_
  refine g_iconst (v := (0 : Int32)) X dX5_methodPlace_11 (by decide) ?_
  refine g_istore (lv' := [(4, .int (0 : Int32)), (3, .int ((3 : Int32) + ((2 : Int32) * v1))), (0, .ref (q 34)), (1, .int x1), (2, .int x2)]) X dX5_methodPlace_12 (by decide) rfl ?_
  exact g_pick [2, 3, 4, 1, 0] rfl (wR_methodPlace_l14 X n n x1 x2 ((3 : Int32) + ((2 : Int32) * v1)) (0 : Int32) M1)
theorem tc_methodPlace : Cond.code yX5_methodPlace cX5_methodPlace 5 (some .int) ∈ tt := tt_in (List.mem_of_getElem? (i := 1000) (by decide +kernel)) (by decide +kernel)
theorem tl_methodPlace : Cond.methodLink RX5 135 yX5_methodPlace ∈ tt := tt_in (List.mem_of_getElem? (i := 997) (by decide +kernel)) (by decide +kernel)
theorem ti_methodPlace : Cond.instanceMethod yX5_methodPlace ∈ tt := tt_in (List.mem_of_getElem? (i := 999) (by decide +kernel)) (by decide +kernel)
theorem te_methodPlace : Cond.selects RX5 yX5_methodPlace yX5_methodPlace ∈ tt := tt_in (List.mem_of_getElem? (i := 61) (by decide +kernel)) (by decide +kernel)
theorem k_methodPlace (X : gX p s m args meth c cc nL RX5 rt D (tyR cI cZ)) {n : Nat} {x1 : Int32} {x2 : Int32} {M : MR} {rest : List Value} {K : Int32 → MR → Option ρ} (hR : 3 + 1 ≤ R.frames ∧ 8 + (5 + 11) + 63 ≤ R.locals) (hcat : (rest.map fun v => v.category).sum ≤ 8) (d : decode cc pc = .ok (.invokevirtual 135, 3)) (kk : ∀ v M1, gG p l e R s m args below meth c nL (ZR D cI cZ q (AR q s.heap.size) s.heap M1) 0 0 QQ (pc + 3) lv (.int v :: rest) (K v M1)) : gG p l e R s m args below meth c nL (ZR D cI cZ q (AR q s.heap.size) s.heap M) 0 0 QQ pc lv (.int x2 :: .int x1 :: .ref (q 34) :: rest) (bnd (fR_methodPlace n x1 x2 M) K) := r_callVi (As := [.int x1, .int x2]) X (c_methodPlace l D cI cZ q n x1 x2 M) (cwVR (k := 2) X.2.2.2.2.1 tl_methodPlace ti_methodPlace te_methodPlace tc_methodPlace ini5 (by decide +kernel) hR) rfl rfl hcat d kk
-- ownMethod
def fR_ownMethod_l2 (n : Nat) : Nat → Int32 → Int32 → Int32 → MR → Option (Int32 × MR)
  | 0, _, _, _, _ => none
  | k + 1, x1, x2, x3, M => bnd (fR_place0 n x1 M) fun v1 M1 =>
    bnd (fR_textOf n x1 v1 M1) fun v2 M2 =>
    if v2 ≤ x3 then
      (some ((-1 : Int32), M2))
    else
      (bnd (fR_methodPlace n x1 x3 M2) fun v3 M3 =>
      bnd (fR_textOf n x1 (v3 - (1 : Int32)) M3) fun v4 M4 =>
      if v4 = x2 then (some (v3, M4)) else ((fR_ownMethod_l2 n k) x1 x2 (x3 + (1 : Int32)) M4))
theorem wR_ownMethod_l2 (X : gX p s m args meth c cX5_ownMethod 5 RX5 (some .int) D (tyR cI cZ)) (n : Nat) : ∀ (k : Nat) (x1 : Int32) (x2 : Int32) (x3 : Int32) (M : MR), gG p l e (rmR 4 87) s m args below meth c 5 (ZR D cI cZ q (AR q s.heap.size) s.heap M) 0 0 (fun r => MQ below (QI D cI cZ q s.heap.size r) args s 0 0 (AR q s.heap.size)) 2 [(0, .ref (q 34)), (1, .int x1), (2, .int x2), (3, .int x3)] [] (fR_ownMethod_l2 n k x1 x2 x3 M) := by
  intro k
  induction k with
  | zero =>
    intro x1 x2 x3 M
    exact g_none
  | succ k ih =>
    intro x1 x2 x3 M
    rw [fR_ownMethod_l2]
    refine g_iload_n X dX5_ownMethod_2 rfl rfl ?_
    refine g_aload_n X dX5_ownMethod_3 rfl rfl ?_
    refine g_iload_n X dX5_ownMethod_4 rfl rfl ?_
    refine g_aload_n X dX5_ownMethod_5 rfl rfl ?_
    refine g_iload_n X dX5_ownMethod_6 rfl rfl ?_
    refine k_place0 X ⟨Nat.le_of_ble_eq_true rfl, Nat.le_of_ble_eq_true rfl⟩ (Nat.le_of_ble_eq_true rfl) dX5_ownMethod_7 ?_
    intro v1 M1
    refine k_textOf X ⟨Nat.le_of_ble_eq_true rfl, Nat.le_of_ble_eq_true rfl⟩ (Nat.le_of_ble_eq_true rfl) dX5_ownMethod_10 ?_
    intro v2 M2
    refine g_icmp_ge (tgt := 46) X dX5_ownMethod_13 (by decide) ?_ ?_
    · refine g_iconst (v := (-1 : Int32)) X dX5_ownMethod_46 (by decide) ?_
      exact r_iret X dX5_ownMethod_47
    · refine g_aload_n X dX5_ownMethod_16 rfl rfl ?_
      refine g_iload_n X dX5_ownMethod_17 rfl rfl ?_
      refine g_iload_n X dX5_ownMethod_18 rfl rfl ?_
      refine k_methodPlace X ⟨Nat.le_of_ble_eq_true rfl, Nat.le_of_ble_eq_true rfl⟩ (Nat.le_of_ble_eq_true rfl) dX5_ownMethod_19 ?_
      intro v3 M3
      refine g_istore (lv' := [(4, .int v3), (0, .ref (q 34)), (1, .int x1), (2, .int x2), (3, .int x3)]) X dX5_ownMethod_22 (by decide) rfl ?_
      refine g_aload_n X dX5_ownMethod_24 rfl rfl ?_
      refine g_iload_n X dX5_ownMethod_25 rfl rfl ?_
      refine g_iload X dX5_ownMethod_26 rfl ?_
      refine g_iconst (v := (1 : Int32)) X dX5_ownMethod_28 (by decide) ?_
      refine g_isub X dX5_ownMethod_29 ?_
      refine k_textOf X ⟨Nat.le_of_ble_eq_true rfl, Nat.le_of_ble_eq_true rfl⟩ (Nat.le_of_ble_eq_true rfl) dX5_ownMethod_30 ?_
      intro v4 M4
      refine g_iload_n X dX5_ownMethod_33 rfl rfl ?_
      refine g_icmp_ne (tgt := 40) X dX5_ownMethod_34 (by decide) ?_ ?_
      · refine g_iinc (v := (1 : Int32)) (lv' := [(3, .int (x3 + (1 : Int32))), (4, .int v3), (0, .ref (q 34)), (1, .int x1), (2, .int x2)]) X dX5_ownMethod_40 rfl (by decide) (by decide) rfl ?_
        refine g_goto (tgt := 2) X dX5_ownMethod_43 (by decide) ?_
        exact g_pick [2, 3, 4, 0] rfl (ih x1 x2 (x3 + (1 : Int32)) M4)
      · refine g_iload X dX5_ownMethod_37 rfl ?_
        exact r_iret X dX5_ownMethod_39
def fR_ownMethod (n : Nat) (x1 : Int32) (x2 : Int32) (M : MR) : Option (Int32 × MR) :=
    fR_ownMethod_l2 n n x1 x2 (0 : Int32) M
theorem c_ownMethod (l : Launch) (D : va_G) (cI cZ : ClassId) (q : Nat → Nat) (n : Nat) (x1 : Int32) (x2 : Int32) (M : MR) : MetR l D cI cZ q yX5_ownMethod cX5_ownMethod 5 (some .int) 4 87 QI [.ref (q 34), .int x1, .int x2] M (fR_ownMethod n x1 x2 M) := by
  refine MetR.of (by decide) rfl (Nat.le_of_ble_eq_true rfl) ?_
  intro p e s m args below meth c X
  unfold fR_ownMethod
  refine g_pick (lv' := [(0, .ref (q 34)), (1, .int x1), (2, .int x2)]) [0, 1, 2] rfl ?_
  refine g_iconst (v := (0 : Int32)) X dX5_ownMethod_0 (by decide) ?_
  refine g_istore_n (lv' := [(3, .int (0 : Int32)), (0, .ref (q 34)), (1, .int x1), (2, .int x2)]) X dX5_ownMethod_1 rfl (by decide) rfl ?_
  exact g_pick [1, 2, 3, 0] rfl (wR_ownMethod_l2 X n n x1 x2 (0 : Int32) M)
theorem tc_ownMethod : Cond.code yX5_ownMethod cX5_ownMethod 5 (some .int) ∈ tt := tt_in (List.mem_of_getElem? (i := 1039) (by decide +kernel)) (by decide +kernel)
theorem tl_ownMethod : Cond.methodLink RX5 208 yX5_ownMethod ∈ tt := tt_in (List.mem_of_getElem? (i := 1036) (by decide +kernel)) (by decide +kernel)
theorem ti_ownMethod : Cond.instanceMethod yX5_ownMethod ∈ tt := tt_in (List.mem_of_getElem? (i := 1038) (by decide +kernel)) (by decide +kernel)
theorem te_ownMethod : Cond.selects RX5 yX5_ownMethod yX5_ownMethod ∈ tt := tt_in (List.mem_of_getElem? (i := 70) (by decide +kernel)) (by decide +kernel)
theorem k_ownMethod (X : gX p s m args meth c cc nL RX5 rt D (tyR cI cZ)) {n : Nat} {x1 : Int32} {x2 : Int32} {M : MR} {rest : List Value} {K : Int32 → MR → Option ρ} (hR : 4 + 1 ≤ R.frames ∧ 8 + (5 + 11) + 87 ≤ R.locals) (hcat : (rest.map fun v => v.category).sum ≤ 8) (d : decode cc pc = .ok (.invokevirtual 208, 3)) (kk : ∀ v M1, gG p l e R s m args below meth c nL (ZR D cI cZ q (AR q s.heap.size) s.heap M1) 0 0 QQ (pc + 3) lv (.int v :: rest) (K v M1)) : gG p l e R s m args below meth c nL (ZR D cI cZ q (AR q s.heap.size) s.heap M) 0 0 QQ pc lv (.int x2 :: .int x1 :: .ref (q 34) :: rest) (bnd (fR_ownMethod n x1 x2 M) K) := r_callVi (As := [.int x1, .int x2]) X (c_ownMethod l D cI cZ q n x1 x2 M) (cwVR (k := 2) X.2.2.2.2.1 tl_ownMethod ti_ownMethod te_ownMethod tc_ownMethod ini5 (by decide +kernel) hR) rfl rfl hcat d kk
-- startPlace
def fR_startPlace (n : Nat) (x1 : Int32) (M : MR) : Option (Int32 × MR) :=
    bnd (fR_place0 n x1 M) fun v1 M1 =>
    bnd (fR_textOf n x1 v1 M1) fun v2 M2 =>
    bnd (fR_methodPlace n x1 v2 M2) fun v3 M3 =>
    some (v3, M3)
theorem c_startPlace (l : Launch) (D : va_G) (cI cZ : ClassId) (q : Nat → Nat) (n : Nat) (x1 : Int32) (M : MR) : MetR l D cI cZ q yX5_startPlace cX5_startPlace 2 (some .int) 4 87 QI [.ref (q 34), .int x1] M (fR_startPlace n x1 M) := by
  refine MetR.of (by decide) rfl (Nat.le_of_ble_eq_true rfl) ?_
  intro p e s m args below meth c X
  unfold fR_startPlace
  refine g_pick (lv' := [(0, .ref (q 34)), (1, .int x1)]) [0, 1] rfl ?_
  refine g_aload_n X dX5_startPlace_0 rfl rfl ?_
  refine g_iload_n X dX5_startPlace_1 rfl rfl ?_
  refine g_aload_n X dX5_startPlace_2 rfl rfl ?_
  refine g_iload_n X dX5_startPlace_3 rfl rfl ?_
  refine g_aload_n X dX5_startPlace_4 rfl rfl ?_
  refine g_iload_n X dX5_startPlace_5 rfl rfl ?_
  refine k_place0 X ⟨Nat.le_of_ble_eq_true rfl, Nat.le_of_ble_eq_true rfl⟩ (Nat.le_of_ble_eq_true rfl) dX5_startPlace_6 ?_
  intro v1 M1
  refine k_textOf X ⟨Nat.le_of_ble_eq_true rfl, Nat.le_of_ble_eq_true rfl⟩ (Nat.le_of_ble_eq_true rfl) dX5_startPlace_9 ?_
  intro v2 M2
  refine k_methodPlace X ⟨Nat.le_of_ble_eq_true rfl, Nat.le_of_ble_eq_true rfl⟩ (Nat.le_of_ble_eq_true rfl) dX5_startPlace_12 ?_
  intro v3 M3
  exact r_iret X dX5_startPlace_15
theorem tc_startPlace : Cond.code yX5_startPlace cX5_startPlace 2 (some .int) ∈ tt := tt_in (List.mem_of_getElem? (i := 992) (by decide +kernel)) (by decide +kernel)
theorem tl_startPlace : Cond.methodLink RX5 224 yX5_startPlace ∈ tt := tt_in (List.mem_of_getElem? (i := 989) (by decide +kernel)) (by decide +kernel)
theorem ti_startPlace : Cond.instanceMethod yX5_startPlace ∈ tt := tt_in (List.mem_of_getElem? (i := 991) (by decide +kernel)) (by decide +kernel)
theorem te_startPlace : Cond.selects RX5 yX5_startPlace yX5_startPlace ∈ tt := tt_in (List.mem_of_getElem? (i := 59) (by decide +kernel)) (by decide +kernel)
theorem k_startPlace (X : gX p s m args meth c cc nL RX5 rt D (tyR cI cZ)) {n : Nat} {x1 : Int32} {M : MR} {rest : List Value} {K : Int32 → MR → Option ρ} (hR : 4 + 1 ≤ R.frames ∧ 8 + (2 + 11) + 87 ≤ R.locals) (hcat : (rest.map fun v => v.category).sum ≤ 8) (d : decode cc pc = .ok (.invokevirtual 224, 3)) (kk : ∀ v M1, gG p l e R s m args below meth c nL (ZR D cI cZ q (AR q s.heap.size) s.heap M1) 0 0 QQ (pc + 3) lv (.int v :: rest) (K v M1)) : gG p l e R s m args below meth c nL (ZR D cI cZ q (AR q s.heap.size) s.heap M) 0 0 QQ pc lv (.int x1 :: .ref (q 34) :: rest) (bnd (fR_startPlace n x1 M) K) := r_callVi (As := [.int x1]) X (c_startPlace l D cI cZ q n x1 M) (cwVR (k := 1) X.2.2.2.2.1 tl_startPlace ti_startPlace te_startPlace tc_startPlace ini5 (by decide +kernel) hR) rfl rfl hcat d kk
-- lengthOf
def fR_lengthOf (n : Nat) (x1 : Int32) (M : MR) : Option (Int32 × MR) :=
    bnd (fR_editAt n x1 M) fun v1 M1 =>
    rd M1 0 62610 (v1 + (7 : Int32)) fun v2 =>
    some (v2, M1)
theorem c_lengthOf (l : Launch) (D : va_G) (cI cZ : ClassId) (q : Nat → Nat) (n : Nat) (x1 : Int32) (M : MR) : MetR l D cI cZ q yX5_lengthOf cX5_lengthOf 2 (some .int) 1 20 QI [.ref (q 34), .int x1] M (fR_lengthOf n x1 M) := by
  refine MetR.of (by decide) rfl (Nat.le_of_ble_eq_true rfl) ?_
  intro p e s m args below meth c X
  unfold fR_lengthOf
  refine g_pick (lv' := [(0, .ref (q 34)), (1, .int x1)]) [0, 1] rfl ?_
  refine g_aload_n X dX5_lengthOf_0 rfl rfl ?_
  refine r_g_m X dX5_lengthOf_1 ?_
  refine g_iload_n X dX5_lengthOf_4 rfl rfl ?_
  refine k_editAt X ⟨Nat.le_of_ble_eq_true rfl, Nat.le_of_ble_eq_true rfl⟩ (Nat.le_of_ble_eq_true rfl) dX5_lengthOf_5 ?_
  intro v1 M1
  refine g_bipush (v := (7 : Int32)) X dX5_lengthOf_8 (by decide) ?_
  refine g_iadd X dX5_lengthOf_10 ?_
  refine r_l_m X dX5_lengthOf_11 ?_
  intro v2
  exact r_iret X dX5_lengthOf_12
theorem tc_lengthOf : Cond.code yX5_lengthOf cX5_lengthOf 2 (some .int) ∈ tt := tt_in (List.mem_of_getElem? (i := 1004) (by decide +kernel)) (by decide +kernel)
theorem tl_lengthOf : Cond.methodLink RX5 227 yX5_lengthOf ∈ tt := tt_in (List.mem_of_getElem? (i := 1001) (by decide +kernel)) (by decide +kernel)
theorem ti_lengthOf : Cond.instanceMethod yX5_lengthOf ∈ tt := tt_in (List.mem_of_getElem? (i := 1003) (by decide +kernel)) (by decide +kernel)
theorem te_lengthOf : Cond.selects RX5 yX5_lengthOf yX5_lengthOf ∈ tt := tt_in (List.mem_of_getElem? (i := 62) (by decide +kernel)) (by decide +kernel)
theorem k_lengthOf (X : gX p s m args meth c cc nL RX5 rt D (tyR cI cZ)) {n : Nat} {x1 : Int32} {M : MR} {rest : List Value} {K : Int32 → MR → Option ρ} (hR : 1 + 1 ≤ R.frames ∧ 8 + (2 + 11) + 20 ≤ R.locals) (hcat : (rest.map fun v => v.category).sum ≤ 8) (d : decode cc pc = .ok (.invokevirtual 227, 3)) (kk : ∀ v M1, gG p l e R s m args below meth c nL (ZR D cI cZ q (AR q s.heap.size) s.heap M1) 0 0 QQ (pc + 3) lv (.int v :: rest) (K v M1)) : gG p l e R s m args below meth c nL (ZR D cI cZ q (AR q s.heap.size) s.heap M) 0 0 QQ pc lv (.int x1 :: .ref (q 34) :: rest) (bnd (fR_lengthOf n x1 M) K) := r_callVi (As := [.int x1]) X (c_lengthOf l D cI cZ q n x1 M) (cwVR (k := 1) X.2.2.2.2.1 tl_lengthOf ti_lengthOf te_lengthOf tc_lengthOf ini5 (by decide +kernel) hR) rfl rfl hcat d kk
-- isBelow
def fR_isBelow_b20 (n : Nat) (x2 : Int32) (x3 : Int32) (M : MR) : Option (Int32 × MR) :=
    if x3 = x2 then (zt (1 : Int32) (some ((1 : Int32), M))) else (zt (0 : Int32) (some ((0 : Int32), M)))
theorem wR_isBelow_b20 (X : gX p s m args meth c cX5_isBelow 4 RX5 (some .boolean) D (tyR cI cZ)) (n : Nat) (x2 : Int32) (x3 : Int32) (M : MR) : gG p l e (rmR 3 63) s m args below meth c 4 (ZR D cI cZ q (AR q s.heap.size) s.heap M) 0 0 (fun r => MQ below (QI D cI cZ q s.heap.size r) args s 0 0 (AR q s.heap.size)) 20 [(2, .int x2), (3, .int x3)] [] (fR_isBelow_b20 n x2 x3 M) := by
  unfold fR_isBelow_b20
  refine g_iload_n X dX5_isBelow_20 rfl rfl ?_
  refine g_iload_n X dX5_isBelow_21 rfl rfl ?_
  refine g_icmp_ne (tgt := 29) X dX5_isBelow_22 (by decide) ?_ ?_
  · refine g_iconst (v := (0 : Int32)) X dX5_isBelow_29 (by decide) ?_
    exact r_zret X dX5_isBelow_30
  · refine g_iconst (v := (1 : Int32)) X dX5_isBelow_25 (by decide) ?_
    refine g_goto (tgt := 30) X dX5_isBelow_26 (by decide) ?_
    exact r_zret X dX5_isBelow_30
def fR_isBelow_l2 (n : Nat) : Nat → Int32 → Int32 → MR → Option (Int32 × MR)
  | 0, _, _, _ => none
  | k + 1, x2, x3, M => if x3 < 0 then
      (fR_isBelow_b20 n x2 x3 M)
    else
      (if x3 = x2 then
        (fR_isBelow_b20 n x2 x3 M)
      else
        (bnd (fR_parentOf n x3 M) fun v1 M1 =>
        (fR_isBelow_l2 n k) x2 v1 M1))
theorem wR_isBelow_l2 (X : gX p s m args meth c cX5_isBelow 4 RX5 (some .boolean) D (tyR cI cZ)) (n : Nat) : ∀ (k : Nat) (x2 : Int32) (x3 : Int32) (M : MR), gG p l e (rmR 3 63) s m args below meth c 4 (ZR D cI cZ q (AR q s.heap.size) s.heap M) 0 0 (fun r => MQ below (QI D cI cZ q s.heap.size r) args s 0 0 (AR q s.heap.size)) 2 [(0, .ref (q 34)), (2, .int x2), (3, .int x3)] [] (fR_isBelow_l2 n k x2 x3 M) := by
  intro k
  induction k with
  | zero =>
    intro x2 x3 M
    exact g_none
  | succ k ih =>
    intro x2 x3 M
    rw [fR_isBelow_l2]
    refine g_iload_n X dX5_isBelow_2 rfl rfl ?_
    refine g_if_lt (tgt := 20) X dX5_isBelow_3 (by decide) ?_ ?_
    · exact g_pick [1, 2] rfl (wR_isBelow_b20 X n x2 x3 M)
    · refine g_iload_n X dX5_isBelow_6 rfl rfl ?_
      refine g_iload_n X dX5_isBelow_7 rfl rfl ?_
      refine g_icmp_eq (tgt := 20) X dX5_isBelow_8 (by decide) ?_ ?_
      · exact g_pick [1, 2] rfl (wR_isBelow_b20 X n x2 x3 M)
      · refine g_aload_n X dX5_isBelow_11 rfl rfl ?_
        refine g_iload_n X dX5_isBelow_12 rfl rfl ?_
        refine k_parentOf X ⟨Nat.le_of_ble_eq_true rfl, Nat.le_of_ble_eq_true rfl⟩ (Nat.le_of_ble_eq_true rfl) dX5_isBelow_13 ?_
        intro v1 M1
        refine g_istore_n (lv' := [(3, .int v1), (0, .ref (q 34)), (2, .int x2)]) X dX5_isBelow_16 rfl (by decide) rfl ?_
        refine g_goto (tgt := 2) X dX5_isBelow_17 (by decide) ?_
        exact g_pick [1, 2, 0] rfl (ih x2 v1 M1)
def fR_isBelow (n : Nat) (x1 : Int32) (x2 : Int32) (M : MR) : Option (Int32 × MR) :=
    fR_isBelow_l2 n n x2 x1 M
theorem c_isBelow (l : Launch) (D : va_G) (cI cZ : ClassId) (q : Nat → Nat) (n : Nat) (x1 : Int32) (x2 : Int32) (M : MR) : MetR l D cI cZ q yX5_isBelow cX5_isBelow 4 (some .boolean) 3 63 QI [.ref (q 34), .int x1, .int x2] M (fR_isBelow n x1 x2 M) := by
  refine MetR.of (by decide) rfl (Nat.le_of_ble_eq_true rfl) ?_
  intro p e s m args below meth c X
  unfold fR_isBelow
  refine g_pick (lv' := [(0, .ref (q 34)), (1, .int x1), (2, .int x2)]) [0, 1, 2] rfl ?_
  refine g_iload_n X dX5_isBelow_0 rfl rfl ?_
  refine g_istore_n (lv' := [(3, .int x1), (0, .ref (q 34)), (1, .int x1), (2, .int x2)]) X dX5_isBelow_1 rfl (by decide) rfl ?_
  exact g_pick [1, 3, 0] rfl (wR_isBelow_l2 X n n x2 x1 M)
theorem tc_isBelow : Cond.code yX5_isBelow cX5_isBelow 4 (some .boolean) ∈ tt := tt_in (List.mem_of_getElem? (i := 1027) (by decide +kernel)) (by decide +kernel)
theorem tl_isBelow : Cond.methodLink RX5 201 yX5_isBelow ∈ tt := tt_in (List.mem_of_getElem? (i := 1024) (by decide +kernel)) (by decide +kernel)
theorem ti_isBelow : Cond.instanceMethod yX5_isBelow ∈ tt := tt_in (List.mem_of_getElem? (i := 1026) (by decide +kernel)) (by decide +kernel)
theorem te_isBelow : Cond.selects RX5 yX5_isBelow yX5_isBelow ∈ tt := tt_in (List.mem_of_getElem? (i := 67) (by decide +kernel)) (by decide +kernel)
theorem k_isBelow (X : gX p s m args meth c cc nL RX5 rt D (tyR cI cZ)) {n : Nat} {x1 : Int32} {x2 : Int32} {M : MR} {rest : List Value} {K : Int32 → MR → Option ρ} (hR : 3 + 1 ≤ R.frames ∧ 8 + (4 + 11) + 63 ≤ R.locals) (hcat : (rest.map fun v => v.category).sum ≤ 8) (d : decode cc pc = .ok (.invokevirtual 201, 3)) (kk : ∀ v M1, gG p l e R s m args below meth c nL (ZR D cI cZ q (AR q s.heap.size) s.heap M1) 0 0 QQ (pc + 3) lv (.int v :: rest) (K v M1)) : gG p l e R s m args below meth c nL (ZR D cI cZ q (AR q s.heap.size) s.heap M) 0 0 QQ pc lv (.int x2 :: .int x1 :: .ref (q 34) :: rest) (bnd (fR_isBelow n x1 x2 M) K) := r_callVi (As := [.int x1, .int x2]) X (c_isBelow l D cI cZ q n x1 x2 M) (cwVR (k := 2) X.2.2.2.2.1 tl_isBelow ti_isBelow te_isBelow tc_isBelow ini5 (by decide +kernel) hR) rfl rfl hcat d kk
end RM
end
section
theorem dX5_newObject_0 : decode cX5_newObject 0 = .ok (.aload_n 0, 1) := by decide +kernel
theorem dX5_newObject_1 : decode cX5_newObject 1 = .ok (.getfield 8, 3) := by decide +kernel
theorem dX5_newObject_4 : decode cX5_newObject 4 = .ok (.iconst 2, 1) := by decide +kernel
theorem dX5_newObject_5 : decode cX5_newObject 5 = .ok (.iaload, 1) := by decide +kernel
theorem dX5_newObject_6 : decode cX5_newObject 6 = .ok (.istore_n 2, 1) := by decide +kernel
theorem dX5_newObject_7 : decode cX5_newObject 7 = .ok (.aload_n 0, 1) := by decide +kernel
theorem dX5_newObject_8 : decode cX5_newObject 8 = .ok (.getfield 8, 3) := by decide +kernel
theorem dX5_newObject_11 : decode cX5_newObject 11 = .ok (.iconst 2, 1) := by decide +kernel
theorem dX5_newObject_12 : decode cX5_newObject 12 = .ok (.dup2, 1) := by decide +kernel
theorem dX5_newObject_13 : decode cX5_newObject 13 = .ok (.iaload, 1) := by decide +kernel
theorem dX5_newObject_14 : decode cX5_newObject 14 = .ok (.iconst 1, 1) := by decide +kernel
theorem dX5_newObject_15 : decode cX5_newObject 15 = .ok (.iadd, 1) := by decide +kernel
theorem dX5_newObject_16 : decode cX5_newObject 16 = .ok (.iastore, 1) := by decide +kernel
theorem dX5_newObject_17 : decode cX5_newObject 17 = .ok (.aload_n 0, 1) := by decide +kernel
theorem dX5_newObject_18 : decode cX5_newObject 18 = .ok (.getfield 8, 3) := by decide +kernel
theorem dX5_newObject_21 : decode cX5_newObject 21 = .ok (.iload_n 2, 1) := by decide +kernel
theorem dX5_newObject_22 : decode cX5_newObject 22 = .ok (.invokestatic 141, 3) := by decide +kernel
theorem dX5_newObject_25 : decode cX5_newObject 25 = .ok (.iload_n 1, 1) := by decide +kernel
theorem dX5_newObject_26 : decode cX5_newObject 26 = .ok (.iastore, 1) := by decide +kernel
theorem dX5_newObject_27 : decode cX5_newObject 27 = .ok (.aload_n 0, 1) := by decide +kernel
theorem dX5_newObject_28 : decode cX5_newObject 28 = .ok (.getfield 8, 3) := by decide +kernel
theorem dX5_newObject_31 : decode cX5_newObject 31 = .ok (.iload_n 1, 1) := by decide +kernel
theorem dX5_newObject_32 : decode cX5_newObject 32 = .ok (.invokestatic 73, 3) := by decide +kernel
theorem dX5_newObject_35 : decode cX5_newObject 35 = .ok (.bipush 6, 2) := by decide +kernel
theorem dX5_newObject_37 : decode cX5_newObject 37 = .ok (.iadd, 1) := by decide +kernel
theorem dX5_newObject_38 : decode cX5_newObject 38 = .ok (.dup2, 1) := by decide +kernel
theorem dX5_newObject_39 : decode cX5_newObject 39 = .ok (.iaload, 1) := by decide +kernel
theorem dX5_newObject_40 : decode cX5_newObject 40 = .ok (.iconst 1, 1) := by decide +kernel
theorem dX5_newObject_41 : decode cX5_newObject 41 = .ok (.iadd, 1) := by decide +kernel
theorem dX5_newObject_42 : decode cX5_newObject 42 = .ok (.iastore, 1) := by decide +kernel
theorem dX5_newObject_43 : decode cX5_newObject 43 = .ok (.iconst 0, 1) := by decide +kernel
theorem dX5_newObject_44 : decode cX5_newObject 44 = .ok (.istore_n 3, 1) := by decide +kernel
theorem dX5_newObject_45 : decode cX5_newObject 45 = .ok (.iload_n 3, 1) := by decide +kernel
theorem dX5_newObject_46 : decode cX5_newObject 46 = .ok (.bipush 10, 2) := by decide +kernel
theorem dX5_newObject_48 : decode cX5_newObject 48 = .ok (.if_icmp .ge 113, 3) := by decide +kernel
theorem dX5_newObject_51 : decode cX5_newObject 51 = .ok (.aload_n 0, 1) := by decide +kernel
theorem dX5_newObject_52 : decode cX5_newObject 52 = .ok (.getfield 8, 3) := by decide +kernel
theorem dX5_newObject_55 : decode cX5_newObject 55 = .ok (.iload_n 2, 1) := by decide +kernel
theorem dX5_newObject_56 : decode cX5_newObject 56 = .ok (.invokestatic 141, 3) := by decide +kernel
theorem dX5_newObject_59 : decode cX5_newObject 59 = .ok (.iconst 1, 1) := by decide +kernel
theorem dX5_newObject_60 : decode cX5_newObject 60 = .ok (.iadd, 1) := by decide +kernel
theorem dX5_newObject_61 : decode cX5_newObject 61 = .ok (.iload_n 3, 1) := by decide +kernel
theorem dX5_newObject_62 : decode cX5_newObject 62 = .ok (.iadd, 1) := by decide +kernel
theorem dX5_newObject_63 : decode cX5_newObject 63 = .ok (.iconst 0, 1) := by decide +kernel
theorem dX5_newObject_64 : decode cX5_newObject 64 = .ok (.iastore, 1) := by decide +kernel
theorem dX5_newObject_65 : decode cX5_newObject 65 = .ok (.aload_n 0, 1) := by decide +kernel
theorem dX5_newObject_66 : decode cX5_newObject 66 = .ok (.getfield 8, 3) := by decide +kernel
theorem dX5_newObject_69 : decode cX5_newObject 69 = .ok (.iload_n 2, 1) := by decide +kernel
theorem dX5_newObject_70 : decode cX5_newObject 70 = .ok (.invokestatic 141, 3) := by decide +kernel
theorem dX5_newObject_73 : decode cX5_newObject 73 = .ok (.bipush 11, 2) := by decide +kernel
theorem dX5_newObject_75 : decode cX5_newObject 75 = .ok (.iadd, 1) := by decide +kernel
theorem dX5_newObject_76 : decode cX5_newObject 76 = .ok (.iload_n 3, 1) := by decide +kernel
theorem dX5_newObject_77 : decode cX5_newObject 77 = .ok (.iadd, 1) := by decide +kernel
theorem dX5_newObject_78 : decode cX5_newObject 78 = .ok (.iconst 0, 1) := by decide +kernel
theorem dX5_newObject_79 : decode cX5_newObject 79 = .ok (.iastore, 1) := by decide +kernel
theorem dX5_newObject_80 : decode cX5_newObject 80 = .ok (.iload_n 1, 1) := by decide +kernel
theorem dX5_newObject_81 : decode cX5_newObject 81 = .ok (.istore 4, 2) := by decide +kernel
theorem dX5_newObject_83 : decode cX5_newObject 83 = .ok (.iload 4, 2) := by decide +kernel
theorem dX5_newObject_85 : decode cX5_newObject 85 = .ok (.ifCond .lt 24, 3) := by decide +kernel
theorem dX5_newObject_88 : decode cX5_newObject 88 = .ok (.aload_n 0, 1) := by decide +kernel
theorem dX5_newObject_89 : decode cX5_newObject 89 = .ok (.iload 4, 2) := by decide +kernel
theorem dX5_newObject_91 : decode cX5_newObject 91 = .ok (.iload_n 3, 1) := by decide +kernel
theorem dX5_newObject_92 : decode cX5_newObject 92 = .ok (.invokevirtual 144, 3) := by decide +kernel
theorem dX5_newObject_95 : decode cX5_newObject 95 = .ok (.ifCond .ge 14, 3) := by decide +kernel
theorem dX5_newObject_98 : decode cX5_newObject 98 = .ok (.aload_n 0, 1) := by decide +kernel
theorem dX5_newObject_99 : decode cX5_newObject 99 = .ok (.iload 4, 2) := by decide +kernel
theorem dX5_newObject_101 : decode cX5_newObject 101 = .ok (.invokevirtual 138, 3) := by decide +kernel
theorem dX5_newObject_104 : decode cX5_newObject 104 = .ok (.istore 4, 2) := by decide +kernel
theorem dX5_newObject_106 : decode cX5_newObject 106 = .ok (.goto (-23), 3) := by decide +kernel
theorem dX5_newObject_109 : decode cX5_newObject 109 = .ok (.iload 4, 2) := by decide +kernel
theorem dX5_newObject_111 : decode cX5_newObject 111 = .ok (.ifCond .lt 44, 3) := by decide +kernel
theorem dX5_newObject_114 : decode cX5_newObject 114 = .ok (.aload_n 0, 1) := by decide +kernel
theorem dX5_newObject_115 : decode cX5_newObject 115 = .ok (.getfield 8, 3) := by decide +kernel
theorem dX5_newObject_118 : decode cX5_newObject 118 = .ok (.iload_n 2, 1) := by decide +kernel
theorem dX5_newObject_119 : decode cX5_newObject 119 = .ok (.invokestatic 141, 3) := by decide +kernel
theorem dX5_newObject_122 : decode cX5_newObject 122 = .ok (.iconst 1, 1) := by decide +kernel
theorem dX5_newObject_123 : decode cX5_newObject 123 = .ok (.iadd, 1) := by decide +kernel
theorem dX5_newObject_124 : decode cX5_newObject 124 = .ok (.iload_n 3, 1) := by decide +kernel
theorem dX5_newObject_125 : decode cX5_newObject 125 = .ok (.iadd, 1) := by decide +kernel
theorem dX5_newObject_126 : decode cX5_newObject 126 = .ok (.iconst 1, 1) := by decide +kernel
theorem dX5_newObject_127 : decode cX5_newObject 127 = .ok (.iastore, 1) := by decide +kernel
theorem dX5_newObject_128 : decode cX5_newObject 128 = .ok (.aload_n 0, 1) := by decide +kernel
theorem dX5_newObject_129 : decode cX5_newObject 129 = .ok (.getfield 8, 3) := by decide +kernel
theorem dX5_newObject_132 : decode cX5_newObject 132 = .ok (.iload_n 2, 1) := by decide +kernel
theorem dX5_newObject_133 : decode cX5_newObject 133 = .ok (.invokestatic 141, 3) := by decide +kernel
theorem dX5_newObject_136 : decode cX5_newObject 136 = .ok (.bipush 11, 2) := by decide +kernel
theorem dX5_newObject_138 : decode cX5_newObject 138 = .ok (.iadd, 1) := by decide +kernel
theorem dX5_newObject_139 : decode cX5_newObject 139 = .ok (.iload_n 3, 1) := by decide +kernel
theorem dX5_newObject_140 : decode cX5_newObject 140 = .ok (.iadd, 1) := by decide +kernel
theorem dX5_newObject_141 : decode cX5_newObject 141 = .ok (.aload_n 0, 1) := by decide +kernel
theorem dX5_newObject_142 : decode cX5_newObject 142 = .ok (.iload 4, 2) := by decide +kernel
theorem dX5_newObject_144 : decode cX5_newObject 144 = .ok (.aload_n 0, 1) := by decide +kernel
theorem dX5_newObject_145 : decode cX5_newObject 145 = .ok (.iload 4, 2) := by decide +kernel
theorem dX5_newObject_147 : decode cX5_newObject 147 = .ok (.iload_n 3, 1) := by decide +kernel
theorem dX5_newObject_148 : decode cX5_newObject 148 = .ok (.invokevirtual 144, 3) := by decide +kernel
theorem dX5_newObject_151 : decode cX5_newObject 151 = .ok (.invokevirtual 128, 3) := by decide +kernel
theorem dX5_newObject_154 : decode cX5_newObject 154 = .ok (.iastore, 1) := by decide +kernel
theorem dX5_newObject_155 : decode cX5_newObject 155 = .ok (.iinc 3 1, 3) := by decide +kernel
theorem dX5_newObject_158 : decode cX5_newObject 158 = .ok (.goto (-113), 3) := by decide +kernel
theorem dX5_newObject_161 : decode cX5_newObject 161 = .ok (.iload_n 2, 1) := by decide +kernel
theorem dX5_newObject_162 : decode cX5_newObject 162 = .ok (.ireturn, 1) := by decide +kernel
theorem dX5_push_0 : decode cX5_push 0 = .ok (.aload_n 0, 1) := by decide +kernel
theorem dX5_push_1 : decode cX5_push 1 = .ok (.getfield 30, 3) := by decide +kernel
theorem dX5_push_4 : decode cX5_push 4 = .ok (.aload_n 0, 1) := by decide +kernel
theorem dX5_push_5 : decode cX5_push 5 = .ok (.getfield 147, 3) := by decide +kernel
theorem dX5_push_8 : decode cX5_push 8 = .ok (.iload_n 1, 1) := by decide +kernel
theorem dX5_push_9 : decode cX5_push 9 = .ok (.bastore, 1) := by decide +kernel
theorem dX5_push_10 : decode cX5_push 10 = .ok (.aload_n 0, 1) := by decide +kernel
theorem dX5_push_11 : decode cX5_push 11 = .ok (.getfield 33, 3) := by decide +kernel
theorem dX5_push_14 : decode cX5_push 14 = .ok (.aload_n 0, 1) := by decide +kernel
theorem dX5_push_15 : decode cX5_push 15 = .ok (.getfield 147, 3) := by decide +kernel
theorem dX5_push_18 : decode cX5_push 18 = .ok (.iload_n 2, 1) := by decide +kernel
theorem dX5_push_19 : decode cX5_push 19 = .ok (.iastore, 1) := by decide +kernel
theorem dX5_push_20 : decode cX5_push 20 = .ok (.aload_n 0, 1) := by decide +kernel
theorem dX5_push_21 : decode cX5_push 21 = .ok (.dup, 1) := by decide +kernel
theorem dX5_push_22 : decode cX5_push 22 = .ok (.getfield 147, 3) := by decide +kernel
theorem dX5_push_25 : decode cX5_push 25 = .ok (.iconst 1, 1) := by decide +kernel
theorem dX5_push_26 : decode cX5_push 26 = .ok (.iadd, 1) := by decide +kernel
theorem dX5_push_27 : decode cX5_push 27 = .ok (.putfield 147, 3) := by decide +kernel
theorem dX5_push_30 : decode cX5_push 30 = .ok (.return_, 1) := by decide +kernel
theorem dX5_frame_0 : decode cX5_frame 0 = .ok (.aload_n 0, 1) := by decide +kernel
theorem dX5_frame_1 : decode cX5_frame 1 = .ok (.getfield 36, 3) := by decide +kernel
theorem dX5_frame_4 : decode cX5_frame 4 = .ok (.aload_n 0, 1) := by decide +kernel
theorem dX5_frame_5 : decode cX5_frame 5 = .ok (.getfield 150, 3) := by decide +kernel
theorem dX5_frame_8 : decode cX5_frame 8 = .ok (.iload_n 1, 1) := by decide +kernel
theorem dX5_frame_9 : decode cX5_frame 9 = .ok (.iastore, 1) := by decide +kernel
theorem dX5_frame_10 : decode cX5_frame 10 = .ok (.aload_n 0, 1) := by decide +kernel
theorem dX5_frame_11 : decode cX5_frame 11 = .ok (.getfield 39, 3) := by decide +kernel
theorem dX5_frame_14 : decode cX5_frame 14 = .ok (.aload_n 0, 1) := by decide +kernel
theorem dX5_frame_15 : decode cX5_frame 15 = .ok (.getfield 150, 3) := by decide +kernel
theorem dX5_frame_18 : decode cX5_frame 18 = .ok (.iload_n 2, 1) := by decide +kernel
theorem dX5_frame_19 : decode cX5_frame 19 = .ok (.iastore, 1) := by decide +kernel
theorem dX5_frame_20 : decode cX5_frame 20 = .ok (.aload_n 0, 1) := by decide +kernel
theorem dX5_frame_21 : decode cX5_frame 21 = .ok (.getfield 42, 3) := by decide +kernel
theorem dX5_frame_24 : decode cX5_frame 24 = .ok (.aload_n 0, 1) := by decide +kernel
theorem dX5_frame_25 : decode cX5_frame 25 = .ok (.getfield 150, 3) := by decide +kernel
theorem dX5_frame_28 : decode cX5_frame 28 = .ok (.iload_n 3, 1) := by decide +kernel
theorem dX5_frame_29 : decode cX5_frame 29 = .ok (.iastore, 1) := by decide +kernel
theorem dX5_frame_30 : decode cX5_frame 30 = .ok (.aload_n 0, 1) := by decide +kernel
theorem dX5_frame_31 : decode cX5_frame 31 = .ok (.getfield 45, 3) := by decide +kernel
theorem dX5_frame_34 : decode cX5_frame 34 = .ok (.aload_n 0, 1) := by decide +kernel
theorem dX5_frame_35 : decode cX5_frame 35 = .ok (.getfield 150, 3) := by decide +kernel
theorem dX5_frame_38 : decode cX5_frame 38 = .ok (.iload 4, 2) := by decide +kernel
theorem dX5_frame_40 : decode cX5_frame 40 = .ok (.iastore, 1) := by decide +kernel
theorem dX5_frame_41 : decode cX5_frame 41 = .ok (.aload_n 0, 1) := by decide +kernel
theorem dX5_frame_42 : decode cX5_frame 42 = .ok (.getfield 54, 3) := by decide +kernel
theorem dX5_frame_45 : decode cX5_frame 45 = .ok (.aload_n 0, 1) := by decide +kernel
theorem dX5_frame_46 : decode cX5_frame 46 = .ok (.getfield 150, 3) := by decide +kernel
theorem dX5_frame_49 : decode cX5_frame 49 = .ok (.iload 5, 2) := by decide +kernel
theorem dX5_frame_51 : decode cX5_frame 51 = .ok (.iastore, 1) := by decide +kernel
theorem dX5_frame_52 : decode cX5_frame 52 = .ok (.aload_n 0, 1) := by decide +kernel
theorem dX5_frame_53 : decode cX5_frame 53 = .ok (.getfield 48, 3) := by decide +kernel
theorem dX5_frame_56 : decode cX5_frame 56 = .ok (.aload_n 0, 1) := by decide +kernel
theorem dX5_frame_57 : decode cX5_frame 57 = .ok (.getfield 150, 3) := by decide +kernel
theorem dX5_frame_60 : decode cX5_frame 60 = .ok (.iconst 0, 1) := by decide +kernel
theorem dX5_frame_61 : decode cX5_frame 61 = .ok (.bastore, 1) := by decide +kernel
theorem dX5_frame_62 : decode cX5_frame 62 = .ok (.aload_n 0, 1) := by decide +kernel
theorem dX5_frame_63 : decode cX5_frame 63 = .ok (.getfield 51, 3) := by decide +kernel
theorem dX5_frame_66 : decode cX5_frame 66 = .ok (.aload_n 0, 1) := by decide +kernel
theorem dX5_frame_67 : decode cX5_frame 67 = .ok (.getfield 150, 3) := by decide +kernel
theorem dX5_frame_70 : decode cX5_frame 70 = .ok (.iconst 0, 1) := by decide +kernel
theorem dX5_frame_71 : decode cX5_frame 71 = .ok (.iastore, 1) := by decide +kernel
theorem dX5_frame_72 : decode cX5_frame 72 = .ok (.aload_n 0, 1) := by decide +kernel
theorem dX5_frame_73 : decode cX5_frame 73 = .ok (.dup, 1) := by decide +kernel
theorem dX5_frame_74 : decode cX5_frame 74 = .ok (.getfield 150, 3) := by decide +kernel
theorem dX5_frame_77 : decode cX5_frame 77 = .ok (.iconst 1, 1) := by decide +kernel
theorem dX5_frame_78 : decode cX5_frame 78 = .ok (.iadd, 1) := by decide +kernel
theorem dX5_frame_79 : decode cX5_frame 79 = .ok (.putfield 150, 3) := by decide +kernel
theorem dX5_frame_82 : decode cX5_frame 82 = .ok (.aload_n 0, 1) := by decide +kernel
theorem dX5_frame_83 : decode cX5_frame 83 = .ok (.dup, 1) := by decide +kernel
theorem dX5_frame_84 : decode cX5_frame 84 = .ok (.getfield 153, 3) := by decide +kernel
theorem dX5_frame_87 : decode cX5_frame 87 = .ok (.iload_n 1, 1) := by decide +kernel
theorem dX5_frame_88 : decode cX5_frame 88 = .ok (.ifCond .lt 7, 3) := by decide +kernel
theorem dX5_frame_91 : decode cX5_frame 91 = .ok (.iconst 1, 1) := by decide +kernel
theorem dX5_frame_92 : decode cX5_frame 92 = .ok (.goto 4, 3) := by decide +kernel
theorem dX5_frame_95 : decode cX5_frame 95 = .ok (.iconst 0, 1) := by decide +kernel
theorem dX5_frame_96 : decode cX5_frame 96 = .ok (.iadd, 1) := by decide +kernel
theorem dX5_frame_97 : decode cX5_frame 97 = .ok (.putfield 153, 3) := by decide +kernel
theorem dX5_frame_100 : decode cX5_frame 100 = .ok (.return_, 1) := by decide +kernel
theorem dX5_intAt_0 : decode cX5_intAt 0 = .ok (.aload_n 0, 1) := by decide +kernel
theorem dX5_intAt_1 : decode cX5_intAt 1 = .ok (.getfield 150, 3) := by decide +kernel
theorem dX5_intAt_4 : decode cX5_intAt 4 = .ok (.iconst 1, 1) := by decide +kernel
theorem dX5_intAt_5 : decode cX5_intAt 5 = .ok (.isub, 1) := by decide +kernel
theorem dX5_intAt_6 : decode cX5_intAt 6 = .ok (.istore_n 2, 1) := by decide +kernel
theorem dX5_intAt_7 : decode cX5_intAt 7 = .ok (.aload_n 0, 1) := by decide +kernel
theorem dX5_intAt_8 : decode cX5_intAt 8 = .ok (.getfield 36, 3) := by decide +kernel
theorem dX5_intAt_11 : decode cX5_intAt 11 = .ok (.iload_n 2, 1) := by decide +kernel
theorem dX5_intAt_12 : decode cX5_intAt 12 = .ok (.iaload, 1) := by decide +kernel
theorem dX5_intAt_13 : decode cX5_intAt 13 = .ok (.ifCond .ge 19, 3) := by decide +kernel
theorem dX5_intAt_16 : decode cX5_intAt 16 = .ok (.aload_n 0, 1) := by decide +kernel
theorem dX5_intAt_17 : decode cX5_intAt 17 = .ok (.getfield 24, 3) := by decide +kernel
theorem dX5_intAt_20 : decode cX5_intAt 20 = .ok (.aload_n 0, 1) := by decide +kernel
theorem dX5_intAt_21 : decode cX5_intAt 21 = .ok (.getfield 39, 3) := by decide +kernel
theorem dX5_intAt_24 : decode cX5_intAt 24 = .ok (.iload_n 2, 1) := by decide +kernel
theorem dX5_intAt_25 : decode cX5_intAt 25 = .ok (.iaload, 1) := by decide +kernel
theorem dX5_intAt_26 : decode cX5_intAt 26 = .ok (.iload_n 1, 1) := by decide +kernel
theorem dX5_intAt_27 : decode cX5_intAt 27 = .ok (.iadd, 1) := by decide +kernel
theorem dX5_intAt_28 : decode cX5_intAt 28 = .ok (.iaload, 1) := by decide +kernel
theorem dX5_intAt_29 : decode cX5_intAt 29 = .ok (.goto 21, 3) := by decide +kernel
theorem dX5_intAt_32 : decode cX5_intAt 32 = .ok (.aload_n 0, 1) := by decide +kernel
theorem dX5_intAt_33 : decode cX5_intAt 33 = .ok (.aload_n 0, 1) := by decide +kernel
theorem dX5_intAt_34 : decode cX5_intAt 34 = .ok (.getfield 36, 3) := by decide +kernel
theorem dX5_intAt_37 : decode cX5_intAt 37 = .ok (.iload_n 2, 1) := by decide +kernel
theorem dX5_intAt_38 : decode cX5_intAt 38 = .ok (.iaload, 1) := by decide +kernel
theorem dX5_intAt_39 : decode cX5_intAt 39 = .ok (.aload_n 0, 1) := by decide +kernel
theorem dX5_intAt_40 : decode cX5_intAt 40 = .ok (.getfield 39, 3) := by decide +kernel
theorem dX5_intAt_43 : decode cX5_intAt 43 = .ok (.iload_n 2, 1) := by decide +kernel
theorem dX5_intAt_44 : decode cX5_intAt 44 = .ok (.iaload, 1) := by decide +kernel
theorem dX5_intAt_45 : decode cX5_intAt 45 = .ok (.iload_n 1, 1) := by decide +kernel
theorem dX5_intAt_46 : decode cX5_intAt 46 = .ok (.iadd, 1) := by decide +kernel
theorem dX5_intAt_47 : decode cX5_intAt 47 = .ok (.invokevirtual 128, 3) := by decide +kernel
theorem dX5_intAt_50 : decode cX5_intAt 50 = .ok (.ireturn, 1) := by decide +kernel
theorem dX5_fail_0 : decode cX5_fail 0 = .ok (.aload_n 0, 1) := by decide +kernel
theorem dX5_fail_1 : decode cX5_fail 1 = .ok (.iload_n 1, 1) := by decide +kernel
theorem dX5_fail_2 : decode cX5_fail 2 = .ok (.putfield 156, 3) := by decide +kernel
theorem dX5_fail_5 : decode cX5_fail 5 = .ok (.iconst 0, 1) := by decide +kernel
theorem dX5_fail_6 : decode cX5_fail 6 = .ok (.istore_n 2, 1) := by decide +kernel
theorem dX5_fail_7 : decode cX5_fail 7 = .ok (.iload_n 2, 1) := by decide +kernel
theorem dX5_fail_8 : decode cX5_fail 8 = .ok (.aload_n 0, 1) := by decide +kernel
theorem dX5_fail_9 : decode cX5_fail 9 = .ok (.getfield 150, 3) := by decide +kernel
theorem dX5_fail_12 : decode cX5_fail 12 = .ok (.if_icmp .ge 52, 3) := by decide +kernel
theorem dX5_fail_15 : decode cX5_fail 15 = .ok (.aload_n 0, 1) := by decide +kernel
theorem dX5_fail_16 : decode cX5_fail 16 = .ok (.getfield 54, 3) := by decide +kernel
theorem dX5_fail_19 : decode cX5_fail 19 = .ok (.iload_n 2, 1) := by decide +kernel
theorem dX5_fail_20 : decode cX5_fail 20 = .ok (.iaload, 1) := by decide +kernel
theorem dX5_fail_21 : decode cX5_fail 21 = .ok (.ifCond .lt 37, 3) := by decide +kernel
theorem dX5_fail_24 : decode cX5_fail 24 = .ok (.aload_n 0, 1) := by decide +kernel
theorem dX5_fail_25 : decode cX5_fail 25 = .ok (.getfield 8, 3) := by decide +kernel
theorem dX5_fail_28 : decode cX5_fail 28 = .ok (.aload_n 0, 1) := by decide +kernel
theorem dX5_fail_29 : decode cX5_fail 29 = .ok (.getfield 54, 3) := by decide +kernel
theorem dX5_fail_32 : decode cX5_fail 32 = .ok (.iload_n 2, 1) := by decide +kernel
theorem dX5_fail_33 : decode cX5_fail 33 = .ok (.iaload, 1) := by decide +kernel
theorem dX5_fail_34 : decode cX5_fail 34 = .ok (.invokestatic 73, 3) := by decide +kernel
theorem dX5_fail_37 : decode cX5_fail 37 = .ok (.iconst 5, 1) := by decide +kernel
theorem dX5_fail_38 : decode cX5_fail 38 = .ok (.iadd, 1) := by decide +kernel
theorem dX5_fail_39 : decode cX5_fail 39 = .ok (.iconst 2, 1) := by decide +kernel
theorem dX5_fail_40 : decode cX5_fail 40 = .ok (.iastore, 1) := by decide +kernel
theorem dX5_fail_41 : decode cX5_fail 41 = .ok (.aload_n 0, 1) := by decide +kernel
theorem dX5_fail_42 : decode cX5_fail 42 = .ok (.iload_n 1, 1) := by decide +kernel
theorem dX5_fail_43 : decode cX5_fail 43 = .ok (.bipush 100, 2) := by decide +kernel
theorem dX5_fail_45 : decode cX5_fail 45 = .ok (.if_icmp .ne 8, 3) := by decide +kernel
theorem dX5_fail_48 : decode cX5_fail 48 = .ok (.bipush 100, 2) := by decide +kernel
theorem dX5_fail_50 : decode cX5_fail 50 = .ok (.goto 5, 3) := by decide +kernel
theorem dX5_fail_53 : decode cX5_fail 53 = .ok (.bipush 6, 2) := by decide +kernel
theorem dX5_fail_55 : decode cX5_fail 55 = .ok (.putfield 156, 3) := by decide +kernel
theorem dX5_fail_58 : decode cX5_fail 58 = .ok (.iinc 2 1, 3) := by decide +kernel
theorem dX5_fail_61 : decode cX5_fail 61 = .ok (.goto (-54), 3) := by decide +kernel
theorem dX5_fail_64 : decode cX5_fail 64 = .ok (.return_, 1) := by decide +kernel
theorem dX5_finish_0 : decode cX5_finish 0 = .ok (.aload_n 0, 1) := by decide +kernel
theorem dX5_finish_1 : decode cX5_finish 1 = .ok (.dup, 1) := by decide +kernel
theorem dX5_finish_2 : decode cX5_finish 2 = .ok (.getfield 150, 3) := by decide +kernel
theorem dX5_finish_5 : decode cX5_finish 5 = .ok (.iconst 1, 1) := by decide +kernel
theorem dX5_finish_6 : decode cX5_finish 6 = .ok (.isub, 1) := by decide +kernel
theorem dX5_finish_7 : decode cX5_finish 7 = .ok (.putfield 150, 3) := by decide +kernel
theorem dX5_finish_10 : decode cX5_finish 10 = .ok (.aload_n 0, 1) := by decide +kernel
theorem dX5_finish_11 : decode cX5_finish 11 = .ok (.dup, 1) := by decide +kernel
theorem dX5_finish_12 : decode cX5_finish 12 = .ok (.getfield 153, 3) := by decide +kernel
theorem dX5_finish_15 : decode cX5_finish 15 = .ok (.aload_n 0, 1) := by decide +kernel
theorem dX5_finish_16 : decode cX5_finish 16 = .ok (.getfield 36, 3) := by decide +kernel
theorem dX5_finish_19 : decode cX5_finish 19 = .ok (.aload_n 0, 1) := by decide +kernel
theorem dX5_finish_20 : decode cX5_finish 20 = .ok (.getfield 150, 3) := by decide +kernel
theorem dX5_finish_23 : decode cX5_finish 23 = .ok (.iaload, 1) := by decide +kernel
theorem dX5_finish_24 : decode cX5_finish 24 = .ok (.ifCond .lt 7, 3) := by decide +kernel
theorem dX5_finish_27 : decode cX5_finish 27 = .ok (.iconst 1, 1) := by decide +kernel
theorem dX5_finish_28 : decode cX5_finish 28 = .ok (.goto 4, 3) := by decide +kernel
theorem dX5_finish_31 : decode cX5_finish 31 = .ok (.iconst 0, 1) := by decide +kernel
theorem dX5_finish_32 : decode cX5_finish 32 = .ok (.isub, 1) := by decide +kernel
theorem dX5_finish_33 : decode cX5_finish 33 = .ok (.putfield 153, 3) := by decide +kernel
theorem dX5_finish_36 : decode cX5_finish 36 = .ok (.aload_n 0, 1) := by decide +kernel
theorem dX5_finish_37 : decode cX5_finish 37 = .ok (.getfield 54, 3) := by decide +kernel
theorem dX5_finish_40 : decode cX5_finish 40 = .ok (.aload_n 0, 1) := by decide +kernel
theorem dX5_finish_41 : decode cX5_finish 41 = .ok (.getfield 150, 3) := by decide +kernel
theorem dX5_finish_44 : decode cX5_finish 44 = .ok (.iaload, 1) := by decide +kernel
theorem dX5_finish_45 : decode cX5_finish 45 = .ok (.ifCond .lt 18, 3) := by decide +kernel
theorem dX5_finish_48 : decode cX5_finish 48 = .ok (.aload_n 0, 1) := by decide +kernel
theorem dX5_finish_49 : decode cX5_finish 49 = .ok (.dup, 1) := by decide +kernel
theorem dX5_finish_50 : decode cX5_finish 50 = .ok (.getfield 147, 3) := by decide +kernel
theorem dX5_finish_53 : decode cX5_finish 53 = .ok (.iconst 1, 1) := by decide +kernel
theorem dX5_finish_54 : decode cX5_finish 54 = .ok (.isub, 1) := by decide +kernel
theorem dX5_finish_55 : decode cX5_finish 55 = .ok (.putfield 147, 3) := by decide +kernel
theorem dX5_finish_58 : decode cX5_finish 58 = .ok (.aload_n 0, 1) := by decide +kernel
theorem dX5_finish_59 : decode cX5_finish 59 = .ok (.iconst 1, 1) := by decide +kernel
theorem dX5_finish_60 : decode cX5_finish 60 = .ok (.putfield 162, 3) := by decide +kernel
theorem dX5_finish_63 : decode cX5_finish 63 = .ok (.return_, 1) := by decide +kernel
theorem dX5_ask_0 : decode cX5_ask 0 = .ok (.aload_n 0, 1) := by decide +kernel
theorem dX5_ask_1 : decode cX5_ask 1 = .ok (.getfield 30, 3) := by decide +kernel
theorem dX5_ask_4 : decode cX5_ask 4 = .ok (.aload_n 0, 1) := by decide +kernel
theorem dX5_ask_5 : decode cX5_ask 5 = .ok (.getfield 147, 3) := by decide +kernel
theorem dX5_ask_8 : decode cX5_ask 8 = .ok (.iconst 1, 1) := by decide +kernel
theorem dX5_ask_9 : decode cX5_ask 9 = .ok (.isub, 1) := by decide +kernel
theorem dX5_ask_10 : decode cX5_ask 10 = .ok (.baload, 1) := by decide +kernel
theorem dX5_ask_11 : decode cX5_ask 11 = .ok (.ifCond .eq 34, 3) := by decide +kernel
theorem dX5_ask_14 : decode cX5_ask 14 = .ok (.aload_n 0, 1) := by decide +kernel
theorem dX5_ask_15 : decode cX5_ask 15 = .ok (.aload_n 0, 1) := by decide +kernel
theorem dX5_ask_16 : decode cX5_ask 16 = .ok (.getfield 8, 3) := by decide +kernel
theorem dX5_ask_19 : decode cX5_ask 19 = .ok (.aload_n 0, 1) := by decide +kernel
theorem dX5_ask_20 : decode cX5_ask 20 = .ok (.getfield 33, 3) := by decide +kernel
theorem dX5_ask_23 : decode cX5_ask 23 = .ok (.aload_n 0, 1) := by decide +kernel
theorem dX5_ask_24 : decode cX5_ask 24 = .ok (.getfield 147, 3) := by decide +kernel
theorem dX5_ask_27 : decode cX5_ask 27 = .ok (.iconst 1, 1) := by decide +kernel
theorem dX5_ask_28 : decode cX5_ask 28 = .ok (.isub, 1) := by decide +kernel
theorem dX5_ask_29 : decode cX5_ask 29 = .ok (.iaload, 1) := by decide +kernel
theorem dX5_ask_30 : decode cX5_ask 30 = .ok (.invokestatic 141, 3) := by decide +kernel
theorem dX5_ask_33 : decode cX5_ask 33 = .ok (.iaload, 1) := by decide +kernel
theorem dX5_ask_34 : decode cX5_ask 34 = .ok (.iload_n 2, 1) := by decide +kernel
theorem dX5_ask_35 : decode cX5_ask 35 = .ok (.invokevirtual 201, 3) := by decide +kernel
theorem dX5_ask_38 : decode cX5_ask 38 = .ok (.ifCond .eq 7, 3) := by decide +kernel
theorem dX5_ask_41 : decode cX5_ask 41 = .ok (.iconst 1, 1) := by decide +kernel
theorem dX5_ask_42 : decode cX5_ask 42 = .ok (.goto 4, 3) := by decide +kernel
theorem dX5_ask_45 : decode cX5_ask 45 = .ok (.iconst 0, 1) := by decide +kernel
theorem dX5_ask_46 : decode cX5_ask 46 = .ok (.istore_n 3, 1) := by decide +kernel
theorem dX5_ask_47 : decode cX5_ask 47 = .ok (.iload_n 1, 1) := by decide +kernel
theorem dX5_ask_48 : decode cX5_ask 48 = .ok (.iconst 4, 1) := by decide +kernel
theorem dX5_ask_49 : decode cX5_ask 49 = .ok (.if_icmp .ne 15, 3) := by decide +kernel
theorem dX5_ask_52 : decode cX5_ask 52 = .ok (.iload_n 3, 1) := by decide +kernel
theorem dX5_ask_53 : decode cX5_ask 53 = .ok (.ifCond .ne 11, 3) := by decide +kernel
theorem dX5_ask_56 : decode cX5_ask 56 = .ok (.aload_n 0, 1) := by decide +kernel
theorem dX5_ask_57 : decode cX5_ask 57 = .ok (.iconst 5, 1) := by decide +kernel
theorem dX5_ask_58 : decode cX5_ask 58 = .ok (.invokevirtual 169, 3) := by decide +kernel
theorem dX5_ask_61 : decode cX5_ask 61 = .ok (.goto 40, 3) := by decide +kernel
theorem dX5_ask_64 : decode cX5_ask 64 = .ok (.iload_n 1, 1) := by decide +kernel
theorem dX5_ask_65 : decode cX5_ask 65 = .ok (.iconst 3, 1) := by decide +kernel
theorem dX5_ask_66 : decode cX5_ask 66 = .ok (.if_icmp .ne 35, 3) := by decide +kernel
theorem dX5_ask_69 : decode cX5_ask 69 = .ok (.aload_n 0, 1) := by decide +kernel
theorem dX5_ask_70 : decode cX5_ask 70 = .ok (.getfield 30, 3) := by decide +kernel
theorem dX5_ask_73 : decode cX5_ask 73 = .ok (.aload_n 0, 1) := by decide +kernel
theorem dX5_ask_74 : decode cX5_ask 74 = .ok (.getfield 147, 3) := by decide +kernel
theorem dX5_ask_77 : decode cX5_ask 77 = .ok (.iconst 1, 1) := by decide +kernel
theorem dX5_ask_78 : decode cX5_ask 78 = .ok (.isub, 1) := by decide +kernel
theorem dX5_ask_79 : decode cX5_ask 79 = .ok (.iconst 0, 1) := by decide +kernel
theorem dX5_ask_80 : decode cX5_ask 80 = .ok (.bastore, 1) := by decide +kernel
theorem dX5_ask_81 : decode cX5_ask 81 = .ok (.aload_n 0, 1) := by decide +kernel
theorem dX5_ask_82 : decode cX5_ask 82 = .ok (.getfield 33, 3) := by decide +kernel
theorem dX5_ask_85 : decode cX5_ask 85 = .ok (.aload_n 0, 1) := by decide +kernel
theorem dX5_ask_86 : decode cX5_ask 86 = .ok (.getfield 147, 3) := by decide +kernel
theorem dX5_ask_89 : decode cX5_ask 89 = .ok (.iconst 1, 1) := by decide +kernel
theorem dX5_ask_90 : decode cX5_ask 90 = .ok (.isub, 1) := by decide +kernel
theorem dX5_ask_91 : decode cX5_ask 91 = .ok (.iload_n 3, 1) := by decide +kernel
theorem dX5_ask_92 : decode cX5_ask 92 = .ok (.ifCond .eq 7, 3) := by decide +kernel
theorem dX5_ask_95 : decode cX5_ask 95 = .ok (.iconst 1, 1) := by decide +kernel
theorem dX5_ask_96 : decode cX5_ask 96 = .ok (.goto 4, 3) := by decide +kernel
theorem dX5_ask_99 : decode cX5_ask 99 = .ok (.iconst 0, 1) := by decide +kernel
theorem dX5_ask_100 : decode cX5_ask 100 = .ok (.iastore, 1) := by decide +kernel
theorem dX5_ask_101 : decode cX5_ask 101 = .ok (.return_, 1) := by decide +kernel
theorem dX5_method_0 : decode cX5_method 0 = .ok (.aload_n 0, 1) := by decide +kernel
theorem dX5_method_1 : decode cX5_method 1 = .ok (.getfield 8, 3) := by decide +kernel
theorem dX5_method_4 : decode cX5_method 4 = .ok (.iload_n 1, 1) := by decide +kernel
theorem dX5_method_5 : decode cX5_method 5 = .ok (.invokestatic 141, 3) := by decide +kernel
theorem dX5_method_8 : decode cX5_method 8 = .ok (.iaload, 1) := by decide +kernel
theorem dX5_method_9 : decode cX5_method 9 = .ok (.istore_n 3, 1) := by decide +kernel
theorem dX5_method_10 : decode cX5_method 10 = .ok (.iload_n 3, 1) := by decide +kernel
theorem dX5_method_11 : decode cX5_method 11 = .ok (.ifCond .lt 21, 3) := by decide +kernel
theorem dX5_method_14 : decode cX5_method 14 = .ok (.aload_n 0, 1) := by decide +kernel
theorem dX5_method_15 : decode cX5_method 15 = .ok (.iload_n 3, 1) := by decide +kernel
theorem dX5_method_16 : decode cX5_method 16 = .ok (.iload_n 2, 1) := by decide +kernel
theorem dX5_method_17 : decode cX5_method 17 = .ok (.invokevirtual 208, 3) := by decide +kernel
theorem dX5_method_20 : decode cX5_method 20 = .ok (.ifCond .ge 12, 3) := by decide +kernel
theorem dX5_method_23 : decode cX5_method 23 = .ok (.aload_n 0, 1) := by decide +kernel
theorem dX5_method_24 : decode cX5_method 24 = .ok (.iload_n 3, 1) := by decide +kernel
theorem dX5_method_25 : decode cX5_method 25 = .ok (.invokevirtual 138, 3) := by decide +kernel
theorem dX5_method_28 : decode cX5_method 28 = .ok (.istore_n 3, 1) := by decide +kernel
theorem dX5_method_29 : decode cX5_method 29 = .ok (.goto (-19), 3) := by decide +kernel
theorem dX5_method_32 : decode cX5_method 32 = .ok (.iload_n 3, 1) := by decide +kernel
theorem dX5_method_33 : decode cX5_method 33 = .ok (.ifCond .ge 9, 3) := by decide +kernel
theorem dX5_method_36 : decode cX5_method 36 = .ok (.aload_n 0, 1) := by decide +kernel
theorem dX5_method_37 : decode cX5_method 37 = .ok (.iconst 4, 1) := by decide +kernel
theorem dX5_method_38 : decode cX5_method 38 = .ok (.invokevirtual 169, 3) := by decide +kernel
theorem dX5_method_41 : decode cX5_method 41 = .ok (.return_, 1) := by decide +kernel
theorem dX5_method_42 : decode cX5_method 42 = .ok (.aload_n 0, 1) := by decide +kernel
theorem dX5_method_43 : decode cX5_method 43 = .ok (.getfield 153, 3) := by decide +kernel
theorem dX5_method_46 : decode cX5_method 46 = .ok (.bipush 20, 2) := by decide +kernel
theorem dX5_method_48 : decode cX5_method 48 = .ok (.if_icmp .ne 10, 3) := by decide +kernel
theorem dX5_method_51 : decode cX5_method 51 = .ok (.aload_n 0, 1) := by decide +kernel
theorem dX5_method_52 : decode cX5_method 52 = .ok (.bipush 7, 2) := by decide +kernel
theorem dX5_method_54 : decode cX5_method 54 = .ok (.invokevirtual 169, 3) := by decide +kernel
theorem dX5_method_57 : decode cX5_method 57 = .ok (.return_, 1) := by decide +kernel
theorem dX5_method_58 : decode cX5_method 58 = .ok (.aload_n 0, 1) := by decide +kernel
theorem dX5_method_59 : decode cX5_method 59 = .ok (.iload_n 3, 1) := by decide +kernel
theorem dX5_method_60 : decode cX5_method 60 = .ok (.iload_n 2, 1) := by decide +kernel
theorem dX5_method_61 : decode cX5_method 61 = .ok (.invokevirtual 208, 3) := by decide +kernel
theorem dX5_method_64 : decode cX5_method 64 = .ok (.istore 4, 2) := by decide +kernel
theorem dX5_method_66 : decode cX5_method 66 = .ok (.aload_n 0, 1) := by decide +kernel
theorem dX5_method_67 : decode cX5_method 67 = .ok (.dup, 1) := by decide +kernel
theorem dX5_method_68 : decode cX5_method 68 = .ok (.getfield 147, 3) := by decide +kernel
theorem dX5_method_71 : decode cX5_method 71 = .ok (.iconst 2, 1) := by decide +kernel
theorem dX5_method_72 : decode cX5_method 72 = .ok (.isub, 1) := by decide +kernel
theorem dX5_method_73 : decode cX5_method 73 = .ok (.putfield 147, 3) := by decide +kernel
theorem dX5_method_76 : decode cX5_method 76 = .ok (.aload_n 0, 1) := by decide +kernel
theorem dX5_method_77 : decode cX5_method 77 = .ok (.getfield 30, 3) := by decide +kernel
theorem dX5_method_80 : decode cX5_method 80 = .ok (.aload_n 0, 1) := by decide +kernel
theorem dX5_method_81 : decode cX5_method 81 = .ok (.getfield 147, 3) := by decide +kernel
theorem dX5_method_84 : decode cX5_method 84 = .ok (.iconst 1, 1) := by decide +kernel
theorem dX5_method_85 : decode cX5_method 85 = .ok (.iadd, 1) := by decide +kernel
theorem dX5_method_86 : decode cX5_method 86 = .ok (.baload, 1) := by decide +kernel
theorem dX5_method_87 : decode cX5_method 87 = .ok (.istore 5, 2) := by decide +kernel
theorem dX5_method_89 : decode cX5_method 89 = .ok (.aload_n 0, 1) := by decide +kernel
theorem dX5_method_90 : decode cX5_method 90 = .ok (.getfield 33, 3) := by decide +kernel
theorem dX5_method_93 : decode cX5_method 93 = .ok (.aload_n 0, 1) := by decide +kernel
theorem dX5_method_94 : decode cX5_method 94 = .ok (.getfield 147, 3) := by decide +kernel
theorem dX5_method_97 : decode cX5_method 97 = .ok (.iconst 1, 1) := by decide +kernel
theorem dX5_method_98 : decode cX5_method 98 = .ok (.iadd, 1) := by decide +kernel
theorem dX5_method_99 : decode cX5_method 99 = .ok (.iaload, 1) := by decide +kernel
theorem dX5_method_100 : decode cX5_method 100 = .ok (.istore 6, 2) := by decide +kernel
theorem dX5_method_102 : decode cX5_method 102 = .ok (.aload_n 0, 1) := by decide +kernel
theorem dX5_method_103 : decode cX5_method 103 = .ok (.iload_n 3, 1) := by decide +kernel
theorem dX5_method_104 : decode cX5_method 104 = .ok (.iload 4, 2) := by decide +kernel
theorem dX5_method_106 : decode cX5_method 106 = .ok (.iconst 1, 1) := by decide +kernel
theorem dX5_method_107 : decode cX5_method 107 = .ok (.iadd, 1) := by decide +kernel
theorem dX5_method_108 : decode cX5_method 108 = .ok (.iload 4, 2) := by decide +kernel
theorem dX5_method_110 : decode cX5_method 110 = .ok (.iconst 1, 1) := by decide +kernel
theorem dX5_method_111 : decode cX5_method 111 = .ok (.iadd, 1) := by decide +kernel
theorem dX5_method_112 : decode cX5_method 112 = .ok (.aload_n 0, 1) := by decide +kernel
theorem dX5_method_113 : decode cX5_method 113 = .ok (.iload_n 3, 1) := by decide +kernel
theorem dX5_method_114 : decode cX5_method 114 = .ok (.iload 4, 2) := by decide +kernel
theorem dX5_method_116 : decode cX5_method 116 = .ok (.invokevirtual 128, 3) := by decide +kernel
theorem dX5_method_119 : decode cX5_method 119 = .ok (.iadd, 1) := by decide +kernel
theorem dX5_method_120 : decode cX5_method 120 = .ok (.iload_n 1, 1) := by decide +kernel
theorem dX5_method_121 : decode cX5_method 121 = .ok (.iconst (-1), 1) := by decide +kernel
theorem dX5_method_122 : decode cX5_method 122 = .ok (.invokevirtual 211, 3) := by decide +kernel
theorem dX5_method_125 : decode cX5_method 125 = .ok (.aload_n 0, 1) := by decide +kernel
theorem dX5_method_126 : decode cX5_method 126 = .ok (.getfield 48, 3) := by decide +kernel
theorem dX5_method_129 : decode cX5_method 129 = .ok (.aload_n 0, 1) := by decide +kernel
theorem dX5_method_130 : decode cX5_method 130 = .ok (.getfield 150, 3) := by decide +kernel
theorem dX5_method_133 : decode cX5_method 133 = .ok (.iconst 1, 1) := by decide +kernel
theorem dX5_method_134 : decode cX5_method 134 = .ok (.isub, 1) := by decide +kernel
theorem dX5_method_135 : decode cX5_method 135 = .ok (.iload 5, 2) := by decide +kernel
theorem dX5_method_137 : decode cX5_method 137 = .ok (.bastore, 1) := by decide +kernel
theorem dX5_method_138 : decode cX5_method 138 = .ok (.aload_n 0, 1) := by decide +kernel
theorem dX5_method_139 : decode cX5_method 139 = .ok (.getfield 51, 3) := by decide +kernel
theorem dX5_method_142 : decode cX5_method 142 = .ok (.aload_n 0, 1) := by decide +kernel
theorem dX5_method_143 : decode cX5_method 143 = .ok (.getfield 150, 3) := by decide +kernel
theorem dX5_method_146 : decode cX5_method 146 = .ok (.iconst 1, 1) := by decide +kernel
theorem dX5_method_147 : decode cX5_method 147 = .ok (.isub, 1) := by decide +kernel
theorem dX5_method_148 : decode cX5_method 148 = .ok (.iload 6, 2) := by decide +kernel
theorem dX5_method_150 : decode cX5_method 150 = .ok (.iastore, 1) := by decide +kernel
theorem dX5_method_151 : decode cX5_method 151 = .ok (.return_, 1) := by decide +kernel
section RM
variable {ρ : Type} {p : Program} {l : Launch} {e : Env} {R : Room} {s : State} {m : MethodId} {args : Array Value} {below : List Frame} {meth : Method} {c : Code}
variable {cc : ByteArray} {nL : Nat} {rt : Option FieldType} {D : va_G} {cI cZ : ClassId} {q : Nat → Nat} {QQ : ρ → State → Prop} {pc : Nat} {lv : List (Nat × Value)}

-- newObject
def fR_newObject_b155 (n : Nat) (k45 : Int32 → Int32 → Int32 → MR → Option (Int32 × MR)) (x1 : Int32) (x2 : Int32) (x3 : Int32) (M : MR) : Option (Int32 × MR) :=
    k45 x1 x2 (x3 + (1 : Int32)) M
theorem wR_newObject_b155 (X : gX p s m args meth c cX5_newObject 5 RX5 (some .int) D (tyR cI cZ)) (n : Nat) (k45 : Int32 → Int32 → Int32 → MR → Option (Int32 × MR)) (hk45 : ∀ (x1 : Int32) (x2 : Int32) (x3 : Int32) (M : MR), gG p l e (rmR 3 65) s m args below meth c 5 (ZR D cI cZ q (AR q s.heap.size) s.heap M) 0 0 (fun r => MQ below (QI D cI cZ q s.heap.size r) args s 0 0 (AR q s.heap.size)) 45 [(0, .ref (q 34)), (1, .int x1), (2, .int x2), (3, .int x3)] [] (k45 x1 x2 x3 M)) (x1 : Int32) (x2 : Int32) (x3 : Int32) (M : MR) : gG p l e (rmR 3 65) s m args below meth c 5 (ZR D cI cZ q (AR q s.heap.size) s.heap M) 0 0 (fun r => MQ below (QI D cI cZ q s.heap.size r) args s 0 0 (AR q s.heap.size)) 155 [(0, .ref (q 34)), (1, .int x1), (2, .int x2), (3, .int x3)] [] (fR_newObject_b155 n k45 x1 x2 x3 M) := by
  unfold fR_newObject_b155
  refine g_iinc (v := (1 : Int32)) (lv' := [(3, .int (x3 + (1 : Int32))), (0, .ref (q 34)), (1, .int x1), (2, .int x2)]) X dX5_newObject_155 rfl (by decide) (by decide) rfl ?_
  refine g_goto (tgt := 45) X dX5_newObject_158 (by decide) ?_
  exact g_pick [1, 2, 3, 0] rfl (hk45 x1 x2 (x3 + (1 : Int32)) M)
def fR_newObject_b109 (n : Nat) (k45 : Int32 → Int32 → Int32 → MR → Option (Int32 × MR)) (x1 : Int32) (x2 : Int32) (x3 : Int32) (x4 : Int32) (M : MR) : Option (Int32 × MR) :=
    if x4 < 0 then
      (fR_newObject_b155 n k45 x1 x2 x3 M)
    else
      (bnd (fR_objAt n x2 M) fun v1 M1 =>
      wr M1 0 62610 ((v1 + (1 : Int32)) + x3) (1 : Int32) fun M2 =>
      bnd (fR_objAt n x2 M2) fun v3 M3 =>
      bnd (fR_ownField n x4 x3 M3) fun v4 M4 =>
      bnd (fR_textOf n x4 v4 M4) fun v5 M5 =>
      wr M5 0 62610 ((v3 + (11 : Int32)) + x3) v5 fun M6 =>
      fR_newObject_b155 n k45 x1 x2 x3 M6)
theorem wR_newObject_b109 (X : gX p s m args meth c cX5_newObject 5 RX5 (some .int) D (tyR cI cZ)) (n : Nat) (k45 : Int32 → Int32 → Int32 → MR → Option (Int32 × MR)) (hk45 : ∀ (x1 : Int32) (x2 : Int32) (x3 : Int32) (M : MR), gG p l e (rmR 3 65) s m args below meth c 5 (ZR D cI cZ q (AR q s.heap.size) s.heap M) 0 0 (fun r => MQ below (QI D cI cZ q s.heap.size r) args s 0 0 (AR q s.heap.size)) 45 [(0, .ref (q 34)), (1, .int x1), (2, .int x2), (3, .int x3)] [] (k45 x1 x2 x3 M)) (x1 : Int32) (x2 : Int32) (x3 : Int32) (x4 : Int32) (M : MR) : gG p l e (rmR 3 65) s m args below meth c 5 (ZR D cI cZ q (AR q s.heap.size) s.heap M) 0 0 (fun r => MQ below (QI D cI cZ q s.heap.size r) args s 0 0 (AR q s.heap.size)) 109 [(0, .ref (q 34)), (1, .int x1), (2, .int x2), (3, .int x3), (4, .int x4)] [] (fR_newObject_b109 n k45 x1 x2 x3 x4 M) := by
  unfold fR_newObject_b109
  refine g_iload X dX5_newObject_109 rfl ?_
  refine g_if_lt (tgt := 155) X dX5_newObject_111 (by decide) ?_ ?_
  · exact g_pick [0, 1, 2, 3] rfl (wR_newObject_b155 X n k45 hk45 x1 x2 x3 M)
  · refine g_aload_n X dX5_newObject_114 rfl rfl ?_
    refine r_g_m X dX5_newObject_115 ?_
    refine g_iload_n X dX5_newObject_118 rfl rfl ?_
    refine k_objAt X ⟨Nat.le_of_ble_eq_true rfl, Nat.le_of_ble_eq_true rfl⟩ (Nat.le_of_ble_eq_true rfl) dX5_newObject_119 ?_
    intro v1 M1
    refine g_iconst (v := (1 : Int32)) X dX5_newObject_122 (by decide) ?_
    refine g_iadd X dX5_newObject_123 ?_
    refine g_iload_n X dX5_newObject_124 rfl rfl ?_
    refine g_iadd X dX5_newObject_125 ?_
    refine g_iconst (v := (1 : Int32)) X dX5_newObject_126 (by decide) ?_
    refine r_s_m X dX5_newObject_127 ?_
    intro M2
    refine g_aload_n X dX5_newObject_128 rfl rfl ?_
    refine r_g_m X dX5_newObject_129 ?_
    refine g_iload_n X dX5_newObject_132 rfl rfl ?_
    refine k_objAt X ⟨Nat.le_of_ble_eq_true rfl, Nat.le_of_ble_eq_true rfl⟩ (Nat.le_of_ble_eq_true rfl) dX5_newObject_133 ?_
    intro v3 M3
    refine g_bipush (v := (11 : Int32)) X dX5_newObject_136 (by decide) ?_
    refine g_iadd X dX5_newObject_138 ?_
    refine g_iload_n X dX5_newObject_139 rfl rfl ?_
    refine g_iadd X dX5_newObject_140 ?_
    refine g_aload_n X dX5_newObject_141 rfl rfl ?_
    refine g_iload X dX5_newObject_142 rfl ?_
    refine g_aload_n X dX5_newObject_144 rfl rfl ?_
    refine g_iload X dX5_newObject_145 rfl ?_
    refine g_iload_n X dX5_newObject_147 rfl rfl ?_
    refine k_ownField X ⟨Nat.le_of_ble_eq_true rfl, Nat.le_of_ble_eq_true rfl⟩ (Nat.le_of_ble_eq_true rfl) dX5_newObject_148 ?_
    intro v4 M4
    refine k_textOf X ⟨Nat.le_of_ble_eq_true rfl, Nat.le_of_ble_eq_true rfl⟩ (Nat.le_of_ble_eq_true rfl) dX5_newObject_151 ?_
    intro v5 M5
    refine r_s_m X dX5_newObject_154 ?_
    intro M6
    exact g_pick [0, 1, 2, 3] rfl (wR_newObject_b155 X n k45 hk45 x1 x2 x3 M6)
def fR_newObject_l83 (n : Nat) (k45 : Int32 → Int32 → Int32 → MR → Option (Int32 × MR)) : Nat → Int32 → Int32 → Int32 → Int32 → MR → Option (Int32 × MR)
  | 0, _, _, _, _, _ => none
  | k + 1, x1, x2, x3, x4, M => if x4 < 0 then
      (fR_newObject_b109 n k45 x1 x2 x3 x4 M)
    else
      (bnd (fR_ownField n x4 x3 M) fun v1 M1 =>
      if 0 ≤ v1 then
        (fR_newObject_b109 n k45 x1 x2 x3 x4 M1)
      else
        (bnd (fR_parentOf n x4 M1) fun v2 M2 =>
        (fR_newObject_l83 n k45 k) x1 x2 x3 v2 M2))
theorem wR_newObject_l83 (X : gX p s m args meth c cX5_newObject 5 RX5 (some .int) D (tyR cI cZ)) (n : Nat) (k45 : Int32 → Int32 → Int32 → MR → Option (Int32 × MR)) (hk45 : ∀ (x1 : Int32) (x2 : Int32) (x3 : Int32) (M : MR), gG p l e (rmR 3 65) s m args below meth c 5 (ZR D cI cZ q (AR q s.heap.size) s.heap M) 0 0 (fun r => MQ below (QI D cI cZ q s.heap.size r) args s 0 0 (AR q s.heap.size)) 45 [(0, .ref (q 34)), (1, .int x1), (2, .int x2), (3, .int x3)] [] (k45 x1 x2 x3 M)) : ∀ (k : Nat) (x1 : Int32) (x2 : Int32) (x3 : Int32) (x4 : Int32) (M : MR), gG p l e (rmR 3 65) s m args below meth c 5 (ZR D cI cZ q (AR q s.heap.size) s.heap M) 0 0 (fun r => MQ below (QI D cI cZ q s.heap.size r) args s 0 0 (AR q s.heap.size)) 83 [(0, .ref (q 34)), (1, .int x1), (2, .int x2), (3, .int x3), (4, .int x4)] [] (fR_newObject_l83 n k45 k x1 x2 x3 x4 M) := by
  intro k
  induction k with
  | zero =>
    intro x1 x2 x3 x4 M
    exact g_none
  | succ k ih =>
    intro x1 x2 x3 x4 M
    rw [fR_newObject_l83]
    refine g_iload X dX5_newObject_83 rfl ?_
    refine g_if_lt (tgt := 109) X dX5_newObject_85 (by decide) ?_ ?_
    · exact g_pick [0, 1, 2, 3, 4] rfl (wR_newObject_b109 X n k45 hk45 x1 x2 x3 x4 M)
    · refine g_aload_n X dX5_newObject_88 rfl rfl ?_
      refine g_iload X dX5_newObject_89 rfl ?_
      refine g_iload_n X dX5_newObject_91 rfl rfl ?_
      refine k_ownField X ⟨Nat.le_of_ble_eq_true rfl, Nat.le_of_ble_eq_true rfl⟩ (Nat.le_of_ble_eq_true rfl) dX5_newObject_92 ?_
      intro v1 M1
      refine g_if_ge (tgt := 109) X dX5_newObject_95 (by decide) ?_ ?_
      · exact g_pick [0, 1, 2, 3, 4] rfl (wR_newObject_b109 X n k45 hk45 x1 x2 x3 x4 M1)
      · refine g_aload_n X dX5_newObject_98 rfl rfl ?_
        refine g_iload X dX5_newObject_99 rfl ?_
        refine k_parentOf X ⟨Nat.le_of_ble_eq_true rfl, Nat.le_of_ble_eq_true rfl⟩ (Nat.le_of_ble_eq_true rfl) dX5_newObject_101 ?_
        intro v2 M2
        refine g_istore (lv' := [(4, .int v2), (0, .ref (q 34)), (1, .int x1), (2, .int x2), (3, .int x3)]) X dX5_newObject_104 (by decide) rfl ?_
        refine g_goto (tgt := 83) X dX5_newObject_106 (by decide) ?_
        exact g_pick [1, 2, 3, 4, 0] rfl (ih x1 x2 x3 v2 M2)
def fR_newObject_l45 (n : Nat) : Nat → Int32 → Int32 → Int32 → MR → Option (Int32 × MR)
  | 0, _, _, _, _ => none
  | k + 1, x1, x2, x3, M => if (10 : Int32) ≤ x3 then
      (some (x2, M))
    else
      (bnd (fR_objAt n x2 M) fun v1 M1 =>
      wr M1 0 62610 ((v1 + (1 : Int32)) + x3) (0 : Int32) fun M2 =>
      bnd (fR_objAt n x2 M2) fun v3 M3 =>
      wr M3 0 62610 ((v3 + (11 : Int32)) + x3) (0 : Int32) fun M4 =>
      fR_newObject_l83 n (fR_newObject_l45 n k) n x1 x2 x3 x1 M4)
theorem wR_newObject_l45 (X : gX p s m args meth c cX5_newObject 5 RX5 (some .int) D (tyR cI cZ)) (n : Nat) : ∀ (k : Nat) (x1 : Int32) (x2 : Int32) (x3 : Int32) (M : MR), gG p l e (rmR 3 65) s m args below meth c 5 (ZR D cI cZ q (AR q s.heap.size) s.heap M) 0 0 (fun r => MQ below (QI D cI cZ q s.heap.size r) args s 0 0 (AR q s.heap.size)) 45 [(0, .ref (q 34)), (1, .int x1), (2, .int x2), (3, .int x3)] [] (fR_newObject_l45 n k x1 x2 x3 M) := by
  intro k
  induction k with
  | zero =>
    intro x1 x2 x3 M
    exact g_none
  | succ k ih =>
    intro x1 x2 x3 M
    rw [fR_newObject_l45]
    refine g_iload_n X dX5_newObject_45 rfl rfl ?_
    refine g_bipush (v := (10 : Int32)) X dX5_newObject_46 (by decide) ?_
    refine g_icmp_ge (tgt := 161) X dX5_newObject_48 (by decide) ?_ ?_
    · refine g_iload_n X dX5_newObject_161 rfl rfl ?_
      exact r_iret X dX5_newObject_162
    · refine g_aload_n X dX5_newObject_51 rfl rfl ?_
      refine r_g_m X dX5_newObject_52 ?_
      refine g_iload_n X dX5_newObject_55 rfl rfl ?_
      refine k_objAt X ⟨Nat.le_of_ble_eq_true rfl, Nat.le_of_ble_eq_true rfl⟩ (Nat.le_of_ble_eq_true rfl) dX5_newObject_56 ?_
      intro v1 M1
      refine g_iconst (v := (1 : Int32)) X dX5_newObject_59 (by decide) ?_
      refine g_iadd X dX5_newObject_60 ?_
      refine g_iload_n X dX5_newObject_61 rfl rfl ?_
      refine g_iadd X dX5_newObject_62 ?_
      refine g_iconst (v := (0 : Int32)) X dX5_newObject_63 (by decide) ?_
      refine r_s_m X dX5_newObject_64 ?_
      intro M2
      refine g_aload_n X dX5_newObject_65 rfl rfl ?_
      refine r_g_m X dX5_newObject_66 ?_
      refine g_iload_n X dX5_newObject_69 rfl rfl ?_
      refine k_objAt X ⟨Nat.le_of_ble_eq_true rfl, Nat.le_of_ble_eq_true rfl⟩ (Nat.le_of_ble_eq_true rfl) dX5_newObject_70 ?_
      intro v3 M3
      refine g_bipush (v := (11 : Int32)) X dX5_newObject_73 (by decide) ?_
      refine g_iadd X dX5_newObject_75 ?_
      refine g_iload_n X dX5_newObject_76 rfl rfl ?_
      refine g_iadd X dX5_newObject_77 ?_
      refine g_iconst (v := (0 : Int32)) X dX5_newObject_78 (by decide) ?_
      refine r_s_m X dX5_newObject_79 ?_
      intro M4
      refine g_iload_n X dX5_newObject_80 rfl rfl ?_
      refine g_istore (lv' := [(4, .int x1), (0, .ref (q 34)), (1, .int x1), (2, .int x2), (3, .int x3)]) X dX5_newObject_81 (by decide) rfl ?_
      exact g_pick [1, 2, 3, 4, 0] rfl (wR_newObject_l83 X n (fR_newObject_l45 n k) ih n x1 x2 x3 x1 M4)
def fR_newObject (n : Nat) (x1 : Int32) (M : MR) : Option (Int32 × MR) :=
    rd M 0 62610 (2 : Int32) fun v1 =>
    rd M 0 62610 (2 : Int32) fun v2 =>
    wr M 0 62610 (2 : Int32) (v2 + (1 : Int32)) fun M3 =>
    bnd (fR_objAt n v1 M3) fun v4 M4 =>
    wr M4 0 62610 v4 x1 fun M5 =>
    bnd (fR_editAt n x1 M5) fun v6 M6 =>
    rd M6 0 62610 (v6 + (6 : Int32)) fun v7 =>
    wr M6 0 62610 (v6 + (6 : Int32)) (v7 + (1 : Int32)) fun M8 =>
    fR_newObject_l45 n n x1 v1 (0 : Int32) M8
theorem c_newObject (l : Launch) (D : va_G) (cI cZ : ClassId) (q : Nat → Nat) (n : Nat) (x1 : Int32) (M : MR) : MetR l D cI cZ q yX5_newObject cX5_newObject 5 (some .int) 3 65 QI [.ref (q 34), .int x1] M (fR_newObject n x1 M) := by
  refine MetR.of (by decide) rfl (Nat.le_of_ble_eq_true rfl) ?_
  intro p e s m args below meth c X
  unfold fR_newObject
  refine g_pick (lv' := [(0, .ref (q 34)), (1, .int x1)]) [0, 1] rfl ?_
  refine g_aload_n X dX5_newObject_0 rfl rfl ?_
  refine r_g_m X dX5_newObject_1 ?_
  refine g_iconst (v := (2 : Int32)) X dX5_newObject_4 (by decide) ?_
  refine r_l_m X dX5_newObject_5 ?_
  intro v1
  refine g_istore_n (lv' := [(2, .int v1), (0, .ref (q 34)), (1, .int x1)]) X dX5_newObject_6 rfl (by decide) rfl ?_
  refine g_aload_n X dX5_newObject_7 rfl rfl ?_
  refine r_g_m X dX5_newObject_8 ?_
  refine g_iconst (v := (2 : Int32)) X dX5_newObject_11 (by decide) ?_
  refine g_dup2 X dX5_newObject_12 rfl rfl ?_
  refine r_l_m X dX5_newObject_13 ?_
  intro v2
  refine g_iconst (v := (1 : Int32)) X dX5_newObject_14 (by decide) ?_
  refine g_iadd X dX5_newObject_15 ?_
  refine r_s_m X dX5_newObject_16 ?_
  intro M3
  refine g_aload_n X dX5_newObject_17 rfl rfl ?_
  refine r_g_m X dX5_newObject_18 ?_
  refine g_iload_n X dX5_newObject_21 rfl rfl ?_
  refine k_objAt X ⟨Nat.le_of_ble_eq_true rfl, Nat.le_of_ble_eq_true rfl⟩ (Nat.le_of_ble_eq_true rfl) dX5_newObject_22 ?_
  intro v4 M4
  refine g_iload_n X dX5_newObject_25 rfl rfl ?_
  refine r_s_m X dX5_newObject_26 ?_
  intro M5
  refine g_aload_n X dX5_newObject_27 rfl rfl ?_
  refine r_g_m X dX5_newObject_28 ?_
  refine g_iload_n X dX5_newObject_31 rfl rfl ?_
  refine k_editAt X ⟨Nat.le_of_ble_eq_true rfl, Nat.le_of_ble_eq_true rfl⟩ (Nat.le_of_ble_eq_true rfl) dX5_newObject_32 ?_
  intro v6 M6
  refine g_bipush (v := (6 : Int32)) X dX5_newObject_35 (by decide) ?_
  refine g_iadd X dX5_newObject_37 ?_
  refine g_dup2 X dX5_newObject_38 rfl rfl ?_
  refine r_l_m X dX5_newObject_39 ?_
  intro v7
  refine g_iconst (v := (1 : Int32)) X dX5_newObject_40 (by decide) ?_
  refine g_iadd X dX5_newObject_41 ?_
  refine r_s_m X dX5_newObject_42 ?_
  intro M8
  refine g_iconst (v := (0 : Int32)) X dX5_newObject_43 (by decide) ?_
  refine g_istore_n (lv' := [(3, .int (0 : Int32)), (2, .int v1), (0, .ref (q 34)), (1, .int x1)]) X dX5_newObject_44 rfl (by decide) rfl ?_
  exact g_pick [2, 3, 1, 0] rfl (wR_newObject_l45 X n n x1 v1 (0 : Int32) M8)
theorem tc_newObject : Cond.code yX5_newObject cX5_newObject 5 (some .int) ∈ tt := tt_in (List.mem_of_getElem? (i := 1008) (by decide +kernel)) (by decide +kernel)
theorem tl_newObject : Cond.methodLink RX5 221 yX5_newObject ∈ tt := tt_in (List.mem_of_getElem? (i := 1005) (by decide +kernel)) (by decide +kernel)
theorem ti_newObject : Cond.instanceMethod yX5_newObject ∈ tt := tt_in (List.mem_of_getElem? (i := 1007) (by decide +kernel)) (by decide +kernel)
theorem te_newObject : Cond.selects RX5 yX5_newObject yX5_newObject ∈ tt := tt_in (List.mem_of_getElem? (i := 63) (by decide +kernel)) (by decide +kernel)
theorem k_newObject (X : gX p s m args meth c cc nL RX5 rt D (tyR cI cZ)) {n : Nat} {x1 : Int32} {M : MR} {rest : List Value} {K : Int32 → MR → Option ρ} (hR : 3 + 1 ≤ R.frames ∧ 8 + (5 + 11) + 65 ≤ R.locals) (hcat : (rest.map fun v => v.category).sum ≤ 8) (d : decode cc pc = .ok (.invokevirtual 221, 3)) (kk : ∀ v M1, gG p l e R s m args below meth c nL (ZR D cI cZ q (AR q s.heap.size) s.heap M1) 0 0 QQ (pc + 3) lv (.int v :: rest) (K v M1)) : gG p l e R s m args below meth c nL (ZR D cI cZ q (AR q s.heap.size) s.heap M) 0 0 QQ pc lv (.int x1 :: .ref (q 34) :: rest) (bnd (fR_newObject n x1 M) K) := r_callVi (As := [.int x1]) X (c_newObject l D cI cZ q n x1 M) (cwVR (k := 1) X.2.2.2.2.1 tl_newObject ti_newObject te_newObject tc_newObject ini5 (by decide +kernel) hR) rfl rfl hcat d kk
-- push
def fR_push (n : Nat) (x1 : Int32) (x2 : Int32) (M : MR) : Option (Int32 × MR) :=
    gf M 12 fun v1 =>
    wz M 10 2000 v1 x1 fun M2 =>
    gf M2 12 fun v3 =>
    wr M2 11 2000 v3 x2 fun M4 =>
    gf M4 12 fun v5 =>
    pf M4 12 (v5 + (1 : Int32)) fun M6 =>
    some (0, M6)
theorem c_push (l : Launch) (D : va_G) (cI cZ : ClassId) (q : Nat → Nat) (n : Nat) (x1 : Int32) (x2 : Int32) (M : MR) : MetR l D cI cZ q yX5_push cX5_push 3 none 0 0 QV [.ref (q 34), .int x1, .int x2] M (fR_push n x1 x2 M) := by
  refine MetR.of (by decide) rfl (Nat.le_of_ble_eq_true rfl) ?_
  intro p e s m args below meth c X
  unfold fR_push
  refine g_pick (lv' := [(0, .ref (q 34)), (1, .int x1), (2, .int x2)]) [0, 1, 2] rfl ?_
  refine g_aload_n X dX5_push_0 rfl rfl ?_
  refine r_g_isObj X dX5_push_1 ?_
  refine g_aload_n X dX5_push_4 rfl rfl ?_
  refine r_g_top X dX5_push_5 ?_
  intro v1
  refine g_iload_n X dX5_push_8 rfl rfl ?_
  refine r_s_isObj X dX5_push_9 ?_
  intro M2
  refine g_aload_n X dX5_push_10 rfl rfl ?_
  refine r_g_value X dX5_push_11 ?_
  refine g_aload_n X dX5_push_14 rfl rfl ?_
  refine r_g_top X dX5_push_15 ?_
  intro v3
  refine g_iload_n X dX5_push_18 rfl rfl ?_
  refine r_s_value X dX5_push_19 ?_
  intro M4
  refine g_aload_n X dX5_push_20 rfl rfl ?_
  refine g_dup X dX5_push_21 rfl ?_
  refine r_g_top X dX5_push_22 ?_
  intro v5
  refine g_iconst (v := (1 : Int32)) X dX5_push_25 (by decide) ?_
  refine g_iadd X dX5_push_26 ?_
  refine r_p_top X dX5_push_27 ?_
  intro M6
  exact r_vret X dX5_push_30
theorem tc_push : Cond.code yX5_push cX5_push 3 none ∈ tt := tt_in (List.mem_of_getElem? (i := 1019) (by decide +kernel)) (by decide +kernel)
theorem tl_push : Cond.methodLink RX5 181 yX5_push ∈ tt := tt_in (List.mem_of_getElem? (i := 1016) (by decide +kernel)) (by decide +kernel)
theorem ti_push : Cond.instanceMethod yX5_push ∈ tt := tt_in (List.mem_of_getElem? (i := 1018) (by decide +kernel)) (by decide +kernel)
theorem te_push : Cond.selects RX5 yX5_push yX5_push ∈ tt := tt_in (List.mem_of_getElem? (i := 65) (by decide +kernel)) (by decide +kernel)
theorem k_push (X : gX p s m args meth c cc nL RX5 rt D (tyR cI cZ)) {n : Nat} {x1 : Int32} {x2 : Int32} {M : MR} {rest : List Value} {K : Int32 → MR → Option ρ} (hR : 0 + 1 ≤ R.frames ∧ 8 + (3 + 11) + 0 ≤ R.locals) (hcat : (rest.map fun v => v.category).sum ≤ 8) (d : decode cc pc = .ok (.invokevirtual 181, 3)) (kk : ∀ v M1, gG p l e R s m args below meth c nL (ZR D cI cZ q (AR q s.heap.size) s.heap M1) 0 0 QQ (pc + 3) lv (rest) (K v M1)) : gG p l e R s m args below meth c nL (ZR D cI cZ q (AR q s.heap.size) s.heap M) 0 0 QQ pc lv (.int x2 :: .int x1 :: .ref (q 34) :: rest) (bnd (fR_push n x1 x2 M) K) := r_callVv (As := [.int x1, .int x2]) X (c_push l D cI cZ q n x1 x2 M) (cwVR (k := 2) X.2.2.2.2.1 tl_push ti_push te_push tc_push ini5 (by decide +kernel) hR) rfl rfl hcat d kk
-- frame
def fR_frame (n : Nat) (x1 : Int32) (x2 : Int32) (x3 : Int32) (x4 : Int32) (x5 : Int32) (M : MR) : Option (Int32 × MR) :=
    gf M 20 fun v1 =>
    wr M 13 22 v1 x1 fun M2 =>
    gf M2 20 fun v3 =>
    wr M2 14 22 v3 x2 fun M4 =>
    gf M4 20 fun v5 =>
    wr M4 15 22 v5 x3 fun M6 =>
    gf M6 20 fun v7 =>
    wr M6 16 22 v7 x4 fun M8 =>
    gf M8 20 fun v9 =>
    wr M8 19 22 v9 x5 fun M10 =>
    gf M10 20 fun v11 =>
    wz M10 17 22 v11 (0 : Int32) fun M12 =>
    gf M12 20 fun v13 =>
    wr M12 18 22 v13 (0 : Int32) fun M14 =>
    gf M14 20 fun v15 =>
    pf M14 20 (v15 + (1 : Int32)) fun M16 =>
    gf M16 21 fun v17 =>
    if x1 < 0 then
      (pf M16 21 (v17 + (0 : Int32)) fun M18 =>
      some (0, M18))
    else
      (pf M16 21 (v17 + (1 : Int32)) fun M19 =>
      some (0, M19))
theorem c_frame (l : Launch) (D : va_G) (cI cZ : ClassId) (q : Nat → Nat) (n : Nat) (x1 : Int32) (x2 : Int32) (x3 : Int32) (x4 : Int32) (x5 : Int32) (M : MR) : MetR l D cI cZ q yX5_frame cX5_frame 6 none 0 0 QV [.ref (q 34), .int x1, .int x2, .int x3, .int x4, .int x5] M (fR_frame n x1 x2 x3 x4 x5 M) := by
  refine MetR.of (by decide) rfl (Nat.le_of_ble_eq_true rfl) ?_
  intro p e s m args below meth c X
  unfold fR_frame
  refine g_pick (lv' := [(0, .ref (q 34)), (1, .int x1), (2, .int x2), (3, .int x3), (4, .int x4), (5, .int x5)]) [0, 1, 2, 3, 4, 5] rfl ?_
  refine g_aload_n X dX5_frame_0 rfl rfl ?_
  refine r_g_source X dX5_frame_1 ?_
  refine g_aload_n X dX5_frame_4 rfl rfl ?_
  refine r_g_frames X dX5_frame_5 ?_
  intro v1
  refine g_iload_n X dX5_frame_8 rfl rfl ?_
  refine r_s_source X dX5_frame_9 ?_
  intro M2
  refine g_aload_n X dX5_frame_10 rfl rfl ?_
  refine r_g_place X dX5_frame_11 ?_
  refine g_aload_n X dX5_frame_14 rfl rfl ?_
  refine r_g_frames X dX5_frame_15 ?_
  intro v3
  refine g_iload_n X dX5_frame_18 rfl rfl ?_
  refine r_s_place X dX5_frame_19 ?_
  intro M4
  refine g_aload_n X dX5_frame_20 rfl rfl ?_
  refine r_g_end X dX5_frame_21 ?_
  refine g_aload_n X dX5_frame_24 rfl rfl ?_
  refine r_g_frames X dX5_frame_25 ?_
  intro v5
  refine g_iload_n X dX5_frame_28 rfl rfl ?_
  refine r_s_end X dX5_frame_29 ?_
  intro M6
  refine g_aload_n X dX5_frame_30 rfl rfl ?_
  refine r_g_self X dX5_frame_31 ?_
  refine g_aload_n X dX5_frame_34 rfl rfl ?_
  refine r_g_frames X dX5_frame_35 ?_
  intro v7
  refine g_iload X dX5_frame_38 rfl ?_
  refine r_s_self X dX5_frame_40 ?_
  intro M8
  refine g_aload_n X dX5_frame_41 rfl rfl ?_
  refine r_g_starts X dX5_frame_42 ?_
  refine g_aload_n X dX5_frame_45 rfl rfl ?_
  refine r_g_frames X dX5_frame_46 ?_
  intro v9
  refine g_iload X dX5_frame_49 rfl ?_
  refine r_s_starts X dX5_frame_51 ?_
  intro M10
  refine g_aload_n X dX5_frame_52 rfl rfl ?_
  refine r_g_isArgObj X dX5_frame_53 ?_
  refine g_aload_n X dX5_frame_56 rfl rfl ?_
  refine r_g_frames X dX5_frame_57 ?_
  intro v11
  refine g_iconst (v := (0 : Int32)) X dX5_frame_60 (by decide) ?_
  refine r_s_isArgObj X dX5_frame_61 ?_
  intro M12
  refine g_aload_n X dX5_frame_62 rfl rfl ?_
  refine r_g_argument X dX5_frame_63 ?_
  refine g_aload_n X dX5_frame_66 rfl rfl ?_
  refine r_g_frames X dX5_frame_67 ?_
  intro v13
  refine g_iconst (v := (0 : Int32)) X dX5_frame_70 (by decide) ?_
  refine r_s_argument X dX5_frame_71 ?_
  intro M14
  refine g_aload_n X dX5_frame_72 rfl rfl ?_
  refine g_dup X dX5_frame_73 rfl ?_
  refine r_g_frames X dX5_frame_74 ?_
  intro v15
  refine g_iconst (v := (1 : Int32)) X dX5_frame_77 (by decide) ?_
  refine g_iadd X dX5_frame_78 ?_
  refine r_p_frames X dX5_frame_79 ?_
  intro M16
  refine g_aload_n X dX5_frame_82 rfl rfl ?_
  refine g_dup X dX5_frame_83 rfl ?_
  refine r_g_inner X dX5_frame_84 ?_
  intro v17
  refine g_iload_n X dX5_frame_87 rfl rfl ?_
  refine g_if_lt (tgt := 95) X dX5_frame_88 (by decide) ?_ ?_
  · refine g_iconst (v := (0 : Int32)) X dX5_frame_95 (by decide) ?_
    refine g_iadd X dX5_frame_96 ?_
    refine r_p_inner X dX5_frame_97 ?_
    intro M18
    exact r_vret X dX5_frame_100
  · refine g_iconst (v := (1 : Int32)) X dX5_frame_91 (by decide) ?_
    refine g_goto (tgt := 96) X dX5_frame_92 (by decide) ?_
    refine g_iadd X dX5_frame_96 ?_
    refine r_p_inner X dX5_frame_97 ?_
    intro M19
    exact r_vret X dX5_frame_100
theorem tc_frame : Cond.code yX5_frame cX5_frame 6 none ∈ tt := tt_in (List.mem_of_getElem? (i := 952) (by decide +kernel)) (by decide +kernel)
theorem tl_frame : Cond.methodLink RX5 211 yX5_frame ∈ tt := tt_in (List.mem_of_getElem? (i := 949) (by decide +kernel)) (by decide +kernel)
theorem ti_frame : Cond.instanceMethod yX5_frame ∈ tt := tt_in (List.mem_of_getElem? (i := 951) (by decide +kernel)) (by decide +kernel)
theorem te_frame : Cond.selects RX5 yX5_frame yX5_frame ∈ tt := tt_in (List.mem_of_getElem? (i := 49) (by decide +kernel)) (by decide +kernel)
theorem k_frame (X : gX p s m args meth c cc nL RX5 rt D (tyR cI cZ)) {n : Nat} {x1 : Int32} {x2 : Int32} {x3 : Int32} {x4 : Int32} {x5 : Int32} {M : MR} {rest : List Value} {K : Int32 → MR → Option ρ} (hR : 0 + 1 ≤ R.frames ∧ 8 + (6 + 11) + 0 ≤ R.locals) (hcat : (rest.map fun v => v.category).sum ≤ 8) (d : decode cc pc = .ok (.invokevirtual 211, 3)) (kk : ∀ v M1, gG p l e R s m args below meth c nL (ZR D cI cZ q (AR q s.heap.size) s.heap M1) 0 0 QQ (pc + 3) lv (rest) (K v M1)) : gG p l e R s m args below meth c nL (ZR D cI cZ q (AR q s.heap.size) s.heap M) 0 0 QQ pc lv (.int x5 :: .int x4 :: .int x3 :: .int x2 :: .int x1 :: .ref (q 34) :: rest) (bnd (fR_frame n x1 x2 x3 x4 x5 M) K) := r_callVv (As := [.int x1, .int x2, .int x3, .int x4, .int x5]) X (c_frame l D cI cZ q n x1 x2 x3 x4 x5 M) (cwVR (k := 5) X.2.2.2.2.1 tl_frame ti_frame te_frame tc_frame ini5 (by decide +kernel) hR) rfl rfl hcat d kk
-- intAt
def fR_intAt (n : Nat) (x1 : Int32) (M : MR) : Option (Int32 × MR) :=
    gf M 20 fun v1 =>
    rd M 13 22 (v1 - (1 : Int32)) fun v2 =>
    if 0 ≤ v2 then
      (rd M 13 22 (v1 - (1 : Int32)) fun v3 =>
      rd M 14 22 (v1 - (1 : Int32)) fun v4 =>
      bnd (fR_textOf n v3 (v4 + x1) M) fun v5 M5 =>
      some (v5, M5))
    else
      (rd M 14 22 (v1 - (1 : Int32)) fun v6 =>
      rd M 5 60 (v6 + x1) fun v7 =>
      some (v7, M))
theorem c_intAt (l : Launch) (D : va_G) (cI cZ : ClassId) (q : Nat → Nat) (n : Nat) (x1 : Int32) (M : MR) : MetR l D cI cZ q yX5_intAt cX5_intAt 3 (some .int) 2 42 QI [.ref (q 34), .int x1] M (fR_intAt n x1 M) := by
  refine MetR.of (by decide) rfl (Nat.le_of_ble_eq_true rfl) ?_
  intro p e s m args below meth c X
  unfold fR_intAt
  refine g_pick (lv' := [(0, .ref (q 34)), (1, .int x1)]) [0, 1] rfl ?_
  refine g_aload_n X dX5_intAt_0 rfl rfl ?_
  refine r_g_frames X dX5_intAt_1 ?_
  intro v1
  refine g_iconst (v := (1 : Int32)) X dX5_intAt_4 (by decide) ?_
  refine g_isub X dX5_intAt_5 ?_
  refine g_istore_n (lv' := [(2, .int (v1 - (1 : Int32))), (0, .ref (q 34)), (1, .int x1)]) X dX5_intAt_6 rfl (by decide) rfl ?_
  refine g_aload_n X dX5_intAt_7 rfl rfl ?_
  refine r_g_source X dX5_intAt_8 ?_
  refine g_iload_n X dX5_intAt_11 rfl rfl ?_
  refine r_l_source X dX5_intAt_12 ?_
  intro v2
  refine g_if_ge (tgt := 32) X dX5_intAt_13 (by decide) ?_ ?_
  · refine g_aload_n X dX5_intAt_32 rfl rfl ?_
    refine g_aload_n X dX5_intAt_33 rfl rfl ?_
    refine r_g_source X dX5_intAt_34 ?_
    refine g_iload_n X dX5_intAt_37 rfl rfl ?_
    refine r_l_source X dX5_intAt_38 ?_
    intro v3
    refine g_aload_n X dX5_intAt_39 rfl rfl ?_
    refine r_g_place X dX5_intAt_40 ?_
    refine g_iload_n X dX5_intAt_43 rfl rfl ?_
    refine r_l_place X dX5_intAt_44 ?_
    intro v4
    refine g_iload_n X dX5_intAt_45 rfl rfl ?_
    refine g_iadd X dX5_intAt_46 ?_
    refine k_textOf X ⟨Nat.le_of_ble_eq_true rfl, Nat.le_of_ble_eq_true rfl⟩ (Nat.le_of_ble_eq_true rfl) dX5_intAt_47 ?_
    intro v5 M5
    exact r_iret X dX5_intAt_50
  · refine g_aload_n X dX5_intAt_16 rfl rfl ?_
    refine r_g_meant X dX5_intAt_17 ?_
    refine g_aload_n X dX5_intAt_20 rfl rfl ?_
    refine r_g_place X dX5_intAt_21 ?_
    refine g_iload_n X dX5_intAt_24 rfl rfl ?_
    refine r_l_place X dX5_intAt_25 ?_
    intro v6
    refine g_iload_n X dX5_intAt_26 rfl rfl ?_
    refine g_iadd X dX5_intAt_27 ?_
    refine r_l_meant X dX5_intAt_28 ?_
    intro v7
    refine g_goto (tgt := 50) X dX5_intAt_29 (by decide) ?_
    exact r_iret X dX5_intAt_50
theorem tc_intAt : Cond.code yX5_intAt cX5_intAt 3 (some .int) ∈ tt := tt_in (List.mem_of_getElem? (i := 972) (by decide +kernel)) (by decide +kernel)
theorem tl_intAt : Cond.methodLink RX5 175 yX5_intAt ∈ tt := tt_in (List.mem_of_getElem? (i := 969) (by decide +kernel)) (by decide +kernel)
theorem ti_intAt : Cond.instanceMethod yX5_intAt ∈ tt := tt_in (List.mem_of_getElem? (i := 971) (by decide +kernel)) (by decide +kernel)
theorem te_intAt : Cond.selects RX5 yX5_intAt yX5_intAt ∈ tt := tt_in (List.mem_of_getElem? (i := 54) (by decide +kernel)) (by decide +kernel)
theorem k_intAt (X : gX p s m args meth c cc nL RX5 rt D (tyR cI cZ)) {n : Nat} {x1 : Int32} {M : MR} {rest : List Value} {K : Int32 → MR → Option ρ} (hR : 2 + 1 ≤ R.frames ∧ 8 + (3 + 11) + 42 ≤ R.locals) (hcat : (rest.map fun v => v.category).sum ≤ 8) (d : decode cc pc = .ok (.invokevirtual 175, 3)) (kk : ∀ v M1, gG p l e R s m args below meth c nL (ZR D cI cZ q (AR q s.heap.size) s.heap M1) 0 0 QQ (pc + 3) lv (.int v :: rest) (K v M1)) : gG p l e R s m args below meth c nL (ZR D cI cZ q (AR q s.heap.size) s.heap M) 0 0 QQ pc lv (.int x1 :: .ref (q 34) :: rest) (bnd (fR_intAt n x1 M) K) := r_callVi (As := [.int x1]) X (c_intAt l D cI cZ q n x1 M) (cwVR (k := 1) X.2.2.2.2.1 tl_intAt ti_intAt te_intAt tc_intAt ini5 (by decide +kernel) hR) rfl rfl hcat d kk
-- fail
def fR_fail_b58 (n : Nat) (k7 : Int32 → Int32 → MR → Option (Int32 × MR)) (x1 : Int32) (x2 : Int32) (M : MR) : Option (Int32 × MR) :=
    k7 x1 (x2 + (1 : Int32)) M
theorem wR_fail_b58 (X : gX p s m args meth c cX5_fail 3 RX5 none D (tyR cI cZ)) (n : Nat) (k7 : Int32 → Int32 → MR → Option (Int32 × MR)) (hk7 : ∀ (x1 : Int32) (x2 : Int32) (M : MR), gG p l e (rmR 1 20) s m args below meth c 3 (ZR D cI cZ q (AR q s.heap.size) s.heap M) 0 0 (fun r => MQ below (QV D cI cZ q s.heap.size r) args s 0 0 (AR q s.heap.size)) 7 [(0, .ref (q 34)), (1, .int x1), (2, .int x2)] [] (k7 x1 x2 M)) (x1 : Int32) (x2 : Int32) (M : MR) : gG p l e (rmR 1 20) s m args below meth c 3 (ZR D cI cZ q (AR q s.heap.size) s.heap M) 0 0 (fun r => MQ below (QV D cI cZ q s.heap.size r) args s 0 0 (AR q s.heap.size)) 58 [(0, .ref (q 34)), (1, .int x1), (2, .int x2)] [] (fR_fail_b58 n k7 x1 x2 M) := by
  unfold fR_fail_b58
  refine g_iinc (v := (1 : Int32)) (lv' := [(2, .int (x2 + (1 : Int32))), (0, .ref (q 34)), (1, .int x1)]) X dX5_fail_58 rfl (by decide) (by decide) rfl ?_
  refine g_goto (tgt := 7) X dX5_fail_61 (by decide) ?_
  exact g_pick [1, 2, 0] rfl (hk7 x1 (x2 + (1 : Int32)) M)
def fR_fail_b55 (n : Nat) (k7 : Int32 → Int32 → MR → Option (Int32 × MR)) (x1 : Int32) (x2 : Int32) (s0 : Int32) (M : MR) : Option (Int32 × MR) :=
    pf M 24 s0 fun M1 =>
    fR_fail_b58 n k7 x1 x2 M1
theorem wR_fail_b55 (X : gX p s m args meth c cX5_fail 3 RX5 none D (tyR cI cZ)) (n : Nat) (k7 : Int32 → Int32 → MR → Option (Int32 × MR)) (hk7 : ∀ (x1 : Int32) (x2 : Int32) (M : MR), gG p l e (rmR 1 20) s m args below meth c 3 (ZR D cI cZ q (AR q s.heap.size) s.heap M) 0 0 (fun r => MQ below (QV D cI cZ q s.heap.size r) args s 0 0 (AR q s.heap.size)) 7 [(0, .ref (q 34)), (1, .int x1), (2, .int x2)] [] (k7 x1 x2 M)) (x1 : Int32) (x2 : Int32) (s0 : Int32) (M : MR) : gG p l e (rmR 1 20) s m args below meth c 3 (ZR D cI cZ q (AR q s.heap.size) s.heap M) 0 0 (fun r => MQ below (QV D cI cZ q s.heap.size r) args s 0 0 (AR q s.heap.size)) 55 [(0, .ref (q 34)), (1, .int x1), (2, .int x2)] [.int s0, .ref (q 34)] (fR_fail_b55 n k7 x1 x2 s0 M) := by
  unfold fR_fail_b55
  refine r_p_failure X dX5_fail_55 ?_
  intro M1
  exact g_pick [0, 1, 2] rfl (wR_fail_b58 X n k7 hk7 x1 x2 M1)
def fR_fail_l7 (n : Nat) : Nat → Int32 → Int32 → MR → Option (Int32 × MR)
  | 0, _, _, _ => none
  | k + 1, x1, x2, M => gf M 20 fun v1 =>
    if v1 ≤ x2 then
      (some (0, M))
    else
      (rd M 19 22 x2 fun v2 =>
      if v2 < 0 then
        (fR_fail_b58 n (fR_fail_l7 n k) x1 x2 M)
      else
        (rd M 19 22 x2 fun v3 =>
        bnd (fR_editAt n v3 M) fun v4 M4 =>
        wr M4 0 62610 (v4 + (5 : Int32)) (2 : Int32) fun M5 =>
        if x1 = (100 : Int32) then
          (fR_fail_b55 n (fR_fail_l7 n k) x1 x2 (100 : Int32) M5)
        else
          (fR_fail_b55 n (fR_fail_l7 n k) x1 x2 (6 : Int32) M5)))
theorem wR_fail_l7 (X : gX p s m args meth c cX5_fail 3 RX5 none D (tyR cI cZ)) (n : Nat) : ∀ (k : Nat) (x1 : Int32) (x2 : Int32) (M : MR), gG p l e (rmR 1 20) s m args below meth c 3 (ZR D cI cZ q (AR q s.heap.size) s.heap M) 0 0 (fun r => MQ below (QV D cI cZ q s.heap.size r) args s 0 0 (AR q s.heap.size)) 7 [(0, .ref (q 34)), (1, .int x1), (2, .int x2)] [] (fR_fail_l7 n k x1 x2 M) := by
  intro k
  induction k with
  | zero =>
    intro x1 x2 M
    exact g_none
  | succ k ih =>
    intro x1 x2 M
    rw [fR_fail_l7]
    refine g_iload_n X dX5_fail_7 rfl rfl ?_
    refine g_aload_n X dX5_fail_8 rfl rfl ?_
    refine r_g_frames X dX5_fail_9 ?_
    intro v1
    refine g_icmp_ge (tgt := 64) X dX5_fail_12 (by decide) ?_ ?_
    · exact r_vret X dX5_fail_64
    · refine g_aload_n X dX5_fail_15 rfl rfl ?_
      refine r_g_starts X dX5_fail_16 ?_
      refine g_iload_n X dX5_fail_19 rfl rfl ?_
      refine r_l_starts X dX5_fail_20 ?_
      intro v2
      refine g_if_lt (tgt := 58) X dX5_fail_21 (by decide) ?_ ?_
      · exact g_pick [0, 1, 2] rfl (wR_fail_b58 X n (fR_fail_l7 n k) ih x1 x2 M)
      · refine g_aload_n X dX5_fail_24 rfl rfl ?_
        refine r_g_m X dX5_fail_25 ?_
        refine g_aload_n X dX5_fail_28 rfl rfl ?_
        refine r_g_starts X dX5_fail_29 ?_
        refine g_iload_n X dX5_fail_32 rfl rfl ?_
        refine r_l_starts X dX5_fail_33 ?_
        intro v3
        refine k_editAt X ⟨Nat.le_of_ble_eq_true rfl, Nat.le_of_ble_eq_true rfl⟩ (Nat.le_of_ble_eq_true rfl) dX5_fail_34 ?_
        intro v4 M4
        refine g_iconst (v := (5 : Int32)) X dX5_fail_37 (by decide) ?_
        refine g_iadd X dX5_fail_38 ?_
        refine g_iconst (v := (2 : Int32)) X dX5_fail_39 (by decide) ?_
        refine r_s_m X dX5_fail_40 ?_
        intro M5
        refine g_aload_n X dX5_fail_41 rfl rfl ?_
        refine g_iload_n X dX5_fail_42 rfl rfl ?_
        refine g_bipush (v := (100 : Int32)) X dX5_fail_43 (by decide) ?_
        refine g_icmp_ne (tgt := 53) X dX5_fail_45 (by decide) ?_ ?_
        · refine g_bipush (v := (6 : Int32)) X dX5_fail_53 (by decide) ?_
          exact g_pick [0, 1, 2] rfl (wR_fail_b55 X n (fR_fail_l7 n k) ih x1 x2 (6 : Int32) M5)
        · refine g_bipush (v := (100 : Int32)) X dX5_fail_48 (by decide) ?_
          refine g_goto (tgt := 55) X dX5_fail_50 (by decide) ?_
          exact g_pick [0, 1, 2] rfl (wR_fail_b55 X n (fR_fail_l7 n k) ih x1 x2 (100 : Int32) M5)
def fR_fail (n : Nat) (x1 : Int32) (M : MR) : Option (Int32 × MR) :=
    pf M 24 x1 fun M1 =>
    fR_fail_l7 n n x1 (0 : Int32) M1
theorem c_fail (l : Launch) (D : va_G) (cI cZ : ClassId) (q : Nat → Nat) (n : Nat) (x1 : Int32) (M : MR) : MetR l D cI cZ q yX5_fail cX5_fail 3 none 1 20 QV [.ref (q 34), .int x1] M (fR_fail n x1 M) := by
  refine MetR.of (by decide) rfl (Nat.le_of_ble_eq_true rfl) ?_
  intro p e s m args below meth c X
  unfold fR_fail
  refine g_pick (lv' := [(0, .ref (q 34)), (1, .int x1)]) [0, 1] rfl ?_
  refine g_aload_n X dX5_fail_0 rfl rfl ?_
  refine g_iload_n X dX5_fail_1 rfl rfl ?_
  refine r_p_failure X dX5_fail_2 ?_
  intro M1
  refine g_iconst (v := (0 : Int32)) X dX5_fail_5 (by decide) ?_
  refine g_istore_n (lv' := [(2, .int (0 : Int32)), (0, .ref (q 34)), (1, .int x1)]) X dX5_fail_6 rfl (by decide) rfl ?_
  exact g_pick [1, 2, 0] rfl (wR_fail_l7 X n n x1 (0 : Int32) M1)
theorem tc_fail : Cond.code yX5_fail cX5_fail 3 none ∈ tt := tt_in (List.mem_of_getElem? (i := 964) (by decide +kernel)) (by decide +kernel)
theorem tl_fail : Cond.methodLink RX5 169 yX5_fail ∈ tt := tt_in (List.mem_of_getElem? (i := 961) (by decide +kernel)) (by decide +kernel)
theorem ti_fail : Cond.instanceMethod yX5_fail ∈ tt := tt_in (List.mem_of_getElem? (i := 963) (by decide +kernel)) (by decide +kernel)
theorem te_fail : Cond.selects RX5 yX5_fail yX5_fail ∈ tt := tt_in (List.mem_of_getElem? (i := 52) (by decide +kernel)) (by decide +kernel)
theorem k_fail (X : gX p s m args meth c cc nL RX5 rt D (tyR cI cZ)) {n : Nat} {x1 : Int32} {M : MR} {rest : List Value} {K : Int32 → MR → Option ρ} (hR : 1 + 1 ≤ R.frames ∧ 8 + (3 + 11) + 20 ≤ R.locals) (hcat : (rest.map fun v => v.category).sum ≤ 8) (d : decode cc pc = .ok (.invokevirtual 169, 3)) (kk : ∀ v M1, gG p l e R s m args below meth c nL (ZR D cI cZ q (AR q s.heap.size) s.heap M1) 0 0 QQ (pc + 3) lv (rest) (K v M1)) : gG p l e R s m args below meth c nL (ZR D cI cZ q (AR q s.heap.size) s.heap M) 0 0 QQ pc lv (.int x1 :: .ref (q 34) :: rest) (bnd (fR_fail n x1 M) K) := r_callVv (As := [.int x1]) X (c_fail l D cI cZ q n x1 M) (cwVR (k := 1) X.2.2.2.2.1 tl_fail ti_fail te_fail tc_fail ini5 (by decide +kernel) hR) rfl rfl hcat d kk
-- finish
def fR_finish_b32 (n : Nat) (s0 : Int32) (s1 : Int32) (M : MR) : Option (Int32 × MR) :=
    pf M 21 (s0 - s1) fun M1 =>
    gf M1 20 fun v2 =>
    rd M1 19 22 v2 fun v3 =>
    if v3 < 0 then
      (some (0, M1))
    else
      (gf M1 12 fun v4 =>
      pf M1 12 (v4 - (1 : Int32)) fun M5 =>
      zt (1 : Int32) (pf M5 22 (1 : Int32) fun M6 =>
      some (0, M6)))
theorem wR_finish_b32 (X : gX p s m args meth c cX5_finish 1 RX5 none D (tyR cI cZ)) (n : Nat) (s0 : Int32) (s1 : Int32) (M : MR) : gG p l e (rmR 0 0) s m args below meth c 1 (ZR D cI cZ q (AR q s.heap.size) s.heap M) 0 0 (fun r => MQ below (QV D cI cZ q s.heap.size r) args s 0 0 (AR q s.heap.size)) 32 [(0, .ref (q 34))] [.int s1, .int s0, .ref (q 34)] (fR_finish_b32 n s0 s1 M) := by
  unfold fR_finish_b32
  refine g_isub X dX5_finish_32 ?_
  refine r_p_inner X dX5_finish_33 ?_
  intro M1
  refine g_aload_n X dX5_finish_36 rfl rfl ?_
  refine r_g_starts X dX5_finish_37 ?_
  refine g_aload_n X dX5_finish_40 rfl rfl ?_
  refine r_g_frames X dX5_finish_41 ?_
  intro v2
  refine r_l_starts X dX5_finish_44 ?_
  intro v3
  refine g_if_lt (tgt := 63) X dX5_finish_45 (by decide) ?_ ?_
  · exact r_vret X dX5_finish_63
  · refine g_aload_n X dX5_finish_48 rfl rfl ?_
    refine g_dup X dX5_finish_49 rfl ?_
    refine r_g_top X dX5_finish_50 ?_
    intro v4
    refine g_iconst (v := (1 : Int32)) X dX5_finish_53 (by decide) ?_
    refine g_isub X dX5_finish_54 ?_
    refine r_p_top X dX5_finish_55 ?_
    intro M5
    refine g_aload_n X dX5_finish_58 rfl rfl ?_
    refine g_iconst (v := (1 : Int32)) X dX5_finish_59 (by decide) ?_
    refine r_p_again X dX5_finish_60 ?_
    intro M6
    exact r_vret X dX5_finish_63
def fR_finish (n : Nat) (M : MR) : Option (Int32 × MR) :=
    gf M 20 fun v1 =>
    pf M 20 (v1 - (1 : Int32)) fun M2 =>
    gf M2 21 fun v3 =>
    gf M2 20 fun v4 =>
    rd M2 13 22 v4 fun v5 =>
    if v5 < 0 then (fR_finish_b32 n v3 (0 : Int32) M2) else (fR_finish_b32 n v3 (1 : Int32) M2)
theorem c_finish (l : Launch) (D : va_G) (cI cZ : ClassId) (q : Nat → Nat) (n : Nat) (M : MR) : MetR l D cI cZ q yX5_finish cX5_finish 1 none 0 0 QV [.ref (q 34)] M (fR_finish n M) := by
  refine MetR.of (by decide) rfl (Nat.le_of_ble_eq_true rfl) ?_
  intro p e s m args below meth c X
  unfold fR_finish
  refine g_pick (lv' := [(0, .ref (q 34))]) [0] rfl ?_
  refine g_aload_n X dX5_finish_0 rfl rfl ?_
  refine g_dup X dX5_finish_1 rfl ?_
  refine r_g_frames X dX5_finish_2 ?_
  intro v1
  refine g_iconst (v := (1 : Int32)) X dX5_finish_5 (by decide) ?_
  refine g_isub X dX5_finish_6 ?_
  refine r_p_frames X dX5_finish_7 ?_
  intro M2
  refine g_aload_n X dX5_finish_10 rfl rfl ?_
  refine g_dup X dX5_finish_11 rfl ?_
  refine r_g_inner X dX5_finish_12 ?_
  intro v3
  refine g_aload_n X dX5_finish_15 rfl rfl ?_
  refine r_g_source X dX5_finish_16 ?_
  refine g_aload_n X dX5_finish_19 rfl rfl ?_
  refine r_g_frames X dX5_finish_20 ?_
  intro v4
  refine r_l_source X dX5_finish_23 ?_
  intro v5
  refine g_if_lt (tgt := 31) X dX5_finish_24 (by decide) ?_ ?_
  · refine g_iconst (v := (0 : Int32)) X dX5_finish_31 (by decide) ?_
    exact g_pick [0] rfl (wR_finish_b32 X n v3 (0 : Int32) M2)
  · refine g_iconst (v := (1 : Int32)) X dX5_finish_27 (by decide) ?_
    refine g_goto (tgt := 32) X dX5_finish_28 (by decide) ?_
    exact g_pick [0] rfl (wR_finish_b32 X n v3 (1 : Int32) M2)
theorem tc_finish : Cond.code yX5_finish cX5_finish 1 none ∈ tt := tt_in (List.mem_of_getElem? (i := 960) (by decide +kernel)) (by decide +kernel)
theorem tl_finish : Cond.methodLink RX5 166 yX5_finish ∈ tt := tt_in (List.mem_of_getElem? (i := 957) (by decide +kernel)) (by decide +kernel)
theorem ti_finish : Cond.instanceMethod yX5_finish ∈ tt := tt_in (List.mem_of_getElem? (i := 959) (by decide +kernel)) (by decide +kernel)
theorem te_finish : Cond.selects RX5 yX5_finish yX5_finish ∈ tt := tt_in (List.mem_of_getElem? (i := 51) (by decide +kernel)) (by decide +kernel)
theorem k_finish (X : gX p s m args meth c cc nL RX5 rt D (tyR cI cZ)) {n : Nat} {M : MR} {rest : List Value} {K : Int32 → MR → Option ρ} (hR : 0 + 1 ≤ R.frames ∧ 8 + (1 + 11) + 0 ≤ R.locals) (hcat : (rest.map fun v => v.category).sum ≤ 8) (d : decode cc pc = .ok (.invokevirtual 166, 3)) (kk : ∀ v M1, gG p l e R s m args below meth c nL (ZR D cI cZ q (AR q s.heap.size) s.heap M1) 0 0 QQ (pc + 3) lv (rest) (K v M1)) : gG p l e R s m args below meth c nL (ZR D cI cZ q (AR q s.heap.size) s.heap M) 0 0 QQ pc lv (.ref (q 34) :: rest) (bnd (fR_finish n M) K) := r_callVv (As := []) X (c_finish l D cI cZ q n M) (cwVR (k := 0) X.2.2.2.2.1 tl_finish ti_finish te_finish tc_finish ini5 (by decide +kernel) hR) rfl rfl hcat d kk
-- ask
def fR_ask_b64 (n : Nat) (x1 : Int32) (x3 : Int32) (M : MR) : Option (Int32 × MR) :=
    if x1 = (3 : Int32) then
      (gf M 12 fun v1 =>
      wz M 10 2000 (v1 - (1 : Int32)) (0 : Int32) fun M2 =>
      gf M2 12 fun v3 =>
      if x3 = 0 then
        (wr M2 11 2000 (v3 - (1 : Int32)) (0 : Int32) fun M4 =>
        some (0, M4))
      else
        (wr M2 11 2000 (v3 - (1 : Int32)) (1 : Int32) fun M5 =>
        some (0, M5)))
    else
      (some (0, M))
theorem wR_ask_b64 (X : gX p s m args meth c cX5_ask 4 RX5 none D (tyR cI cZ)) (n : Nat) (x1 : Int32) (x3 : Int32) (M : MR) : gG p l e (rmR 4 86) s m args below meth c 4 (ZR D cI cZ q (AR q s.heap.size) s.heap M) 0 0 (fun r => MQ below (QV D cI cZ q s.heap.size r) args s 0 0 (AR q s.heap.size)) 64 [(0, .ref (q 34)), (1, .int x1), (3, .int x3)] [] (fR_ask_b64 n x1 x3 M) := by
  unfold fR_ask_b64
  refine g_iload_n X dX5_ask_64 rfl rfl ?_
  refine g_iconst (v := (3 : Int32)) X dX5_ask_65 (by decide) ?_
  refine g_icmp_ne (tgt := 101) X dX5_ask_66 (by decide) ?_ ?_
  · exact r_vret X dX5_ask_101
  · refine g_aload_n X dX5_ask_69 rfl rfl ?_
    refine r_g_isObj X dX5_ask_70 ?_
    refine g_aload_n X dX5_ask_73 rfl rfl ?_
    refine r_g_top X dX5_ask_74 ?_
    intro v1
    refine g_iconst (v := (1 : Int32)) X dX5_ask_77 (by decide) ?_
    refine g_isub X dX5_ask_78 ?_
    refine g_iconst (v := (0 : Int32)) X dX5_ask_79 (by decide) ?_
    refine r_s_isObj X dX5_ask_80 ?_
    intro M2
    refine g_aload_n X dX5_ask_81 rfl rfl ?_
    refine r_g_value X dX5_ask_82 ?_
    refine g_aload_n X dX5_ask_85 rfl rfl ?_
    refine r_g_top X dX5_ask_86 ?_
    intro v3
    refine g_iconst (v := (1 : Int32)) X dX5_ask_89 (by decide) ?_
    refine g_isub X dX5_ask_90 ?_
    refine g_iload_n X dX5_ask_91 rfl rfl ?_
    refine g_if_eq (tgt := 99) X dX5_ask_92 (by decide) ?_ ?_
    · refine g_iconst (v := (0 : Int32)) X dX5_ask_99 (by decide) ?_
      refine r_s_value X dX5_ask_100 ?_
      intro M4
      exact r_vret X dX5_ask_101
    · refine g_iconst (v := (1 : Int32)) X dX5_ask_95 (by decide) ?_
      refine g_goto (tgt := 100) X dX5_ask_96 (by decide) ?_
      refine r_s_value X dX5_ask_100 ?_
      intro M5
      exact r_vret X dX5_ask_101
def fR_ask_b46 (n : Nat) (x1 : Int32) (s0 : Int32) (M : MR) : Option (Int32 × MR) :=
    if x1 = (4 : Int32) then
      (if s0 = 0 then
        (bnd (fR_fail n (5 : Int32) M) fun _ M1 =>
        some (0, M1))
      else
        (fR_ask_b64 n x1 s0 M))
    else
      (fR_ask_b64 n x1 s0 M)
theorem wR_ask_b46 (X : gX p s m args meth c cX5_ask 4 RX5 none D (tyR cI cZ)) (n : Nat) (x1 : Int32) (s0 : Int32) (M : MR) : gG p l e (rmR 4 86) s m args below meth c 4 (ZR D cI cZ q (AR q s.heap.size) s.heap M) 0 0 (fun r => MQ below (QV D cI cZ q s.heap.size r) args s 0 0 (AR q s.heap.size)) 46 [(0, .ref (q 34)), (1, .int x1)] [.int s0] (fR_ask_b46 n x1 s0 M) := by
  unfold fR_ask_b46
  refine g_istore_n (lv' := [(3, .int s0), (0, .ref (q 34)), (1, .int x1)]) X dX5_ask_46 rfl (by decide) rfl ?_
  refine g_iload_n X dX5_ask_47 rfl rfl ?_
  refine g_iconst (v := (4 : Int32)) X dX5_ask_48 (by decide) ?_
  refine g_icmp_ne (tgt := 64) X dX5_ask_49 (by decide) ?_ ?_
  · exact g_pick [1, 2, 0] rfl (wR_ask_b64 X n x1 s0 M)
  · refine g_iload_n X dX5_ask_52 rfl rfl ?_
    refine g_if_ne (tgt := 64) X dX5_ask_53 (by decide) ?_ ?_
    · exact g_pick [1, 2, 0] rfl (wR_ask_b64 X n x1 s0 M)
    · refine g_aload_n X dX5_ask_56 rfl rfl ?_
      refine g_iconst (v := (5 : Int32)) X dX5_ask_57 (by decide) ?_
      refine k_fail X ⟨Nat.le_of_ble_eq_true rfl, Nat.le_of_ble_eq_true rfl⟩ (Nat.le_of_ble_eq_true rfl) dX5_ask_58 ?_
      intro v1 M1
      refine g_goto (tgt := 101) X dX5_ask_61 (by decide) ?_
      exact r_vret X dX5_ask_101
def fR_ask_b45 (n : Nat) (x1 : Int32) (M : MR) : Option (Int32 × MR) :=
    fR_ask_b46 n x1 (0 : Int32) M
theorem wR_ask_b45 (X : gX p s m args meth c cX5_ask 4 RX5 none D (tyR cI cZ)) (n : Nat) (x1 : Int32) (M : MR) : gG p l e (rmR 4 86) s m args below meth c 4 (ZR D cI cZ q (AR q s.heap.size) s.heap M) 0 0 (fun r => MQ below (QV D cI cZ q s.heap.size r) args s 0 0 (AR q s.heap.size)) 45 [(0, .ref (q 34)), (1, .int x1)] [] (fR_ask_b45 n x1 M) := by
  unfold fR_ask_b45
  refine g_iconst (v := (0 : Int32)) X dX5_ask_45 (by decide) ?_
  exact g_pick [0, 1] rfl (wR_ask_b46 X n x1 (0 : Int32) M)
def fR_ask (n : Nat) (x1 : Int32) (x2 : Int32) (M : MR) : Option (Int32 × MR) :=
    gf M 12 fun v1 =>
    rd M 10 2000 (v1 - (1 : Int32)) fun v2 =>
    if v2 = 0 then
      (fR_ask_b45 n x1 M)
    else
      (gf M 12 fun v3 =>
      rd M 11 2000 (v3 - (1 : Int32)) fun v4 =>
      bnd (fR_objAt n v4 M) fun v5 M5 =>
      rd M5 0 62610 v5 fun v6 =>
      bnd (fR_isBelow n v6 x2 M5) fun v7 M7 =>
      if v7 = 0 then (fR_ask_b45 n x1 M7) else (fR_ask_b46 n x1 (1 : Int32) M7))
theorem c_ask (l : Launch) (D : va_G) (cI cZ : ClassId) (q : Nat → Nat) (n : Nat) (x1 : Int32) (x2 : Int32) (M : MR) : MetR l D cI cZ q yX5_ask cX5_ask 4 none 4 86 QV [.ref (q 34), .int x1, .int x2] M (fR_ask n x1 x2 M) := by
  refine MetR.of (by decide) rfl (Nat.le_of_ble_eq_true rfl) ?_
  intro p e s m args below meth c X
  unfold fR_ask
  refine g_pick (lv' := [(0, .ref (q 34)), (1, .int x1), (2, .int x2)]) [0, 1, 2] rfl ?_
  refine g_aload_n X dX5_ask_0 rfl rfl ?_
  refine r_g_isObj X dX5_ask_1 ?_
  refine g_aload_n X dX5_ask_4 rfl rfl ?_
  refine r_g_top X dX5_ask_5 ?_
  intro v1
  refine g_iconst (v := (1 : Int32)) X dX5_ask_8 (by decide) ?_
  refine g_isub X dX5_ask_9 ?_
  refine r_l_isObj X dX5_ask_10 ?_
  intro v2
  refine g_if_eq (tgt := 45) X dX5_ask_11 (by decide) ?_ ?_
  · exact g_pick [0, 1] rfl (wR_ask_b45 X n x1 M)
  · refine g_aload_n X dX5_ask_14 rfl rfl ?_
    refine g_aload_n X dX5_ask_15 rfl rfl ?_
    refine r_g_m X dX5_ask_16 ?_
    refine g_aload_n X dX5_ask_19 rfl rfl ?_
    refine r_g_value X dX5_ask_20 ?_
    refine g_aload_n X dX5_ask_23 rfl rfl ?_
    refine r_g_top X dX5_ask_24 ?_
    intro v3
    refine g_iconst (v := (1 : Int32)) X dX5_ask_27 (by decide) ?_
    refine g_isub X dX5_ask_28 ?_
    refine r_l_value X dX5_ask_29 ?_
    intro v4
    refine k_objAt X ⟨Nat.le_of_ble_eq_true rfl, Nat.le_of_ble_eq_true rfl⟩ (Nat.le_of_ble_eq_true rfl) dX5_ask_30 ?_
    intro v5 M5
    refine r_l_m X dX5_ask_33 ?_
    intro v6
    refine g_iload_n X dX5_ask_34 rfl rfl ?_
    refine k_isBelow X ⟨Nat.le_of_ble_eq_true rfl, Nat.le_of_ble_eq_true rfl⟩ (Nat.le_of_ble_eq_true rfl) dX5_ask_35 ?_
    intro v7 M7
    refine g_if_eq (tgt := 45) X dX5_ask_38 (by decide) ?_ ?_
    · exact g_pick [0, 1] rfl (wR_ask_b45 X n x1 M7)
    · refine g_iconst (v := (1 : Int32)) X dX5_ask_41 (by decide) ?_
      refine g_goto (tgt := 46) X dX5_ask_42 (by decide) ?_
      exact g_pick [0, 1] rfl (wR_ask_b46 X n x1 (1 : Int32) M7)
theorem tc_ask : Cond.code yX5_ask cX5_ask 4 none ∈ tt := tt_in (List.mem_of_getElem? (i := 1023) (by decide +kernel)) (by decide +kernel)
theorem tl_ask : Cond.methodLink RX5 185 yX5_ask ∈ tt := tt_in (List.mem_of_getElem? (i := 1020) (by decide +kernel)) (by decide +kernel)
theorem ti_ask : Cond.instanceMethod yX5_ask ∈ tt := tt_in (List.mem_of_getElem? (i := 1022) (by decide +kernel)) (by decide +kernel)
theorem te_ask : Cond.selects RX5 yX5_ask yX5_ask ∈ tt := tt_in (List.mem_of_getElem? (i := 66) (by decide +kernel)) (by decide +kernel)
theorem k_ask (X : gX p s m args meth c cc nL RX5 rt D (tyR cI cZ)) {n : Nat} {x1 : Int32} {x2 : Int32} {M : MR} {rest : List Value} {K : Int32 → MR → Option ρ} (hR : 4 + 1 ≤ R.frames ∧ 8 + (4 + 11) + 86 ≤ R.locals) (hcat : (rest.map fun v => v.category).sum ≤ 8) (d : decode cc pc = .ok (.invokevirtual 185, 3)) (kk : ∀ v M1, gG p l e R s m args below meth c nL (ZR D cI cZ q (AR q s.heap.size) s.heap M1) 0 0 QQ (pc + 3) lv (rest) (K v M1)) : gG p l e R s m args below meth c nL (ZR D cI cZ q (AR q s.heap.size) s.heap M) 0 0 QQ pc lv (.int x2 :: .int x1 :: .ref (q 34) :: rest) (bnd (fR_ask n x1 x2 M) K) := r_callVv (As := [.int x1, .int x2]) X (c_ask l D cI cZ q n x1 x2 M) (cwVR (k := 2) X.2.2.2.2.1 tl_ask ti_ask te_ask tc_ask ini5 (by decide +kernel) hR) rfl rfl hcat d kk
-- method
def fR_method_b32 (n : Nat) (x1 : Int32) (x2 : Int32) (x3 : Int32) (M : MR) : Option (Int32 × MR) :=
    if 0 ≤ x3 then
      (gf M 21 fun v1 =>
      if v1 = (20 : Int32) then
        (bnd (fR_fail n (7 : Int32) M) fun _ M15 =>
        some (0, M15))
      else
        (bnd (fR_ownMethod n x3 x2 M) fun v2 M2 =>
        gf M2 12 fun v3 =>
        pf M2 12 (v3 - (2 : Int32)) fun M4 =>
        gf M4 12 fun v5 =>
        rd M4 10 2000 (v5 + (1 : Int32)) fun v6 =>
        gf M4 12 fun v7 =>
        rd M4 11 2000 (v7 + (1 : Int32)) fun v8 =>
        bnd (fR_textOf n x3 v2 M4) fun v9 M9 =>
        bnd (fR_frame n x3 (v2 + (1 : Int32)) ((v2 + (1 : Int32)) + v9) x1 (-1 : Int32) M9) fun _ M10 =>
        gf M10 20 fun v11 =>
        wz M10 17 22 (v11 - (1 : Int32)) v6 fun M12 =>
        gf M12 20 fun v13 =>
        wr M12 18 22 (v13 - (1 : Int32)) v8 fun M14 =>
        some (0, M14)))
    else
      (bnd (fR_fail n (4 : Int32) M) fun _ M16 =>
      some (0, M16))
theorem wR_method_b32 (X : gX p s m args meth c cX5_method 7 RX5 none D (tyR cI cZ)) (n : Nat) (x1 : Int32) (x2 : Int32) (x3 : Int32) (M : MR) : gG p l e (rmR 5 111) s m args below meth c 7 (ZR D cI cZ q (AR q s.heap.size) s.heap M) 0 0 (fun r => MQ below (QV D cI cZ q s.heap.size r) args s 0 0 (AR q s.heap.size)) 32 [(0, .ref (q 34)), (1, .int x1), (2, .int x2), (3, .int x3)] [] (fR_method_b32 n x1 x2 x3 M) := by
  unfold fR_method_b32
  refine g_iload_n X dX5_method_32 rfl rfl ?_
  refine g_if_ge (tgt := 42) X dX5_method_33 (by decide) ?_ ?_
  · refine g_aload_n X dX5_method_42 rfl rfl ?_
    refine r_g_inner X dX5_method_43 ?_
    intro v1
    refine g_bipush (v := (20 : Int32)) X dX5_method_46 (by decide) ?_
    refine g_icmp_ne (tgt := 58) X dX5_method_48 (by decide) ?_ ?_
    · refine g_aload_n X dX5_method_58 rfl rfl ?_
      refine g_iload_n X dX5_method_59 rfl rfl ?_
      refine g_iload_n X dX5_method_60 rfl rfl ?_
      refine k_ownMethod X ⟨Nat.le_of_ble_eq_true rfl, Nat.le_of_ble_eq_true rfl⟩ (Nat.le_of_ble_eq_true rfl) dX5_method_61 ?_
      intro v2 M2
      refine g_istore (lv' := [(4, .int v2), (0, .ref (q 34)), (1, .int x1), (2, .int x2), (3, .int x3)]) X dX5_method_64 (by decide) rfl ?_
      refine g_aload_n X dX5_method_66 rfl rfl ?_
      refine g_dup X dX5_method_67 rfl ?_
      refine r_g_top X dX5_method_68 ?_
      intro v3
      refine g_iconst (v := (2 : Int32)) X dX5_method_71 (by decide) ?_
      refine g_isub X dX5_method_72 ?_
      refine r_p_top X dX5_method_73 ?_
      intro M4
      refine g_aload_n X dX5_method_76 rfl rfl ?_
      refine r_g_isObj X dX5_method_77 ?_
      refine g_aload_n X dX5_method_80 rfl rfl ?_
      refine r_g_top X dX5_method_81 ?_
      intro v5
      refine g_iconst (v := (1 : Int32)) X dX5_method_84 (by decide) ?_
      refine g_iadd X dX5_method_85 ?_
      refine r_l_isObj X dX5_method_86 ?_
      intro v6
      refine g_istore (lv' := [(5, .int v6), (4, .int v2), (0, .ref (q 34)), (1, .int x1), (2, .int x2), (3, .int x3)]) X dX5_method_87 (by decide) rfl ?_
      refine g_aload_n X dX5_method_89 rfl rfl ?_
      refine r_g_value X dX5_method_90 ?_
      refine g_aload_n X dX5_method_93 rfl rfl ?_
      refine r_g_top X dX5_method_94 ?_
      intro v7
      refine g_iconst (v := (1 : Int32)) X dX5_method_97 (by decide) ?_
      refine g_iadd X dX5_method_98 ?_
      refine r_l_value X dX5_method_99 ?_
      intro v8
      refine g_istore (lv' := [(6, .int v8), (5, .int v6), (4, .int v2), (0, .ref (q 34)), (1, .int x1), (2, .int x2), (3, .int x3)]) X dX5_method_100 (by decide) rfl ?_
      refine g_aload_n X dX5_method_102 rfl rfl ?_
      refine g_iload_n X dX5_method_103 rfl rfl ?_
      refine g_iload X dX5_method_104 rfl ?_
      refine g_iconst (v := (1 : Int32)) X dX5_method_106 (by decide) ?_
      refine g_iadd X dX5_method_107 ?_
      refine g_iload X dX5_method_108 rfl ?_
      refine g_iconst (v := (1 : Int32)) X dX5_method_110 (by decide) ?_
      refine g_iadd X dX5_method_111 ?_
      refine g_aload_n X dX5_method_112 rfl rfl ?_
      refine g_iload_n X dX5_method_113 rfl rfl ?_
      refine g_iload X dX5_method_114 rfl ?_
      refine k_textOf X ⟨Nat.le_of_ble_eq_true rfl, Nat.le_of_ble_eq_true rfl⟩ (Nat.le_of_ble_eq_true rfl) dX5_method_116 ?_
      intro v9 M9
      refine g_iadd X dX5_method_119 ?_
      refine g_iload_n X dX5_method_120 rfl rfl ?_
      refine g_iconst (v := (-1 : Int32)) X dX5_method_121 (by decide) ?_
      refine k_frame X ⟨Nat.le_of_ble_eq_true rfl, Nat.le_of_ble_eq_true rfl⟩ (Nat.le_of_ble_eq_true rfl) dX5_method_122 ?_
      intro v10 M10
      refine g_aload_n X dX5_method_125 rfl rfl ?_
      refine r_g_isArgObj X dX5_method_126 ?_
      refine g_aload_n X dX5_method_129 rfl rfl ?_
      refine r_g_frames X dX5_method_130 ?_
      intro v11
      refine g_iconst (v := (1 : Int32)) X dX5_method_133 (by decide) ?_
      refine g_isub X dX5_method_134 ?_
      refine g_iload X dX5_method_135 rfl ?_
      refine r_s_isArgObj X dX5_method_137 ?_
      intro M12
      refine g_aload_n X dX5_method_138 rfl rfl ?_
      refine r_g_argument X dX5_method_139 ?_
      refine g_aload_n X dX5_method_142 rfl rfl ?_
      refine r_g_frames X dX5_method_143 ?_
      intro v13
      refine g_iconst (v := (1 : Int32)) X dX5_method_146 (by decide) ?_
      refine g_isub X dX5_method_147 ?_
      refine g_iload X dX5_method_148 rfl ?_
      refine r_s_argument X dX5_method_150 ?_
      intro M14
      exact r_vret X dX5_method_151
    · refine g_aload_n X dX5_method_51 rfl rfl ?_
      refine g_bipush (v := (7 : Int32)) X dX5_method_52 (by decide) ?_
      refine k_fail X ⟨Nat.le_of_ble_eq_true rfl, Nat.le_of_ble_eq_true rfl⟩ (Nat.le_of_ble_eq_true rfl) dX5_method_54 ?_
      intro v15 M15
      exact r_vret X dX5_method_57
  · refine g_aload_n X dX5_method_36 rfl rfl ?_
    refine g_iconst (v := (4 : Int32)) X dX5_method_37 (by decide) ?_
    refine k_fail X ⟨Nat.le_of_ble_eq_true rfl, Nat.le_of_ble_eq_true rfl⟩ (Nat.le_of_ble_eq_true rfl) dX5_method_38 ?_
    intro v16 M16
    exact r_vret X dX5_method_41
def fR_method_l10 (n : Nat) : Nat → Int32 → Int32 → Int32 → MR → Option (Int32 × MR)
  | 0, _, _, _, _ => none
  | k + 1, x1, x2, x3, M => if x3 < 0 then
      (fR_method_b32 n x1 x2 x3 M)
    else
      (bnd (fR_ownMethod n x3 x2 M) fun v1 M1 =>
      if 0 ≤ v1 then
        (fR_method_b32 n x1 x2 x3 M1)
      else
        (bnd (fR_parentOf n x3 M1) fun v2 M2 =>
        (fR_method_l10 n k) x1 x2 v2 M2))
theorem wR_method_l10 (X : gX p s m args meth c cX5_method 7 RX5 none D (tyR cI cZ)) (n : Nat) : ∀ (k : Nat) (x1 : Int32) (x2 : Int32) (x3 : Int32) (M : MR), gG p l e (rmR 5 111) s m args below meth c 7 (ZR D cI cZ q (AR q s.heap.size) s.heap M) 0 0 (fun r => MQ below (QV D cI cZ q s.heap.size r) args s 0 0 (AR q s.heap.size)) 10 [(0, .ref (q 34)), (1, .int x1), (2, .int x2), (3, .int x3)] [] (fR_method_l10 n k x1 x2 x3 M) := by
  intro k
  induction k with
  | zero =>
    intro x1 x2 x3 M
    exact g_none
  | succ k ih =>
    intro x1 x2 x3 M
    rw [fR_method_l10]
    refine g_iload_n X dX5_method_10 rfl rfl ?_
    refine g_if_lt (tgt := 32) X dX5_method_11 (by decide) ?_ ?_
    · exact g_pick [0, 1, 2, 3] rfl (wR_method_b32 X n x1 x2 x3 M)
    · refine g_aload_n X dX5_method_14 rfl rfl ?_
      refine g_iload_n X dX5_method_15 rfl rfl ?_
      refine g_iload_n X dX5_method_16 rfl rfl ?_
      refine k_ownMethod X ⟨Nat.le_of_ble_eq_true rfl, Nat.le_of_ble_eq_true rfl⟩ (Nat.le_of_ble_eq_true rfl) dX5_method_17 ?_
      intro v1 M1
      refine g_if_ge (tgt := 32) X dX5_method_20 (by decide) ?_ ?_
      · exact g_pick [0, 1, 2, 3] rfl (wR_method_b32 X n x1 x2 x3 M1)
      · refine g_aload_n X dX5_method_23 rfl rfl ?_
        refine g_iload_n X dX5_method_24 rfl rfl ?_
        refine k_parentOf X ⟨Nat.le_of_ble_eq_true rfl, Nat.le_of_ble_eq_true rfl⟩ (Nat.le_of_ble_eq_true rfl) dX5_method_25 ?_
        intro v2 M2
        refine g_istore_n (lv' := [(3, .int v2), (0, .ref (q 34)), (1, .int x1), (2, .int x2)]) X dX5_method_28 rfl (by decide) rfl ?_
        refine g_goto (tgt := 10) X dX5_method_29 (by decide) ?_
        exact g_pick [1, 2, 3, 0] rfl (ih x1 x2 v2 M2)
def fR_method (n : Nat) (x1 : Int32) (x2 : Int32) (M : MR) : Option (Int32 × MR) :=
    bnd (fR_objAt n x1 M) fun v1 M1 =>
    rd M1 0 62610 v1 fun v2 =>
    fR_method_l10 n n x1 x2 v2 M1
theorem c_method (l : Launch) (D : va_G) (cI cZ : ClassId) (q : Nat → Nat) (n : Nat) (x1 : Int32) (x2 : Int32) (M : MR) : MetR l D cI cZ q yX5_method cX5_method 7 none 5 111 QV [.ref (q 34), .int x1, .int x2] M (fR_method n x1 x2 M) := by
  refine MetR.of (by decide) rfl (Nat.le_of_ble_eq_true rfl) ?_
  intro p e s m args below meth c X
  unfold fR_method
  refine g_pick (lv' := [(0, .ref (q 34)), (1, .int x1), (2, .int x2)]) [0, 1, 2] rfl ?_
  refine g_aload_n X dX5_method_0 rfl rfl ?_
  refine r_g_m X dX5_method_1 ?_
  refine g_iload_n X dX5_method_4 rfl rfl ?_
  refine k_objAt X ⟨Nat.le_of_ble_eq_true rfl, Nat.le_of_ble_eq_true rfl⟩ (Nat.le_of_ble_eq_true rfl) dX5_method_5 ?_
  intro v1 M1
  refine r_l_m X dX5_method_8 ?_
  intro v2
  refine g_istore_n (lv' := [(3, .int v2), (0, .ref (q 34)), (1, .int x1), (2, .int x2)]) X dX5_method_9 rfl (by decide) rfl ?_
  exact g_pick [1, 2, 3, 0] rfl (wR_method_l10 X n n x1 x2 v2 M1)
theorem tc_method : Cond.code yX5_method cX5_method 7 none ∈ tt := tt_in (List.mem_of_getElem? (i := 1035) (by decide +kernel)) (by decide +kernel)
theorem tl_method : Cond.methodLink RX5 205 yX5_method ∈ tt := tt_in (List.mem_of_getElem? (i := 1032) (by decide +kernel)) (by decide +kernel)
theorem ti_method : Cond.instanceMethod yX5_method ∈ tt := tt_in (List.mem_of_getElem? (i := 1034) (by decide +kernel)) (by decide +kernel)
theorem te_method : Cond.selects RX5 yX5_method yX5_method ∈ tt := tt_in (List.mem_of_getElem? (i := 69) (by decide +kernel)) (by decide +kernel)
theorem k_method (X : gX p s m args meth c cc nL RX5 rt D (tyR cI cZ)) {n : Nat} {x1 : Int32} {x2 : Int32} {M : MR} {rest : List Value} {K : Int32 → MR → Option ρ} (hR : 5 + 1 ≤ R.frames ∧ 8 + (7 + 11) + 111 ≤ R.locals) (hcat : (rest.map fun v => v.category).sum ≤ 8) (d : decode cc pc = .ok (.invokevirtual 205, 3)) (kk : ∀ v M1, gG p l e R s m args below meth c nL (ZR D cI cZ q (AR q s.heap.size) s.heap M1) 0 0 QQ (pc + 3) lv (rest) (K v M1)) : gG p l e R s m args below meth c nL (ZR D cI cZ q (AR q s.heap.size) s.heap M) 0 0 QQ pc lv (.int x2 :: .int x1 :: .ref (q 34) :: rest) (bnd (fR_method n x1 x2 M) K) := r_callVv (As := [.int x1, .int x2]) X (c_method l D cI cZ q n x1 x2 M) (cwVR (k := 2) X.2.2.2.2.1 tl_method ti_method te_method tc_method ini5 (by decide +kernel) hR) rfl rfl hcat d kk
end RM
end
section
theorem dX5_ofObject_0 : decode cX5_ofObject 0 = .ok (.iload_n 1, 1) := by decide +kernel
theorem dX5_ofObject_1 : decode cX5_ofObject 1 = .ok (.iconst 5, 1) := by decide +kernel
theorem dX5_ofObject_2 : decode cX5_ofObject 2 = .ok (.if_icmp .ne 12, 3) := by decide +kernel
theorem dX5_ofObject_5 : decode cX5_ofObject 5 = .ok (.aload_n 0, 1) := by decide +kernel
theorem dX5_ofObject_6 : decode cX5_ofObject 6 = .ok (.getfield 147, 3) := by decide +kernel
theorem dX5_ofObject_9 : decode cX5_ofObject 9 = .ok (.iconst 1, 1) := by decide +kernel
theorem dX5_ofObject_10 : decode cX5_ofObject 10 = .ok (.isub, 1) := by decide +kernel
theorem dX5_ofObject_11 : decode cX5_ofObject 11 = .ok (.goto 9, 3) := by decide +kernel
theorem dX5_ofObject_14 : decode cX5_ofObject 14 = .ok (.aload_n 0, 1) := by decide +kernel
theorem dX5_ofObject_15 : decode cX5_ofObject 15 = .ok (.getfield 147, 3) := by decide +kernel
theorem dX5_ofObject_18 : decode cX5_ofObject 18 = .ok (.iconst 2, 1) := by decide +kernel
theorem dX5_ofObject_19 : decode cX5_ofObject 19 = .ok (.isub, 1) := by decide +kernel
theorem dX5_ofObject_20 : decode cX5_ofObject 20 = .ok (.istore_n 3, 1) := by decide +kernel
theorem dX5_ofObject_21 : decode cX5_ofObject 21 = .ok (.aload_n 0, 1) := by decide +kernel
theorem dX5_ofObject_22 : decode cX5_ofObject 22 = .ok (.getfield 30, 3) := by decide +kernel
theorem dX5_ofObject_25 : decode cX5_ofObject 25 = .ok (.iload_n 3, 1) := by decide +kernel
theorem dX5_ofObject_26 : decode cX5_ofObject 26 = .ok (.baload, 1) := by decide +kernel
theorem dX5_ofObject_27 : decode cX5_ofObject 27 = .ok (.ifCond .ne 9, 3) := by decide +kernel
theorem dX5_ofObject_30 : decode cX5_ofObject 30 = .ok (.aload_n 0, 1) := by decide +kernel
theorem dX5_ofObject_31 : decode cX5_ofObject 31 = .ok (.iconst 1, 1) := by decide +kernel
theorem dX5_ofObject_32 : decode cX5_ofObject 32 = .ok (.invokevirtual 169, 3) := by decide +kernel
theorem dX5_ofObject_35 : decode cX5_ofObject 35 = .ok (.return_, 1) := by decide +kernel
theorem dX5_ofObject_36 : decode cX5_ofObject 36 = .ok (.aload_n 0, 1) := by decide +kernel
theorem dX5_ofObject_37 : decode cX5_ofObject 37 = .ok (.getfield 33, 3) := by decide +kernel
theorem dX5_ofObject_40 : decode cX5_ofObject 40 = .ok (.iload_n 3, 1) := by decide +kernel
theorem dX5_ofObject_41 : decode cX5_ofObject 41 = .ok (.iaload, 1) := by decide +kernel
theorem dX5_ofObject_42 : decode cX5_ofObject 42 = .ok (.istore 4, 2) := by decide +kernel
theorem dX5_ofObject_44 : decode cX5_ofObject 44 = .ok (.iload_n 1, 1) := by decide +kernel
theorem dX5_ofObject_45 : decode cX5_ofObject 45 = .ok (.bipush 7, 2) := by decide +kernel
theorem dX5_ofObject_47 : decode cX5_ofObject 47 = .ok (.if_icmp .ne 11, 3) := by decide +kernel
theorem dX5_ofObject_50 : decode cX5_ofObject 50 = .ok (.aload_n 0, 1) := by decide +kernel
theorem dX5_ofObject_51 : decode cX5_ofObject 51 = .ok (.iload 4, 2) := by decide +kernel
theorem dX5_ofObject_53 : decode cX5_ofObject 53 = .ok (.iload_n 2, 1) := by decide +kernel
theorem dX5_ofObject_54 : decode cX5_ofObject 54 = .ok (.invokevirtual 205, 3) := by decide +kernel
theorem dX5_ofObject_57 : decode cX5_ofObject 57 = .ok (.return_, 1) := by decide +kernel
theorem dX5_ofObject_58 : decode cX5_ofObject 58 = .ok (.iload 4, 2) := by decide +kernel
theorem dX5_ofObject_60 : decode cX5_ofObject 60 = .ok (.invokestatic 141, 3) := by decide +kernel
theorem dX5_ofObject_63 : decode cX5_ofObject 63 = .ok (.iconst 1, 1) := by decide +kernel
theorem dX5_ofObject_64 : decode cX5_ofObject 64 = .ok (.iadd, 1) := by decide +kernel
theorem dX5_ofObject_65 : decode cX5_ofObject 65 = .ok (.iload_n 2, 1) := by decide +kernel
theorem dX5_ofObject_66 : decode cX5_ofObject 66 = .ok (.iadd, 1) := by decide +kernel
theorem dX5_ofObject_67 : decode cX5_ofObject 67 = .ok (.istore 5, 2) := by decide +kernel
theorem dX5_ofObject_69 : decode cX5_ofObject 69 = .ok (.aload_n 0, 1) := by decide +kernel
theorem dX5_ofObject_70 : decode cX5_ofObject 70 = .ok (.getfield 8, 3) := by decide +kernel
theorem dX5_ofObject_73 : decode cX5_ofObject 73 = .ok (.iload 5, 2) := by decide +kernel
theorem dX5_ofObject_75 : decode cX5_ofObject 75 = .ok (.iaload, 1) := by decide +kernel
theorem dX5_ofObject_76 : decode cX5_ofObject 76 = .ok (.ifCond .ne 11, 3) := by decide +kernel
theorem dX5_ofObject_79 : decode cX5_ofObject 79 = .ok (.aload_n 0, 1) := by decide +kernel
theorem dX5_ofObject_80 : decode cX5_ofObject 80 = .ok (.iconst 3, 1) := by decide +kernel
theorem dX5_ofObject_81 : decode cX5_ofObject 81 = .ok (.invokevirtual 169, 3) := by decide +kernel
theorem dX5_ofObject_84 : decode cX5_ofObject 84 = .ok (.goto 136, 3) := by decide +kernel
theorem dX5_ofObject_87 : decode cX5_ofObject 87 = .ok (.iload_n 1, 1) := by decide +kernel
theorem dX5_ofObject_88 : decode cX5_ofObject 88 = .ok (.iconst 5, 1) := by decide +kernel
theorem dX5_ofObject_89 : decode cX5_ofObject 89 = .ok (.if_icmp .ne 44, 3) := by decide +kernel
theorem dX5_ofObject_92 : decode cX5_ofObject 92 = .ok (.aload_n 0, 1) := by decide +kernel
theorem dX5_ofObject_93 : decode cX5_ofObject 93 = .ok (.getfield 30, 3) := by decide +kernel
theorem dX5_ofObject_96 : decode cX5_ofObject 96 = .ok (.iload_n 3, 1) := by decide +kernel
theorem dX5_ofObject_97 : decode cX5_ofObject 97 = .ok (.aload_n 0, 1) := by decide +kernel
theorem dX5_ofObject_98 : decode cX5_ofObject 98 = .ok (.getfield 8, 3) := by decide +kernel
theorem dX5_ofObject_101 : decode cX5_ofObject 101 = .ok (.iload 5, 2) := by decide +kernel
theorem dX5_ofObject_103 : decode cX5_ofObject 103 = .ok (.iaload, 1) := by decide +kernel
theorem dX5_ofObject_104 : decode cX5_ofObject 104 = .ok (.iconst 2, 1) := by decide +kernel
theorem dX5_ofObject_105 : decode cX5_ofObject 105 = .ok (.if_icmp .ne 7, 3) := by decide +kernel
theorem dX5_ofObject_108 : decode cX5_ofObject 108 = .ok (.iconst 1, 1) := by decide +kernel
theorem dX5_ofObject_109 : decode cX5_ofObject 109 = .ok (.goto 4, 3) := by decide +kernel
theorem dX5_ofObject_112 : decode cX5_ofObject 112 = .ok (.iconst 0, 1) := by decide +kernel
theorem dX5_ofObject_113 : decode cX5_ofObject 113 = .ok (.bastore, 1) := by decide +kernel
theorem dX5_ofObject_114 : decode cX5_ofObject 114 = .ok (.aload_n 0, 1) := by decide +kernel
theorem dX5_ofObject_115 : decode cX5_ofObject 115 = .ok (.getfield 33, 3) := by decide +kernel
theorem dX5_ofObject_118 : decode cX5_ofObject 118 = .ok (.iload_n 3, 1) := by decide +kernel
theorem dX5_ofObject_119 : decode cX5_ofObject 119 = .ok (.aload_n 0, 1) := by decide +kernel
theorem dX5_ofObject_120 : decode cX5_ofObject 120 = .ok (.getfield 8, 3) := by decide +kernel
theorem dX5_ofObject_123 : decode cX5_ofObject 123 = .ok (.iload 5, 2) := by decide +kernel
theorem dX5_ofObject_125 : decode cX5_ofObject 125 = .ok (.bipush 10, 2) := by decide +kernel
theorem dX5_ofObject_127 : decode cX5_ofObject 127 = .ok (.iadd, 1) := by decide +kernel
theorem dX5_ofObject_128 : decode cX5_ofObject 128 = .ok (.iaload, 1) := by decide +kernel
theorem dX5_ofObject_129 : decode cX5_ofObject 129 = .ok (.iastore, 1) := by decide +kernel
theorem dX5_ofObject_130 : decode cX5_ofObject 130 = .ok (.goto 90, 3) := by decide +kernel
theorem dX5_ofObject_133 : decode cX5_ofObject 133 = .ok (.aload_n 0, 1) := by decide +kernel
theorem dX5_ofObject_134 : decode cX5_ofObject 134 = .ok (.getfield 8, 3) := by decide +kernel
theorem dX5_ofObject_137 : decode cX5_ofObject 137 = .ok (.iload 5, 2) := by decide +kernel
theorem dX5_ofObject_139 : decode cX5_ofObject 139 = .ok (.aload_n 0, 1) := by decide +kernel
theorem dX5_ofObject_140 : decode cX5_ofObject 140 = .ok (.getfield 30, 3) := by decide +kernel
theorem dX5_ofObject_143 : decode cX5_ofObject 143 = .ok (.aload_n 0, 1) := by decide +kernel
theorem dX5_ofObject_144 : decode cX5_ofObject 144 = .ok (.getfield 147, 3) := by decide +kernel
theorem dX5_ofObject_147 : decode cX5_ofObject 147 = .ok (.iconst 1, 1) := by decide +kernel
theorem dX5_ofObject_148 : decode cX5_ofObject 148 = .ok (.isub, 1) := by decide +kernel
theorem dX5_ofObject_149 : decode cX5_ofObject 149 = .ok (.baload, 1) := by decide +kernel
theorem dX5_ofObject_150 : decode cX5_ofObject 150 = .ok (.ifCond .eq 7, 3) := by decide +kernel
theorem dX5_ofObject_153 : decode cX5_ofObject 153 = .ok (.iconst 2, 1) := by decide +kernel
theorem dX5_ofObject_154 : decode cX5_ofObject 154 = .ok (.goto 4, 3) := by decide +kernel
theorem dX5_ofObject_157 : decode cX5_ofObject 157 = .ok (.iconst 1, 1) := by decide +kernel
theorem dX5_ofObject_158 : decode cX5_ofObject 158 = .ok (.iastore, 1) := by decide +kernel
theorem dX5_ofObject_159 : decode cX5_ofObject 159 = .ok (.aload_n 0, 1) := by decide +kernel
theorem dX5_ofObject_160 : decode cX5_ofObject 160 = .ok (.getfield 8, 3) := by decide +kernel
theorem dX5_ofObject_163 : decode cX5_ofObject 163 = .ok (.iload 5, 2) := by decide +kernel
theorem dX5_ofObject_165 : decode cX5_ofObject 165 = .ok (.bipush 10, 2) := by decide +kernel
theorem dX5_ofObject_167 : decode cX5_ofObject 167 = .ok (.iadd, 1) := by decide +kernel
theorem dX5_ofObject_168 : decode cX5_ofObject 168 = .ok (.aload_n 0, 1) := by decide +kernel
theorem dX5_ofObject_169 : decode cX5_ofObject 169 = .ok (.getfield 33, 3) := by decide +kernel
theorem dX5_ofObject_172 : decode cX5_ofObject 172 = .ok (.aload_n 0, 1) := by decide +kernel
theorem dX5_ofObject_173 : decode cX5_ofObject 173 = .ok (.getfield 147, 3) := by decide +kernel
theorem dX5_ofObject_176 : decode cX5_ofObject 176 = .ok (.iconst 1, 1) := by decide +kernel
theorem dX5_ofObject_177 : decode cX5_ofObject 177 = .ok (.isub, 1) := by decide +kernel
theorem dX5_ofObject_178 : decode cX5_ofObject 178 = .ok (.iaload, 1) := by decide +kernel
theorem dX5_ofObject_179 : decode cX5_ofObject 179 = .ok (.iastore, 1) := by decide +kernel
theorem dX5_ofObject_180 : decode cX5_ofObject 180 = .ok (.aload_n 0, 1) := by decide +kernel
theorem dX5_ofObject_181 : decode cX5_ofObject 181 = .ok (.dup, 1) := by decide +kernel
theorem dX5_ofObject_182 : decode cX5_ofObject 182 = .ok (.getfield 147, 3) := by decide +kernel
theorem dX5_ofObject_185 : decode cX5_ofObject 185 = .ok (.iconst 1, 1) := by decide +kernel
theorem dX5_ofObject_186 : decode cX5_ofObject 186 = .ok (.isub, 1) := by decide +kernel
theorem dX5_ofObject_187 : decode cX5_ofObject 187 = .ok (.putfield 147, 3) := by decide +kernel
theorem dX5_ofObject_190 : decode cX5_ofObject 190 = .ok (.aload_n 0, 1) := by decide +kernel
theorem dX5_ofObject_191 : decode cX5_ofObject 191 = .ok (.getfield 30, 3) := by decide +kernel
theorem dX5_ofObject_194 : decode cX5_ofObject 194 = .ok (.iload_n 3, 1) := by decide +kernel
theorem dX5_ofObject_195 : decode cX5_ofObject 195 = .ok (.aload_n 0, 1) := by decide +kernel
theorem dX5_ofObject_196 : decode cX5_ofObject 196 = .ok (.getfield 30, 3) := by decide +kernel
theorem dX5_ofObject_199 : decode cX5_ofObject 199 = .ok (.aload_n 0, 1) := by decide +kernel
theorem dX5_ofObject_200 : decode cX5_ofObject 200 = .ok (.getfield 147, 3) := by decide +kernel
theorem dX5_ofObject_203 : decode cX5_ofObject 203 = .ok (.baload, 1) := by decide +kernel
theorem dX5_ofObject_204 : decode cX5_ofObject 204 = .ok (.bastore, 1) := by decide +kernel
theorem dX5_ofObject_205 : decode cX5_ofObject 205 = .ok (.aload_n 0, 1) := by decide +kernel
theorem dX5_ofObject_206 : decode cX5_ofObject 206 = .ok (.getfield 33, 3) := by decide +kernel
theorem dX5_ofObject_209 : decode cX5_ofObject 209 = .ok (.iload_n 3, 1) := by decide +kernel
theorem dX5_ofObject_210 : decode cX5_ofObject 210 = .ok (.aload_n 0, 1) := by decide +kernel
theorem dX5_ofObject_211 : decode cX5_ofObject 211 = .ok (.getfield 33, 3) := by decide +kernel
theorem dX5_ofObject_214 : decode cX5_ofObject 214 = .ok (.aload_n 0, 1) := by decide +kernel
theorem dX5_ofObject_215 : decode cX5_ofObject 215 = .ok (.getfield 147, 3) := by decide +kernel
theorem dX5_ofObject_218 : decode cX5_ofObject 218 = .ok (.iaload, 1) := by decide +kernel
theorem dX5_ofObject_219 : decode cX5_ofObject 219 = .ok (.iastore, 1) := by decide +kernel
theorem dX5_ofObject_220 : decode cX5_ofObject 220 = .ok (.return_, 1) := by decide +kernel
theorem dX5_reckon_0 : decode cX5_reckon 0 = .ok (.aload_n 0, 1) := by decide +kernel
theorem dX5_reckon_1 : decode cX5_reckon 1 = .ok (.dup, 1) := by decide +kernel
theorem dX5_reckon_2 : decode cX5_reckon 2 = .ok (.getfield 147, 3) := by decide +kernel
theorem dX5_reckon_5 : decode cX5_reckon 5 = .ok (.iconst 1, 1) := by decide +kernel
theorem dX5_reckon_6 : decode cX5_reckon 6 = .ok (.isub, 1) := by decide +kernel
theorem dX5_reckon_7 : decode cX5_reckon 7 = .ok (.putfield 147, 3) := by decide +kernel
theorem dX5_reckon_10 : decode cX5_reckon 10 = .ok (.aload_n 0, 1) := by decide +kernel
theorem dX5_reckon_11 : decode cX5_reckon 11 = .ok (.getfield 30, 3) := by decide +kernel
theorem dX5_reckon_14 : decode cX5_reckon 14 = .ok (.aload_n 0, 1) := by decide +kernel
theorem dX5_reckon_15 : decode cX5_reckon 15 = .ok (.getfield 147, 3) := by decide +kernel
theorem dX5_reckon_18 : decode cX5_reckon 18 = .ok (.baload, 1) := by decide +kernel
theorem dX5_reckon_19 : decode cX5_reckon 19 = .ok (.ifCond .ne 17, 3) := by decide +kernel
theorem dX5_reckon_22 : decode cX5_reckon 22 = .ok (.aload_n 0, 1) := by decide +kernel
theorem dX5_reckon_23 : decode cX5_reckon 23 = .ok (.getfield 30, 3) := by decide +kernel
theorem dX5_reckon_26 : decode cX5_reckon 26 = .ok (.aload_n 0, 1) := by decide +kernel
theorem dX5_reckon_27 : decode cX5_reckon 27 = .ok (.getfield 147, 3) := by decide +kernel
theorem dX5_reckon_30 : decode cX5_reckon 30 = .ok (.iconst 1, 1) := by decide +kernel
theorem dX5_reckon_31 : decode cX5_reckon 31 = .ok (.isub, 1) := by decide +kernel
theorem dX5_reckon_32 : decode cX5_reckon 32 = .ok (.baload, 1) := by decide +kernel
theorem dX5_reckon_33 : decode cX5_reckon 33 = .ok (.ifCond .eq 9, 3) := by decide +kernel
theorem dX5_reckon_36 : decode cX5_reckon 36 = .ok (.aload_n 0, 1) := by decide +kernel
theorem dX5_reckon_37 : decode cX5_reckon 37 = .ok (.iconst 1, 1) := by decide +kernel
theorem dX5_reckon_38 : decode cX5_reckon 38 = .ok (.invokevirtual 169, 3) := by decide +kernel
theorem dX5_reckon_41 : decode cX5_reckon 41 = .ok (.return_, 1) := by decide +kernel
theorem dX5_reckon_42 : decode cX5_reckon 42 = .ok (.aload_n 0, 1) := by decide +kernel
theorem dX5_reckon_43 : decode cX5_reckon 43 = .ok (.getfield 33, 3) := by decide +kernel
theorem dX5_reckon_46 : decode cX5_reckon 46 = .ok (.aload_n 0, 1) := by decide +kernel
theorem dX5_reckon_47 : decode cX5_reckon 47 = .ok (.getfield 147, 3) := by decide +kernel
theorem dX5_reckon_50 : decode cX5_reckon 50 = .ok (.iconst 1, 1) := by decide +kernel
theorem dX5_reckon_51 : decode cX5_reckon 51 = .ok (.isub, 1) := by decide +kernel
theorem dX5_reckon_52 : decode cX5_reckon 52 = .ok (.iaload, 1) := by decide +kernel
theorem dX5_reckon_53 : decode cX5_reckon 53 = .ok (.istore_n 2, 1) := by decide +kernel
theorem dX5_reckon_54 : decode cX5_reckon 54 = .ok (.aload_n 0, 1) := by decide +kernel
theorem dX5_reckon_55 : decode cX5_reckon 55 = .ok (.getfield 33, 3) := by decide +kernel
theorem dX5_reckon_58 : decode cX5_reckon 58 = .ok (.aload_n 0, 1) := by decide +kernel
theorem dX5_reckon_59 : decode cX5_reckon 59 = .ok (.getfield 147, 3) := by decide +kernel
theorem dX5_reckon_62 : decode cX5_reckon 62 = .ok (.iaload, 1) := by decide +kernel
theorem dX5_reckon_63 : decode cX5_reckon 63 = .ok (.istore_n 3, 1) := by decide +kernel
theorem dX5_reckon_64 : decode cX5_reckon 64 = .ok (.iload_n 1, 1) := by decide +kernel
theorem dX5_reckon_65 : decode cX5_reckon 65 = .ok (.bipush 11, 2) := by decide +kernel
theorem dX5_reckon_67 : decode cX5_reckon 67 = .ok (.if_icmp .ne 13, 3) := by decide +kernel
theorem dX5_reckon_70 : decode cX5_reckon 70 = .ok (.iload_n 3, 1) := by decide +kernel
theorem dX5_reckon_71 : decode cX5_reckon 71 = .ok (.ifCond .ne 9, 3) := by decide +kernel
theorem dX5_reckon_74 : decode cX5_reckon 74 = .ok (.aload_n 0, 1) := by decide +kernel
theorem dX5_reckon_75 : decode cX5_reckon 75 = .ok (.iconst 2, 1) := by decide +kernel
theorem dX5_reckon_76 : decode cX5_reckon 76 = .ok (.invokevirtual 169, 3) := by decide +kernel
theorem dX5_reckon_79 : decode cX5_reckon 79 = .ok (.return_, 1) := by decide +kernel
theorem dX5_reckon_80 : decode cX5_reckon 80 = .ok (.aload_n 0, 1) := by decide +kernel
theorem dX5_reckon_81 : decode cX5_reckon 81 = .ok (.getfield 33, 3) := by decide +kernel
theorem dX5_reckon_84 : decode cX5_reckon 84 = .ok (.aload_n 0, 1) := by decide +kernel
theorem dX5_reckon_85 : decode cX5_reckon 85 = .ok (.getfield 147, 3) := by decide +kernel
theorem dX5_reckon_88 : decode cX5_reckon 88 = .ok (.iconst 1, 1) := by decide +kernel
theorem dX5_reckon_89 : decode cX5_reckon 89 = .ok (.isub, 1) := by decide +kernel
theorem dX5_reckon_90 : decode cX5_reckon 90 = .ok (.iload_n 1, 1) := by decide +kernel
theorem dX5_reckon_91 : decode cX5_reckon 91 = .ok (.bipush 8, 2) := by decide +kernel
theorem dX5_reckon_93 : decode cX5_reckon 93 = .ok (.if_icmp .ne 9, 3) := by decide +kernel
theorem dX5_reckon_96 : decode cX5_reckon 96 = .ok (.iload_n 2, 1) := by decide +kernel
theorem dX5_reckon_97 : decode cX5_reckon 97 = .ok (.iload_n 3, 1) := by decide +kernel
theorem dX5_reckon_98 : decode cX5_reckon 98 = .ok (.iadd, 1) := by decide +kernel
theorem dX5_reckon_99 : decode cX5_reckon 99 = .ok (.goto 49, 3) := by decide +kernel
theorem dX5_reckon_102 : decode cX5_reckon 102 = .ok (.iload_n 1, 1) := by decide +kernel
theorem dX5_reckon_103 : decode cX5_reckon 103 = .ok (.bipush 9, 2) := by decide +kernel
theorem dX5_reckon_105 : decode cX5_reckon 105 = .ok (.if_icmp .ne 9, 3) := by decide +kernel
theorem dX5_reckon_108 : decode cX5_reckon 108 = .ok (.iload_n 2, 1) := by decide +kernel
theorem dX5_reckon_109 : decode cX5_reckon 109 = .ok (.iload_n 3, 1) := by decide +kernel
theorem dX5_reckon_110 : decode cX5_reckon 110 = .ok (.isub, 1) := by decide +kernel
theorem dX5_reckon_111 : decode cX5_reckon 111 = .ok (.goto 37, 3) := by decide +kernel
theorem dX5_reckon_114 : decode cX5_reckon 114 = .ok (.iload_n 1, 1) := by decide +kernel
theorem dX5_reckon_115 : decode cX5_reckon 115 = .ok (.bipush 10, 2) := by decide +kernel
theorem dX5_reckon_117 : decode cX5_reckon 117 = .ok (.if_icmp .ne 9, 3) := by decide +kernel
theorem dX5_reckon_120 : decode cX5_reckon 120 = .ok (.iload_n 2, 1) := by decide +kernel
theorem dX5_reckon_121 : decode cX5_reckon 121 = .ok (.iload_n 3, 1) := by decide +kernel
theorem dX5_reckon_122 : decode cX5_reckon 122 = .ok (.imul, 1) := by decide +kernel
theorem dX5_reckon_123 : decode cX5_reckon 123 = .ok (.goto 25, 3) := by decide +kernel
theorem dX5_reckon_126 : decode cX5_reckon 126 = .ok (.iload_n 1, 1) := by decide +kernel
theorem dX5_reckon_127 : decode cX5_reckon 127 = .ok (.bipush 11, 2) := by decide +kernel
theorem dX5_reckon_129 : decode cX5_reckon 129 = .ok (.if_icmp .ne 9, 3) := by decide +kernel
theorem dX5_reckon_132 : decode cX5_reckon 132 = .ok (.iload_n 2, 1) := by decide +kernel
theorem dX5_reckon_133 : decode cX5_reckon 133 = .ok (.iload_n 3, 1) := by decide +kernel
theorem dX5_reckon_134 : decode cX5_reckon 134 = .ok (.idiv, 1) := by decide +kernel
theorem dX5_reckon_135 : decode cX5_reckon 135 = .ok (.goto 13, 3) := by decide +kernel
theorem dX5_reckon_138 : decode cX5_reckon 138 = .ok (.iload_n 2, 1) := by decide +kernel
theorem dX5_reckon_139 : decode cX5_reckon 139 = .ok (.iload_n 3, 1) := by decide +kernel
theorem dX5_reckon_140 : decode cX5_reckon 140 = .ok (.if_icmp .ge 7, 3) := by decide +kernel
theorem dX5_reckon_143 : decode cX5_reckon 143 = .ok (.iconst 1, 1) := by decide +kernel
theorem dX5_reckon_144 : decode cX5_reckon 144 = .ok (.goto 4, 3) := by decide +kernel
theorem dX5_reckon_147 : decode cX5_reckon 147 = .ok (.iconst 0, 1) := by decide +kernel
theorem dX5_reckon_148 : decode cX5_reckon 148 = .ok (.iastore, 1) := by decide +kernel
theorem dX5_reckon_149 : decode cX5_reckon 149 = .ok (.return_, 1) := by decide +kernel
theorem dX5_choose_0 : decode cX5_choose 0 = .ok (.aload_n 0, 1) := by decide +kernel
theorem dX5_choose_1 : decode cX5_choose 1 = .ok (.dup, 1) := by decide +kernel
theorem dX5_choose_2 : decode cX5_choose 2 = .ok (.getfield 147, 3) := by decide +kernel
theorem dX5_choose_5 : decode cX5_choose 5 = .ok (.iconst 2, 1) := by decide +kernel
theorem dX5_choose_6 : decode cX5_choose 6 = .ok (.isub, 1) := by decide +kernel
theorem dX5_choose_7 : decode cX5_choose 7 = .ok (.putfield 147, 3) := by decide +kernel
theorem dX5_choose_10 : decode cX5_choose 10 = .ok (.aload_n 0, 1) := by decide +kernel
theorem dX5_choose_11 : decode cX5_choose 11 = .ok (.getfield 30, 3) := by decide +kernel
theorem dX5_choose_14 : decode cX5_choose 14 = .ok (.aload_n 0, 1) := by decide +kernel
theorem dX5_choose_15 : decode cX5_choose 15 = .ok (.getfield 147, 3) := by decide +kernel
theorem dX5_choose_18 : decode cX5_choose 18 = .ok (.iconst 1, 1) := by decide +kernel
theorem dX5_choose_19 : decode cX5_choose 19 = .ok (.isub, 1) := by decide +kernel
theorem dX5_choose_20 : decode cX5_choose 20 = .ok (.baload, 1) := by decide +kernel
theorem dX5_choose_21 : decode cX5_choose 21 = .ok (.ifCond .eq 9, 3) := by decide +kernel
theorem dX5_choose_24 : decode cX5_choose 24 = .ok (.aload_n 0, 1) := by decide +kernel
theorem dX5_choose_25 : decode cX5_choose 25 = .ok (.iconst 1, 1) := by decide +kernel
theorem dX5_choose_26 : decode cX5_choose 26 = .ok (.invokevirtual 169, 3) := by decide +kernel
theorem dX5_choose_29 : decode cX5_choose 29 = .ok (.return_, 1) := by decide +kernel
theorem dX5_choose_30 : decode cX5_choose 30 = .ok (.aload_n 0, 1) := by decide +kernel
theorem dX5_choose_31 : decode cX5_choose 31 = .ok (.getfield 33, 3) := by decide +kernel
theorem dX5_choose_34 : decode cX5_choose 34 = .ok (.aload_n 0, 1) := by decide +kernel
theorem dX5_choose_35 : decode cX5_choose 35 = .ok (.getfield 147, 3) := by decide +kernel
theorem dX5_choose_38 : decode cX5_choose 38 = .ok (.iconst 1, 1) := by decide +kernel
theorem dX5_choose_39 : decode cX5_choose 39 = .ok (.isub, 1) := by decide +kernel
theorem dX5_choose_40 : decode cX5_choose 40 = .ok (.iaload, 1) := by decide +kernel
theorem dX5_choose_41 : decode cX5_choose 41 = .ok (.ifCond .eq 10, 3) := by decide +kernel
theorem dX5_choose_44 : decode cX5_choose 44 = .ok (.aload_n 0, 1) := by decide +kernel
theorem dX5_choose_45 : decode cX5_choose 45 = .ok (.getfield 147, 3) := by decide +kernel
theorem dX5_choose_48 : decode cX5_choose 48 = .ok (.goto 9, 3) := by decide +kernel
theorem dX5_choose_51 : decode cX5_choose 51 = .ok (.aload_n 0, 1) := by decide +kernel
theorem dX5_choose_52 : decode cX5_choose 52 = .ok (.getfield 147, 3) := by decide +kernel
theorem dX5_choose_55 : decode cX5_choose 55 = .ok (.iconst 1, 1) := by decide +kernel
theorem dX5_choose_56 : decode cX5_choose 56 = .ok (.iadd, 1) := by decide +kernel
theorem dX5_choose_57 : decode cX5_choose 57 = .ok (.istore_n 1, 1) := by decide +kernel
theorem dX5_choose_58 : decode cX5_choose 58 = .ok (.aload_n 0, 1) := by decide +kernel
theorem dX5_choose_59 : decode cX5_choose 59 = .ok (.getfield 30, 3) := by decide +kernel
theorem dX5_choose_62 : decode cX5_choose 62 = .ok (.aload_n 0, 1) := by decide +kernel
theorem dX5_choose_63 : decode cX5_choose 63 = .ok (.getfield 147, 3) := by decide +kernel
theorem dX5_choose_66 : decode cX5_choose 66 = .ok (.iconst 1, 1) := by decide +kernel
theorem dX5_choose_67 : decode cX5_choose 67 = .ok (.isub, 1) := by decide +kernel
theorem dX5_choose_68 : decode cX5_choose 68 = .ok (.aload_n 0, 1) := by decide +kernel
theorem dX5_choose_69 : decode cX5_choose 69 = .ok (.getfield 30, 3) := by decide +kernel
theorem dX5_choose_72 : decode cX5_choose 72 = .ok (.iload_n 1, 1) := by decide +kernel
theorem dX5_choose_73 : decode cX5_choose 73 = .ok (.baload, 1) := by decide +kernel
theorem dX5_choose_74 : decode cX5_choose 74 = .ok (.bastore, 1) := by decide +kernel
theorem dX5_choose_75 : decode cX5_choose 75 = .ok (.aload_n 0, 1) := by decide +kernel
theorem dX5_choose_76 : decode cX5_choose 76 = .ok (.getfield 33, 3) := by decide +kernel
theorem dX5_choose_79 : decode cX5_choose 79 = .ok (.aload_n 0, 1) := by decide +kernel
theorem dX5_choose_80 : decode cX5_choose 80 = .ok (.getfield 147, 3) := by decide +kernel
theorem dX5_choose_83 : decode cX5_choose 83 = .ok (.iconst 1, 1) := by decide +kernel
theorem dX5_choose_84 : decode cX5_choose 84 = .ok (.isub, 1) := by decide +kernel
theorem dX5_choose_85 : decode cX5_choose 85 = .ok (.aload_n 0, 1) := by decide +kernel
theorem dX5_choose_86 : decode cX5_choose 86 = .ok (.getfield 33, 3) := by decide +kernel
theorem dX5_choose_89 : decode cX5_choose 89 = .ok (.iload_n 1, 1) := by decide +kernel
theorem dX5_choose_90 : decode cX5_choose 90 = .ok (.iaload, 1) := by decide +kernel
theorem dX5_choose_91 : decode cX5_choose 91 = .ok (.iastore, 1) := by decide +kernel
theorem dX5_choose_92 : decode cX5_choose 92 = .ok (.return_, 1) := by decide +kernel
theorem dX5_write_0 : decode cX5_write 0 = .ok (.aload_n 0, 1) := by decide +kernel
theorem dX5_write_1 : decode cX5_write 1 = .ok (.getfield 215, 3) := by decide +kernel
theorem dX5_write_4 : decode cX5_write 4 = .ok (.bipush 20, 2) := by decide +kernel
theorem dX5_write_6 : decode cX5_write 6 = .ok (.if_icmp .ge 43, 3) := by decide +kernel
theorem dX5_write_9 : decode cX5_write 9 = .ok (.aload_n 0, 1) := by decide +kernel
theorem dX5_write_10 : decode cX5_write 10 = .ok (.getfield 57, 3) := by decide +kernel
theorem dX5_write_13 : decode cX5_write 13 = .ok (.aload_n 0, 1) := by decide +kernel
theorem dX5_write_14 : decode cX5_write 14 = .ok (.getfield 215, 3) := by decide +kernel
theorem dX5_write_17 : decode cX5_write 17 = .ok (.aload_n 0, 1) := by decide +kernel
theorem dX5_write_18 : decode cX5_write 18 = .ok (.getfield 30, 3) := by decide +kernel
theorem dX5_write_21 : decode cX5_write 21 = .ok (.aload_n 0, 1) := by decide +kernel
theorem dX5_write_22 : decode cX5_write 22 = .ok (.getfield 147, 3) := by decide +kernel
theorem dX5_write_25 : decode cX5_write 25 = .ok (.iconst 1, 1) := by decide +kernel
theorem dX5_write_26 : decode cX5_write 26 = .ok (.isub, 1) := by decide +kernel
theorem dX5_write_27 : decode cX5_write 27 = .ok (.baload, 1) := by decide +kernel
theorem dX5_write_28 : decode cX5_write 28 = .ok (.bastore, 1) := by decide +kernel
theorem dX5_write_29 : decode cX5_write 29 = .ok (.aload_n 0, 1) := by decide +kernel
theorem dX5_write_30 : decode cX5_write 30 = .ok (.getfield 60, 3) := by decide +kernel
theorem dX5_write_33 : decode cX5_write 33 = .ok (.aload_n 0, 1) := by decide +kernel
theorem dX5_write_34 : decode cX5_write 34 = .ok (.getfield 215, 3) := by decide +kernel
theorem dX5_write_37 : decode cX5_write 37 = .ok (.aload_n 0, 1) := by decide +kernel
theorem dX5_write_38 : decode cX5_write 38 = .ok (.getfield 33, 3) := by decide +kernel
theorem dX5_write_41 : decode cX5_write 41 = .ok (.aload_n 0, 1) := by decide +kernel
theorem dX5_write_42 : decode cX5_write 42 = .ok (.getfield 147, 3) := by decide +kernel
theorem dX5_write_45 : decode cX5_write 45 = .ok (.iconst 1, 1) := by decide +kernel
theorem dX5_write_46 : decode cX5_write 46 = .ok (.isub, 1) := by decide +kernel
theorem dX5_write_47 : decode cX5_write 47 = .ok (.iaload, 1) := by decide +kernel
theorem dX5_write_48 : decode cX5_write 48 = .ok (.iastore, 1) := by decide +kernel
theorem dX5_write_49 : decode cX5_write 49 = .ok (.aload_n 0, 1) := by decide +kernel
theorem dX5_write_50 : decode cX5_write 50 = .ok (.dup, 1) := by decide +kernel
theorem dX5_write_51 : decode cX5_write 51 = .ok (.getfield 215, 3) := by decide +kernel
theorem dX5_write_54 : decode cX5_write 54 = .ok (.iconst 1, 1) := by decide +kernel
theorem dX5_write_55 : decode cX5_write 55 = .ok (.iadd, 1) := by decide +kernel
theorem dX5_write_56 : decode cX5_write 56 = .ok (.putfield 215, 3) := by decide +kernel
theorem dX5_write_59 : decode cX5_write 59 = .ok (.return_, 1) := by decide +kernel
theorem dX5_start_0 : decode cX5_start 0 = .ok (.aload_n 0, 1) := by decide +kernel
theorem dX5_start_1 : decode cX5_start 1 = .ok (.iload_n 1, 1) := by decide +kernel
theorem dX5_start_2 : decode cX5_start 2 = .ok (.invokevirtual 224, 3) := by decide +kernel
theorem dX5_start_5 : decode cX5_start 5 = .ok (.istore_n 2, 1) := by decide +kernel
theorem dX5_start_6 : decode cX5_start 6 = .ok (.iload_n 2, 1) := by decide +kernel
theorem dX5_start_7 : decode cX5_start 7 = .ok (.aload_n 0, 1) := by decide +kernel
theorem dX5_start_8 : decode cX5_start 8 = .ok (.iload_n 1, 1) := by decide +kernel
theorem dX5_start_9 : decode cX5_start 9 = .ok (.invokevirtual 227, 3) := by decide +kernel
theorem dX5_start_12 : decode cX5_start 12 = .ok (.if_icmp .ge 19, 3) := by decide +kernel
theorem dX5_start_15 : decode cX5_start 15 = .ok (.aload_n 0, 1) := by decide +kernel
theorem dX5_start_16 : decode cX5_start 16 = .ok (.getfield 153, 3) := by decide +kernel
theorem dX5_start_19 : decode cX5_start 19 = .ok (.bipush 20, 2) := by decide +kernel
theorem dX5_start_21 : decode cX5_start 21 = .ok (.if_icmp .ne 10, 3) := by decide +kernel
theorem dX5_start_24 : decode cX5_start 24 = .ok (.aload_n 0, 1) := by decide +kernel
theorem dX5_start_25 : decode cX5_start 25 = .ok (.bipush 7, 2) := by decide +kernel
theorem dX5_start_27 : decode cX5_start 27 = .ok (.invokevirtual 169, 3) := by decide +kernel
theorem dX5_start_30 : decode cX5_start 30 = .ok (.return_, 1) := by decide +kernel
theorem dX5_start_31 : decode cX5_start 31 = .ok (.aload_n 0, 1) := by decide +kernel
theorem dX5_start_32 : decode cX5_start 32 = .ok (.getfield 8, 3) := by decide +kernel
theorem dX5_start_35 : decode cX5_start 35 = .ok (.iload_n 1, 1) := by decide +kernel
theorem dX5_start_36 : decode cX5_start 36 = .ok (.invokestatic 73, 3) := by decide +kernel
theorem dX5_start_39 : decode cX5_start 39 = .ok (.iconst 5, 1) := by decide +kernel
theorem dX5_start_40 : decode cX5_start 40 = .ok (.iadd, 1) := by decide +kernel
theorem dX5_start_41 : decode cX5_start 41 = .ok (.iconst 1, 1) := by decide +kernel
theorem dX5_start_42 : decode cX5_start 42 = .ok (.iastore, 1) := by decide +kernel
theorem dX5_start_43 : decode cX5_start 43 = .ok (.aload_n 0, 1) := by decide +kernel
theorem dX5_start_44 : decode cX5_start 44 = .ok (.iconst 1, 1) := by decide +kernel
theorem dX5_start_45 : decode cX5_start 45 = .ok (.putfield 162, 3) := by decide +kernel
theorem dX5_start_48 : decode cX5_start 48 = .ok (.iload_n 2, 1) := by decide +kernel
theorem dX5_start_49 : decode cX5_start 49 = .ok (.aload_n 0, 1) := by decide +kernel
theorem dX5_start_50 : decode cX5_start 50 = .ok (.iload_n 1, 1) := by decide +kernel
theorem dX5_start_51 : decode cX5_start 51 = .ok (.invokevirtual 227, 3) := by decide +kernel
theorem dX5_start_54 : decode cX5_start 54 = .ok (.if_icmp .ge 21, 3) := by decide +kernel
theorem dX5_start_57 : decode cX5_start 57 = .ok (.aload_n 0, 1) := by decide +kernel
theorem dX5_start_58 : decode cX5_start 58 = .ok (.iconst 0, 1) := by decide +kernel
theorem dX5_start_59 : decode cX5_start 59 = .ok (.putfield 162, 3) := by decide +kernel
theorem dX5_start_62 : decode cX5_start 62 = .ok (.aload_n 0, 1) := by decide +kernel
theorem dX5_start_63 : decode cX5_start 63 = .ok (.iload_n 1, 1) := by decide +kernel
theorem dX5_start_64 : decode cX5_start 64 = .ok (.iload_n 2, 1) := by decide +kernel
theorem dX5_start_65 : decode cX5_start 65 = .ok (.aload_n 0, 1) := by decide +kernel
theorem dX5_start_66 : decode cX5_start 66 = .ok (.iload_n 1, 1) := by decide +kernel
theorem dX5_start_67 : decode cX5_start 67 = .ok (.invokevirtual 227, 3) := by decide +kernel
theorem dX5_start_70 : decode cX5_start 70 = .ok (.iconst (-1), 1) := by decide +kernel
theorem dX5_start_71 : decode cX5_start 71 = .ok (.iload_n 1, 1) := by decide +kernel
theorem dX5_start_72 : decode cX5_start 72 = .ok (.invokevirtual 211, 3) := by decide +kernel
theorem dX5_start_75 : decode cX5_start 75 = .ok (.return_, 1) := by decide +kernel
theorem dX5_make_0 : decode cX5_make 0 = .ok (.iconst (-1), 1) := by decide +kernel
theorem dX5_make_1 : decode cX5_make 1 = .ok (.istore_n 2, 1) := by decide +kernel
theorem dX5_make_2 : decode cX5_make 2 = .ok (.iconst 1, 1) := by decide +kernel
theorem dX5_make_3 : decode cX5_make 3 = .ok (.istore_n 3, 1) := by decide +kernel
theorem dX5_make_4 : decode cX5_make 4 = .ok (.iload_n 1, 1) := by decide +kernel
theorem dX5_make_5 : decode cX5_make 5 = .ok (.istore 4, 2) := by decide +kernel
theorem dX5_make_7 : decode cX5_make 7 = .ok (.iload 4, 2) := by decide +kernel
theorem dX5_make_9 : decode cX5_make 9 = .ok (.ifCond .lt 65, 3) := by decide +kernel
theorem dX5_make_12 : decode cX5_make 12 = .ok (.aload_n 0, 1) := by decide +kernel
theorem dX5_make_13 : decode cX5_make 13 = .ok (.getfield 8, 3) := by decide +kernel
theorem dX5_make_16 : decode cX5_make 16 = .ok (.iload 4, 2) := by decide +kernel
theorem dX5_make_18 : decode cX5_make 18 = .ok (.invokestatic 73, 3) := by decide +kernel
theorem dX5_make_21 : decode cX5_make 21 = .ok (.iconst 5, 1) := by decide +kernel
theorem dX5_make_22 : decode cX5_make 22 = .ok (.iadd, 1) := by decide +kernel
theorem dX5_make_23 : decode cX5_make 23 = .ok (.iaload, 1) := by decide +kernel
theorem dX5_make_24 : decode cX5_make 24 = .ok (.istore 5, 2) := by decide +kernel
theorem dX5_make_26 : decode cX5_make 26 = .ok (.iload 5, 2) := by decide +kernel
theorem dX5_make_28 : decode cX5_make 28 = .ok (.iconst 2, 1) := by decide +kernel
theorem dX5_make_29 : decode cX5_make 29 = .ok (.if_icmp .ne 10, 3) := by decide +kernel
theorem dX5_make_32 : decode cX5_make 32 = .ok (.aload_n 0, 1) := by decide +kernel
theorem dX5_make_33 : decode cX5_make 33 = .ok (.bipush 6, 2) := by decide +kernel
theorem dX5_make_35 : decode cX5_make 35 = .ok (.invokevirtual 169, 3) := by decide +kernel
theorem dX5_make_38 : decode cX5_make 38 = .ok (.return_, 1) := by decide +kernel
theorem dX5_make_39 : decode cX5_make 39 = .ok (.iload_n 3, 1) := by decide +kernel
theorem dX5_make_40 : decode cX5_make 40 = .ok (.iload 5, 2) := by decide +kernel
theorem dX5_make_42 : decode cX5_make 42 = .ok (.ifCond .ne 7, 3) := by decide +kernel
theorem dX5_make_45 : decode cX5_make 45 = .ok (.iconst 1, 1) := by decide +kernel
theorem dX5_make_46 : decode cX5_make 46 = .ok (.goto 4, 3) := by decide +kernel
theorem dX5_make_49 : decode cX5_make 49 = .ok (.iconst 0, 1) := by decide +kernel
theorem dX5_make_50 : decode cX5_make 50 = .ok (.iand, 1) := by decide +kernel
theorem dX5_make_51 : decode cX5_make 51 = .ok (.istore_n 3, 1) := by decide +kernel
theorem dX5_make_52 : decode cX5_make 52 = .ok (.iload_n 3, 1) := by decide +kernel
theorem dX5_make_53 : decode cX5_make 53 = .ok (.ifCond .eq 8, 3) := by decide +kernel
theorem dX5_make_56 : decode cX5_make 56 = .ok (.iload 4, 2) := by decide +kernel
theorem dX5_make_58 : decode cX5_make 58 = .ok (.goto 4, 3) := by decide +kernel
theorem dX5_make_61 : decode cX5_make 61 = .ok (.iload_n 2, 1) := by decide +kernel
theorem dX5_make_62 : decode cX5_make 62 = .ok (.istore_n 2, 1) := by decide +kernel
theorem dX5_make_63 : decode cX5_make 63 = .ok (.aload_n 0, 1) := by decide +kernel
theorem dX5_make_64 : decode cX5_make 64 = .ok (.iload 4, 2) := by decide +kernel
theorem dX5_make_66 : decode cX5_make 66 = .ok (.invokevirtual 138, 3) := by decide +kernel
theorem dX5_make_69 : decode cX5_make 69 = .ok (.istore 4, 2) := by decide +kernel
theorem dX5_make_71 : decode cX5_make 71 = .ok (.goto (-64), 3) := by decide +kernel
theorem dX5_make_74 : decode cX5_make 74 = .ok (.iload_n 2, 1) := by decide +kernel
theorem dX5_make_75 : decode cX5_make 75 = .ok (.ifCond .lt 11, 3) := by decide +kernel
theorem dX5_make_78 : decode cX5_make 78 = .ok (.aload_n 0, 1) := by decide +kernel
theorem dX5_make_79 : decode cX5_make 79 = .ok (.iload_n 2, 1) := by decide +kernel
theorem dX5_make_80 : decode cX5_make 80 = .ok (.invokevirtual 218, 3) := by decide +kernel
theorem dX5_make_83 : decode cX5_make 83 = .ok (.goto 49, 3) := by decide +kernel
theorem dX5_make_86 : decode cX5_make 86 = .ok (.aload_n 0, 1) := by decide +kernel
theorem dX5_make_87 : decode cX5_make 87 = .ok (.getfield 8, 3) := by decide +kernel
theorem dX5_make_90 : decode cX5_make 90 = .ok (.iconst 2, 1) := by decide +kernel
theorem dX5_make_91 : decode cX5_make 91 = .ok (.iaload, 1) := by decide +kernel
theorem dX5_make_92 : decode cX5_make 92 = .ok (.sipush 150, 3) := by decide +kernel
theorem dX5_make_95 : decode cX5_make 95 = .ok (.if_icmp .ne 12, 3) := by decide +kernel
theorem dX5_make_98 : decode cX5_make 98 = .ok (.aload_n 0, 1) := by decide +kernel
theorem dX5_make_99 : decode cX5_make 99 = .ok (.bipush 8, 2) := by decide +kernel
theorem dX5_make_101 : decode cX5_make 101 = .ok (.invokevirtual 169, 3) := by decide +kernel
theorem dX5_make_104 : decode cX5_make 104 = .ok (.goto 28, 3) := by decide +kernel
theorem dX5_make_107 : decode cX5_make 107 = .ok (.aload_n 0, 1) := by decide +kernel
theorem dX5_make_108 : decode cX5_make 108 = .ok (.getfield 39, 3) := by decide +kernel
theorem dX5_make_111 : decode cX5_make 111 = .ok (.aload_n 0, 1) := by decide +kernel
theorem dX5_make_112 : decode cX5_make 112 = .ok (.getfield 150, 3) := by decide +kernel
theorem dX5_make_115 : decode cX5_make 115 = .ok (.iconst 1, 1) := by decide +kernel
theorem dX5_make_116 : decode cX5_make 116 = .ok (.isub, 1) := by decide +kernel
theorem dX5_make_117 : decode cX5_make 117 = .ok (.dup2, 1) := by decide +kernel
theorem dX5_make_118 : decode cX5_make 118 = .ok (.iaload, 1) := by decide +kernel
theorem dX5_make_119 : decode cX5_make 119 = .ok (.iconst 2, 1) := by decide +kernel
theorem dX5_make_120 : decode cX5_make 120 = .ok (.iadd, 1) := by decide +kernel
theorem dX5_make_121 : decode cX5_make 121 = .ok (.iastore, 1) := by decide +kernel
theorem dX5_make_122 : decode cX5_make 122 = .ok (.aload_n 0, 1) := by decide +kernel
theorem dX5_make_123 : decode cX5_make 123 = .ok (.iconst 1, 1) := by decide +kernel
theorem dX5_make_124 : decode cX5_make 124 = .ok (.aload_n 0, 1) := by decide +kernel
theorem dX5_make_125 : decode cX5_make 125 = .ok (.iload_n 1, 1) := by decide +kernel
theorem dX5_make_126 : decode cX5_make 126 = .ok (.invokevirtual 221, 3) := by decide +kernel
theorem dX5_make_129 : decode cX5_make 129 = .ok (.invokevirtual 181, 3) := by decide +kernel
theorem dX5_make_132 : decode cX5_make 132 = .ok (.return_, 1) := by decide +kernel
section RM
variable {ρ : Type} {p : Program} {l : Launch} {e : Env} {R : Room} {s : State} {m : MethodId} {args : Array Value} {below : List Frame} {meth : Method} {c : Code}
variable {cc : ByteArray} {nL : Nat} {rt : Option FieldType} {D : va_G} {cI cZ : ClassId} {q : Nat → Nat} {QQ : ρ → State → Prop} {pc : Nat} {lv : List (Nat × Value)}

-- ofObject
def fR_ofObject_b113 (n : Nat) (x3 : Int32) (x5 : Int32) (s0 : Int32) (s1 : Int32) (M : MR) : Option (Int32 × MR) :=
    wz M 10 2000 s0 s1 fun M1 =>
    rd M1 0 62610 (x5 + (10 : Int32)) fun v2 =>
    wr M1 11 2000 x3 v2 fun M3 =>
    some (0, M3)
theorem wR_ofObject_b113 (X : gX p s m args meth c cX5_ofObject 6 RX5 none D (tyR cI cZ)) (n : Nat) (x3 : Int32) (x5 : Int32) (s0 : Int32) (s1 : Int32) (M : MR) : gG p l e (rmR 6 137) s m args below meth c 6 (ZR D cI cZ q (AR q s.heap.size) s.heap M) 0 0 (fun r => MQ below (QV D cI cZ q s.heap.size r) args s 0 0 (AR q s.heap.size)) 113 [(0, .ref (q 34)), (3, .int x3), (5, .int x5)] [.int s1, .int s0, .ref (q 10)] (fR_ofObject_b113 n x3 x5 s0 s1 M) := by
  unfold fR_ofObject_b113
  refine r_s_isObj X dX5_ofObject_113 ?_
  intro M1
  refine g_aload_n X dX5_ofObject_114 rfl rfl ?_
  refine r_g_value X dX5_ofObject_115 ?_
  refine g_iload_n X dX5_ofObject_118 rfl rfl ?_
  refine g_aload_n X dX5_ofObject_119 rfl rfl ?_
  refine r_g_m X dX5_ofObject_120 ?_
  refine g_iload X dX5_ofObject_123 rfl ?_
  refine g_bipush (v := (10 : Int32)) X dX5_ofObject_125 (by decide) ?_
  refine g_iadd X dX5_ofObject_127 ?_
  refine r_l_m X dX5_ofObject_128 ?_
  intro v2
  refine r_s_value X dX5_ofObject_129 ?_
  intro M3
  refine g_goto (tgt := 220) X dX5_ofObject_130 (by decide) ?_
  exact r_vret X dX5_ofObject_220
def fR_ofObject_b158 (n : Nat) (x3 : Int32) (x5 : Int32) (s0 : Int32) (s1 : Int32) (M : MR) : Option (Int32 × MR) :=
    wr M 0 62610 s0 s1 fun M1 =>
    gf M1 12 fun v2 =>
    rd M1 11 2000 (v2 - (1 : Int32)) fun v3 =>
    wr M1 0 62610 (x5 + (10 : Int32)) v3 fun M4 =>
    gf M4 12 fun v5 =>
    pf M4 12 (v5 - (1 : Int32)) fun M6 =>
    gf M6 12 fun v7 =>
    rd M6 10 2000 v7 fun v8 =>
    wz M6 10 2000 x3 v8 fun M9 =>
    gf M9 12 fun v10 =>
    rd M9 11 2000 v10 fun v11 =>
    wr M9 11 2000 x3 v11 fun M12 =>
    some (0, M12)
theorem wR_ofObject_b158 (X : gX p s m args meth c cX5_ofObject 6 RX5 none D (tyR cI cZ)) (n : Nat) (x3 : Int32) (x5 : Int32) (s0 : Int32) (s1 : Int32) (M : MR) : gG p l e (rmR 6 137) s m args below meth c 6 (ZR D cI cZ q (AR q s.heap.size) s.heap M) 0 0 (fun r => MQ below (QV D cI cZ q s.heap.size r) args s 0 0 (AR q s.heap.size)) 158 [(0, .ref (q 34)), (3, .int x3), (5, .int x5)] [.int s1, .int s0, .ref (q 0)] (fR_ofObject_b158 n x3 x5 s0 s1 M) := by
  unfold fR_ofObject_b158
  refine r_s_m X dX5_ofObject_158 ?_
  intro M1
  refine g_aload_n X dX5_ofObject_159 rfl rfl ?_
  refine r_g_m X dX5_ofObject_160 ?_
  refine g_iload X dX5_ofObject_163 rfl ?_
  refine g_bipush (v := (10 : Int32)) X dX5_ofObject_165 (by decide) ?_
  refine g_iadd X dX5_ofObject_167 ?_
  refine g_aload_n X dX5_ofObject_168 rfl rfl ?_
  refine r_g_value X dX5_ofObject_169 ?_
  refine g_aload_n X dX5_ofObject_172 rfl rfl ?_
  refine r_g_top X dX5_ofObject_173 ?_
  intro v2
  refine g_iconst (v := (1 : Int32)) X dX5_ofObject_176 (by decide) ?_
  refine g_isub X dX5_ofObject_177 ?_
  refine r_l_value X dX5_ofObject_178 ?_
  intro v3
  refine r_s_m X dX5_ofObject_179 ?_
  intro M4
  refine g_aload_n X dX5_ofObject_180 rfl rfl ?_
  refine g_dup X dX5_ofObject_181 rfl ?_
  refine r_g_top X dX5_ofObject_182 ?_
  intro v5
  refine g_iconst (v := (1 : Int32)) X dX5_ofObject_185 (by decide) ?_
  refine g_isub X dX5_ofObject_186 ?_
  refine r_p_top X dX5_ofObject_187 ?_
  intro M6
  refine g_aload_n X dX5_ofObject_190 rfl rfl ?_
  refine r_g_isObj X dX5_ofObject_191 ?_
  refine g_iload_n X dX5_ofObject_194 rfl rfl ?_
  refine g_aload_n X dX5_ofObject_195 rfl rfl ?_
  refine r_g_isObj X dX5_ofObject_196 ?_
  refine g_aload_n X dX5_ofObject_199 rfl rfl ?_
  refine r_g_top X dX5_ofObject_200 ?_
  intro v7
  refine r_l_isObj X dX5_ofObject_203 ?_
  intro v8
  refine r_s_isObj X dX5_ofObject_204 ?_
  intro M9
  refine g_aload_n X dX5_ofObject_205 rfl rfl ?_
  refine r_g_value X dX5_ofObject_206 ?_
  refine g_iload_n X dX5_ofObject_209 rfl rfl ?_
  refine g_aload_n X dX5_ofObject_210 rfl rfl ?_
  refine r_g_value X dX5_ofObject_211 ?_
  refine g_aload_n X dX5_ofObject_214 rfl rfl ?_
  refine r_g_top X dX5_ofObject_215 ?_
  intro v10
  refine r_l_value X dX5_ofObject_218 ?_
  intro v11
  refine r_s_value X dX5_ofObject_219 ?_
  intro M12
  exact r_vret X dX5_ofObject_220
def fR_ofObject_b20 (n : Nat) (x1 : Int32) (x2 : Int32) (s0 : Int32) (M : MR) : Option (Int32 × MR) :=
    rd M 10 2000 s0 fun v1 =>
    if v1 = 0 then
      (bnd (fR_fail n (1 : Int32) M) fun _ M10 =>
      some (0, M10))
    else
      (rd M 11 2000 s0 fun v2 =>
      if x1 = (7 : Int32) then
        (bnd (fR_method n v2 x2 M) fun _ M9 =>
        some (0, M9))
      else
        (bnd (fR_objAt n v2 M) fun v3 M3 =>
        rd M3 0 62610 ((v3 + (1 : Int32)) + x2) fun v4 =>
        if v4 = 0 then
          (bnd (fR_fail n (3 : Int32) M3) fun _ M8 =>
          some (0, M8))
        else
          (if x1 = (5 : Int32) then
            (rd M3 0 62610 ((v3 + (1 : Int32)) + x2) fun v7 =>
            if v7 = (2 : Int32) then
              (fR_ofObject_b113 n s0 ((v3 + (1 : Int32)) + x2) s0 (1 : Int32) M3)
            else
              (fR_ofObject_b113 n s0 ((v3 + (1 : Int32)) + x2) s0 (0 : Int32) M3))
          else
            (gf M3 12 fun v5 =>
            rd M3 10 2000 (v5 - (1 : Int32)) fun v6 =>
            if v6 = 0 then
              (fR_ofObject_b158 n s0 ((v3 + (1 : Int32)) + x2) ((v3 + (1 : Int32)) + x2) (1 : Int32) M3)
            else
              (fR_ofObject_b158 n s0 ((v3 + (1 : Int32)) + x2) ((v3 + (1 : Int32)) + x2) (2 : Int32) M3)))))
theorem wR_ofObject_b20 (X : gX p s m args meth c cX5_ofObject 6 RX5 none D (tyR cI cZ)) (n : Nat) (x1 : Int32) (x2 : Int32) (s0 : Int32) (M : MR) : gG p l e (rmR 6 137) s m args below meth c 6 (ZR D cI cZ q (AR q s.heap.size) s.heap M) 0 0 (fun r => MQ below (QV D cI cZ q s.heap.size r) args s 0 0 (AR q s.heap.size)) 20 [(0, .ref (q 34)), (1, .int x1), (2, .int x2)] [.int s0] (fR_ofObject_b20 n x1 x2 s0 M) := by
  unfold fR_ofObject_b20
  refine g_istore_n (lv' := [(3, .int s0), (0, .ref (q 34)), (1, .int x1), (2, .int x2)]) X dX5_ofObject_20 rfl (by decide) rfl ?_
  refine g_aload_n X dX5_ofObject_21 rfl rfl ?_
  refine r_g_isObj X dX5_ofObject_22 ?_
  refine g_iload_n X dX5_ofObject_25 rfl rfl ?_
  refine r_l_isObj X dX5_ofObject_26 ?_
  intro v1
  refine g_if_ne (tgt := 36) X dX5_ofObject_27 (by decide) ?_ ?_
  · refine g_aload_n X dX5_ofObject_36 rfl rfl ?_
    refine r_g_value X dX5_ofObject_37 ?_
    refine g_iload_n X dX5_ofObject_40 rfl rfl ?_
    refine r_l_value X dX5_ofObject_41 ?_
    intro v2
    refine g_istore (lv' := [(4, .int v2), (3, .int s0), (0, .ref (q 34)), (1, .int x1), (2, .int x2)]) X dX5_ofObject_42 (by decide) rfl ?_
    refine g_iload_n X dX5_ofObject_44 rfl rfl ?_
    refine g_bipush (v := (7 : Int32)) X dX5_ofObject_45 (by decide) ?_
    refine g_icmp_ne (tgt := 58) X dX5_ofObject_47 (by decide) ?_ ?_
    · refine g_iload X dX5_ofObject_58 rfl ?_
      refine k_objAt X ⟨Nat.le_of_ble_eq_true rfl, Nat.le_of_ble_eq_true rfl⟩ (Nat.le_of_ble_eq_true rfl) dX5_ofObject_60 ?_
      intro v3 M3
      refine g_iconst (v := (1 : Int32)) X dX5_ofObject_63 (by decide) ?_
      refine g_iadd X dX5_ofObject_64 ?_
      refine g_iload_n X dX5_ofObject_65 rfl rfl ?_
      refine g_iadd X dX5_ofObject_66 ?_
      refine g_istore (lv' := [(5, .int ((v3 + (1 : Int32)) + x2)), (4, .int v2), (3, .int s0), (0, .ref (q 34)), (1, .int x1), (2, .int x2)]) X dX5_ofObject_67 (by decide) rfl ?_
      refine g_aload_n X dX5_ofObject_69 rfl rfl ?_
      refine r_g_m X dX5_ofObject_70 ?_
      refine g_iload X dX5_ofObject_73 rfl ?_
      refine r_l_m X dX5_ofObject_75 ?_
      intro v4
      refine g_if_ne (tgt := 87) X dX5_ofObject_76 (by decide) ?_ ?_
      · refine g_iload_n X dX5_ofObject_87 rfl rfl ?_
        refine g_iconst (v := (5 : Int32)) X dX5_ofObject_88 (by decide) ?_
        refine g_icmp_ne (tgt := 133) X dX5_ofObject_89 (by decide) ?_ ?_
        · refine g_aload_n X dX5_ofObject_133 rfl rfl ?_
          refine r_g_m X dX5_ofObject_134 ?_
          refine g_iload X dX5_ofObject_137 rfl ?_
          refine g_aload_n X dX5_ofObject_139 rfl rfl ?_
          refine r_g_isObj X dX5_ofObject_140 ?_
          refine g_aload_n X dX5_ofObject_143 rfl rfl ?_
          refine r_g_top X dX5_ofObject_144 ?_
          intro v5
          refine g_iconst (v := (1 : Int32)) X dX5_ofObject_147 (by decide) ?_
          refine g_isub X dX5_ofObject_148 ?_
          refine r_l_isObj X dX5_ofObject_149 ?_
          intro v6
          refine g_if_eq (tgt := 157) X dX5_ofObject_150 (by decide) ?_ ?_
          · refine g_iconst (v := (1 : Int32)) X dX5_ofObject_157 (by decide) ?_
            exact g_pick [3, 2, 0] rfl (wR_ofObject_b158 X n s0 ((v3 + (1 : Int32)) + x2) ((v3 + (1 : Int32)) + x2) (1 : Int32) M3)
          · refine g_iconst (v := (2 : Int32)) X dX5_ofObject_153 (by decide) ?_
            refine g_goto (tgt := 158) X dX5_ofObject_154 (by decide) ?_
            exact g_pick [3, 2, 0] rfl (wR_ofObject_b158 X n s0 ((v3 + (1 : Int32)) + x2) ((v3 + (1 : Int32)) + x2) (2 : Int32) M3)
        · refine g_aload_n X dX5_ofObject_92 rfl rfl ?_
          refine r_g_isObj X dX5_ofObject_93 ?_
          refine g_iload_n X dX5_ofObject_96 rfl rfl ?_
          refine g_aload_n X dX5_ofObject_97 rfl rfl ?_
          refine r_g_m X dX5_ofObject_98 ?_
          refine g_iload X dX5_ofObject_101 rfl ?_
          refine r_l_m X dX5_ofObject_103 ?_
          intro v7
          refine g_iconst (v := (2 : Int32)) X dX5_ofObject_104 (by decide) ?_
          refine g_icmp_ne (tgt := 112) X dX5_ofObject_105 (by decide) ?_ ?_
          · refine g_iconst (v := (0 : Int32)) X dX5_ofObject_112 (by decide) ?_
            exact g_pick [3, 2, 0] rfl (wR_ofObject_b113 X n s0 ((v3 + (1 : Int32)) + x2) s0 (0 : Int32) M3)
          · refine g_iconst (v := (1 : Int32)) X dX5_ofObject_108 (by decide) ?_
            refine g_goto (tgt := 113) X dX5_ofObject_109 (by decide) ?_
            exact g_pick [3, 2, 0] rfl (wR_ofObject_b113 X n s0 ((v3 + (1 : Int32)) + x2) s0 (1 : Int32) M3)
      · refine g_aload_n X dX5_ofObject_79 rfl rfl ?_
        refine g_iconst (v := (3 : Int32)) X dX5_ofObject_80 (by decide) ?_
        refine k_fail X ⟨Nat.le_of_ble_eq_true rfl, Nat.le_of_ble_eq_true rfl⟩ (Nat.le_of_ble_eq_true rfl) dX5_ofObject_81 ?_
        intro v8 M8
        refine g_goto (tgt := 220) X dX5_ofObject_84 (by decide) ?_
        exact r_vret X dX5_ofObject_220
    · refine g_aload_n X dX5_ofObject_50 rfl rfl ?_
      refine g_iload X dX5_ofObject_51 rfl ?_
      refine g_iload_n X dX5_ofObject_53 rfl rfl ?_
      refine k_method X ⟨Nat.le_of_ble_eq_true rfl, Nat.le_of_ble_eq_true rfl⟩ (Nat.le_of_ble_eq_true rfl) dX5_ofObject_54 ?_
      intro v9 M9
      exact r_vret X dX5_ofObject_57
  · refine g_aload_n X dX5_ofObject_30 rfl rfl ?_
    refine g_iconst (v := (1 : Int32)) X dX5_ofObject_31 (by decide) ?_
    refine k_fail X ⟨Nat.le_of_ble_eq_true rfl, Nat.le_of_ble_eq_true rfl⟩ (Nat.le_of_ble_eq_true rfl) dX5_ofObject_32 ?_
    intro v10 M10
    exact r_vret X dX5_ofObject_35
def fR_ofObject (n : Nat) (x1 : Int32) (x2 : Int32) (M : MR) : Option (Int32 × MR) :=
    if x1 = (5 : Int32) then
      (gf M 12 fun v2 =>
      fR_ofObject_b20 n x1 x2 (v2 - (1 : Int32)) M)
    else
      (gf M 12 fun v1 =>
      fR_ofObject_b20 n x1 x2 (v1 - (2 : Int32)) M)
theorem c_ofObject (l : Launch) (D : va_G) (cI cZ : ClassId) (q : Nat → Nat) (n : Nat) (x1 : Int32) (x2 : Int32) (M : MR) : MetR l D cI cZ q yX5_ofObject cX5_ofObject 6 none 6 137 QV [.ref (q 34), .int x1, .int x2] M (fR_ofObject n x1 x2 M) := by
  refine MetR.of (by decide) rfl (Nat.le_of_ble_eq_true rfl) ?_
  intro p e s m args below meth c X
  unfold fR_ofObject
  refine g_pick (lv' := [(0, .ref (q 34)), (1, .int x1), (2, .int x2)]) [0, 1, 2] rfl ?_
  refine g_iload_n X dX5_ofObject_0 rfl rfl ?_
  refine g_iconst (v := (5 : Int32)) X dX5_ofObject_1 (by decide) ?_
  refine g_icmp_ne (tgt := 14) X dX5_ofObject_2 (by decide) ?_ ?_
  · refine g_aload_n X dX5_ofObject_14 rfl rfl ?_
    refine r_g_top X dX5_ofObject_15 ?_
    intro v1
    refine g_iconst (v := (2 : Int32)) X dX5_ofObject_18 (by decide) ?_
    refine g_isub X dX5_ofObject_19 ?_
    exact g_pick [0, 1, 2] rfl (wR_ofObject_b20 X n x1 x2 (v1 - (2 : Int32)) M)
  · refine g_aload_n X dX5_ofObject_5 rfl rfl ?_
    refine r_g_top X dX5_ofObject_6 ?_
    intro v2
    refine g_iconst (v := (1 : Int32)) X dX5_ofObject_9 (by decide) ?_
    refine g_isub X dX5_ofObject_10 ?_
    refine g_goto (tgt := 20) X dX5_ofObject_11 (by decide) ?_
    exact g_pick [0, 1, 2] rfl (wR_ofObject_b20 X n x1 x2 (v2 - (1 : Int32)) M)
theorem tc_ofObject : Cond.code yX5_ofObject cX5_ofObject 6 none ∈ tt := tt_in (List.mem_of_getElem? (i := 1031) (by decide +kernel)) (by decide +kernel)
theorem tl_ofObject : Cond.methodLink RX5 189 yX5_ofObject ∈ tt := tt_in (List.mem_of_getElem? (i := 1028) (by decide +kernel)) (by decide +kernel)
theorem ti_ofObject : Cond.instanceMethod yX5_ofObject ∈ tt := tt_in (List.mem_of_getElem? (i := 1030) (by decide +kernel)) (by decide +kernel)
theorem te_ofObject : Cond.selects RX5 yX5_ofObject yX5_ofObject ∈ tt := tt_in (List.mem_of_getElem? (i := 68) (by decide +kernel)) (by decide +kernel)
theorem k_ofObject (X : gX p s m args meth c cc nL RX5 rt D (tyR cI cZ)) {n : Nat} {x1 : Int32} {x2 : Int32} {M : MR} {rest : List Value} {K : Int32 → MR → Option ρ} (hR : 6 + 1 ≤ R.frames ∧ 8 + (6 + 11) + 137 ≤ R.locals) (hcat : (rest.map fun v => v.category).sum ≤ 8) (d : decode cc pc = .ok (.invokevirtual 189, 3)) (kk : ∀ v M1, gG p l e R s m args below meth c nL (ZR D cI cZ q (AR q s.heap.size) s.heap M1) 0 0 QQ (pc + 3) lv (rest) (K v M1)) : gG p l e R s m args below meth c nL (ZR D cI cZ q (AR q s.heap.size) s.heap M) 0 0 QQ pc lv (.int x2 :: .int x1 :: .ref (q 34) :: rest) (bnd (fR_ofObject n x1 x2 M) K) := r_callVv (As := [.int x1, .int x2]) X (c_ofObject l D cI cZ q n x1 x2 M) (cwVR (k := 2) X.2.2.2.2.1 tl_ofObject ti_ofObject te_ofObject tc_ofObject ini5 (by decide +kernel) hR) rfl rfl hcat d kk
-- reckon
def fR_reckon_b36 (n : Nat) (M : MR) : Option (Int32 × MR) :=
    bnd (fR_fail n (1 : Int32) M) fun _ M1 =>
    some (0, M1)
theorem wR_reckon_b36 (X : gX p s m args meth c cX5_reckon 4 RX5 none D (tyR cI cZ)) (n : Nat) (M : MR) : gG p l e (rmR 2 42) s m args below meth c 4 (ZR D cI cZ q (AR q s.heap.size) s.heap M) 0 0 (fun r => MQ below (QV D cI cZ q s.heap.size r) args s 0 0 (AR q s.heap.size)) 36 [(0, .ref (q 34))] [] (fR_reckon_b36 n M) := by
  unfold fR_reckon_b36
  refine g_aload_n X dX5_reckon_36 rfl rfl ?_
  refine g_iconst (v := (1 : Int32)) X dX5_reckon_37 (by decide) ?_
  refine k_fail X ⟨Nat.le_of_ble_eq_true rfl, Nat.le_of_ble_eq_true rfl⟩ (Nat.le_of_ble_eq_true rfl) dX5_reckon_38 ?_
  intro v1 M1
  exact r_vret X dX5_reckon_41
def fR_reckon_b80 (n : Nat) (x1 : Int32) (x2 : Int32) (x3 : Int32) (M : MR) : Option (Int32 × MR) :=
    gf M 12 fun v1 =>
    if x1 = (8 : Int32) then
      (wr M 11 2000 (v1 - (1 : Int32)) (x2 + x3) fun M7 =>
      some (0, M7))
    else
      (if x1 = (9 : Int32) then
        (wr M 11 2000 (v1 - (1 : Int32)) (x2 - x3) fun M6 =>
        some (0, M6))
      else
        (if x1 = (10 : Int32) then
          (wr M 11 2000 (v1 - (1 : Int32)) (x2 * x3) fun M5 =>
          some (0, M5))
        else
          (if x1 = (11 : Int32) then
            (if x3 = 0 then none else wr M 11 2000 (v1 - (1 : Int32)) (x2 / x3) fun M4 =>
            some (0, M4))
          else
            (if x3 ≤ x2 then
              (wr M 11 2000 (v1 - (1 : Int32)) (0 : Int32) fun M2 =>
              some (0, M2))
            else
              (wr M 11 2000 (v1 - (1 : Int32)) (1 : Int32) fun M3 =>
              some (0, M3))))))
theorem wR_reckon_b80 (X : gX p s m args meth c cX5_reckon 4 RX5 none D (tyR cI cZ)) (n : Nat) (x1 : Int32) (x2 : Int32) (x3 : Int32) (M : MR) : gG p l e (rmR 2 42) s m args below meth c 4 (ZR D cI cZ q (AR q s.heap.size) s.heap M) 0 0 (fun r => MQ below (QV D cI cZ q s.heap.size r) args s 0 0 (AR q s.heap.size)) 80 [(0, .ref (q 34)), (1, .int x1), (2, .int x2), (3, .int x3)] [] (fR_reckon_b80 n x1 x2 x3 M) := by
  unfold fR_reckon_b80
  refine g_aload_n X dX5_reckon_80 rfl rfl ?_
  refine r_g_value X dX5_reckon_81 ?_
  refine g_aload_n X dX5_reckon_84 rfl rfl ?_
  refine r_g_top X dX5_reckon_85 ?_
  intro v1
  refine g_iconst (v := (1 : Int32)) X dX5_reckon_88 (by decide) ?_
  refine g_isub X dX5_reckon_89 ?_
  refine g_iload_n X dX5_reckon_90 rfl rfl ?_
  refine g_bipush (v := (8 : Int32)) X dX5_reckon_91 (by decide) ?_
  refine g_icmp_ne (tgt := 102) X dX5_reckon_93 (by decide) ?_ ?_
  · refine g_iload_n X dX5_reckon_102 rfl rfl ?_
    refine g_bipush (v := (9 : Int32)) X dX5_reckon_103 (by decide) ?_
    refine g_icmp_ne (tgt := 114) X dX5_reckon_105 (by decide) ?_ ?_
    · refine g_iload_n X dX5_reckon_114 rfl rfl ?_
      refine g_bipush (v := (10 : Int32)) X dX5_reckon_115 (by decide) ?_
      refine g_icmp_ne (tgt := 126) X dX5_reckon_117 (by decide) ?_ ?_
      · refine g_iload_n X dX5_reckon_126 rfl rfl ?_
        refine g_bipush (v := (11 : Int32)) X dX5_reckon_127 (by decide) ?_
        refine g_icmp_ne (tgt := 138) X dX5_reckon_129 (by decide) ?_ ?_
        · refine g_iload_n X dX5_reckon_138 rfl rfl ?_
          refine g_iload_n X dX5_reckon_139 rfl rfl ?_
          refine g_icmp_ge (tgt := 147) X dX5_reckon_140 (by decide) ?_ ?_
          · refine g_iconst (v := (0 : Int32)) X dX5_reckon_147 (by decide) ?_
            refine r_s_value X dX5_reckon_148 ?_
            intro M2
            exact r_vret X dX5_reckon_149
          · refine g_iconst (v := (1 : Int32)) X dX5_reckon_143 (by decide) ?_
            refine g_goto (tgt := 148) X dX5_reckon_144 (by decide) ?_
            refine r_s_value X dX5_reckon_148 ?_
            intro M3
            exact r_vret X dX5_reckon_149
        · refine g_iload_n X dX5_reckon_132 rfl rfl ?_
          refine g_iload_n X dX5_reckon_133 rfl rfl ?_
          refine g_idiv X dX5_reckon_134 ?_
          refine g_goto (tgt := 148) X dX5_reckon_135 (by decide) ?_
          refine r_s_value X dX5_reckon_148 ?_
          intro M4
          exact r_vret X dX5_reckon_149
      · refine g_iload_n X dX5_reckon_120 rfl rfl ?_
        refine g_iload_n X dX5_reckon_121 rfl rfl ?_
        refine g_imul X dX5_reckon_122 ?_
        refine g_goto (tgt := 148) X dX5_reckon_123 (by decide) ?_
        refine r_s_value X dX5_reckon_148 ?_
        intro M5
        exact r_vret X dX5_reckon_149
    · refine g_iload_n X dX5_reckon_108 rfl rfl ?_
      refine g_iload_n X dX5_reckon_109 rfl rfl ?_
      refine g_isub X dX5_reckon_110 ?_
      refine g_goto (tgt := 148) X dX5_reckon_111 (by decide) ?_
      refine r_s_value X dX5_reckon_148 ?_
      intro M6
      exact r_vret X dX5_reckon_149
  · refine g_iload_n X dX5_reckon_96 rfl rfl ?_
    refine g_iload_n X dX5_reckon_97 rfl rfl ?_
    refine g_iadd X dX5_reckon_98 ?_
    refine g_goto (tgt := 148) X dX5_reckon_99 (by decide) ?_
    refine r_s_value X dX5_reckon_148 ?_
    intro M7
    exact r_vret X dX5_reckon_149
def fR_reckon (n : Nat) (x1 : Int32) (M : MR) : Option (Int32 × MR) :=
    gf M 12 fun v1 =>
    pf M 12 (v1 - (1 : Int32)) fun M2 =>
    gf M2 12 fun v3 =>
    rd M2 10 2000 v3 fun v4 =>
    if v4 = 0 then
      (gf M2 12 fun v5 =>
      rd M2 10 2000 (v5 - (1 : Int32)) fun v6 =>
      if v6 = 0 then
        (gf M2 12 fun v7 =>
        rd M2 11 2000 (v7 - (1 : Int32)) fun v8 =>
        gf M2 12 fun v9 =>
        rd M2 11 2000 v9 fun v10 =>
        if x1 = (11 : Int32) then
          (if v10 = 0 then
            (bnd (fR_fail n (2 : Int32) M2) fun _ M11 =>
            some (0, M11))
          else
            (fR_reckon_b80 n x1 v8 v10 M2))
        else
          (fR_reckon_b80 n x1 v8 v10 M2))
      else
        (fR_reckon_b36 n M2))
    else
      (fR_reckon_b36 n M2)
theorem c_reckon (l : Launch) (D : va_G) (cI cZ : ClassId) (q : Nat → Nat) (n : Nat) (x1 : Int32) (M : MR) : MetR l D cI cZ q yX5_reckon cX5_reckon 4 none 2 42 QV [.ref (q 34), .int x1] M (fR_reckon n x1 M) := by
  refine MetR.of (by decide) rfl (Nat.le_of_ble_eq_true rfl) ?_
  intro p e s m args below meth c X
  unfold fR_reckon
  refine g_pick (lv' := [(0, .ref (q 34)), (1, .int x1)]) [0, 1] rfl ?_
  refine g_aload_n X dX5_reckon_0 rfl rfl ?_
  refine g_dup X dX5_reckon_1 rfl ?_
  refine r_g_top X dX5_reckon_2 ?_
  intro v1
  refine g_iconst (v := (1 : Int32)) X dX5_reckon_5 (by decide) ?_
  refine g_isub X dX5_reckon_6 ?_
  refine r_p_top X dX5_reckon_7 ?_
  intro M2
  refine g_aload_n X dX5_reckon_10 rfl rfl ?_
  refine r_g_isObj X dX5_reckon_11 ?_
  refine g_aload_n X dX5_reckon_14 rfl rfl ?_
  refine r_g_top X dX5_reckon_15 ?_
  intro v3
  refine r_l_isObj X dX5_reckon_18 ?_
  intro v4
  refine g_if_ne (tgt := 36) X dX5_reckon_19 (by decide) ?_ ?_
  · exact g_pick [0] rfl (wR_reckon_b36 X n M2)
  · refine g_aload_n X dX5_reckon_22 rfl rfl ?_
    refine r_g_isObj X dX5_reckon_23 ?_
    refine g_aload_n X dX5_reckon_26 rfl rfl ?_
    refine r_g_top X dX5_reckon_27 ?_
    intro v5
    refine g_iconst (v := (1 : Int32)) X dX5_reckon_30 (by decide) ?_
    refine g_isub X dX5_reckon_31 ?_
    refine r_l_isObj X dX5_reckon_32 ?_
    intro v6
    refine g_if_eq (tgt := 42) X dX5_reckon_33 (by decide) ?_ ?_
    · refine g_aload_n X dX5_reckon_42 rfl rfl ?_
      refine r_g_value X dX5_reckon_43 ?_
      refine g_aload_n X dX5_reckon_46 rfl rfl ?_
      refine r_g_top X dX5_reckon_47 ?_
      intro v7
      refine g_iconst (v := (1 : Int32)) X dX5_reckon_50 (by decide) ?_
      refine g_isub X dX5_reckon_51 ?_
      refine r_l_value X dX5_reckon_52 ?_
      intro v8
      refine g_istore_n (lv' := [(2, .int v8), (0, .ref (q 34)), (1, .int x1)]) X dX5_reckon_53 rfl (by decide) rfl ?_
      refine g_aload_n X dX5_reckon_54 rfl rfl ?_
      refine r_g_value X dX5_reckon_55 ?_
      refine g_aload_n X dX5_reckon_58 rfl rfl ?_
      refine r_g_top X dX5_reckon_59 ?_
      intro v9
      refine r_l_value X dX5_reckon_62 ?_
      intro v10
      refine g_istore_n (lv' := [(3, .int v10), (2, .int v8), (0, .ref (q 34)), (1, .int x1)]) X dX5_reckon_63 rfl (by decide) rfl ?_
      refine g_iload_n X dX5_reckon_64 rfl rfl ?_
      refine g_bipush (v := (11 : Int32)) X dX5_reckon_65 (by decide) ?_
      refine g_icmp_ne (tgt := 80) X dX5_reckon_67 (by decide) ?_ ?_
      · exact g_pick [2, 3, 1, 0] rfl (wR_reckon_b80 X n x1 v8 v10 M2)
      · refine g_iload_n X dX5_reckon_70 rfl rfl ?_
        refine g_if_ne (tgt := 80) X dX5_reckon_71 (by decide) ?_ ?_
        · exact g_pick [2, 3, 1, 0] rfl (wR_reckon_b80 X n x1 v8 v10 M2)
        · refine g_aload_n X dX5_reckon_74 rfl rfl ?_
          refine g_iconst (v := (2 : Int32)) X dX5_reckon_75 (by decide) ?_
          refine k_fail X ⟨Nat.le_of_ble_eq_true rfl, Nat.le_of_ble_eq_true rfl⟩ (Nat.le_of_ble_eq_true rfl) dX5_reckon_76 ?_
          intro v11 M11
          exact r_vret X dX5_reckon_79
    · exact g_pick [0] rfl (wR_reckon_b36 X n M2)
theorem tc_reckon : Cond.code yX5_reckon cX5_reckon 4 none ∈ tt := tt_in (List.mem_of_getElem? (i := 1043) (by decide +kernel)) (by decide +kernel)
theorem tl_reckon : Cond.methodLink RX5 192 yX5_reckon ∈ tt := tt_in (List.mem_of_getElem? (i := 1040) (by decide +kernel)) (by decide +kernel)
theorem ti_reckon : Cond.instanceMethod yX5_reckon ∈ tt := tt_in (List.mem_of_getElem? (i := 1042) (by decide +kernel)) (by decide +kernel)
theorem te_reckon : Cond.selects RX5 yX5_reckon yX5_reckon ∈ tt := tt_in (List.mem_of_getElem? (i := 71) (by decide +kernel)) (by decide +kernel)
theorem k_reckon (X : gX p s m args meth c cc nL RX5 rt D (tyR cI cZ)) {n : Nat} {x1 : Int32} {M : MR} {rest : List Value} {K : Int32 → MR → Option ρ} (hR : 2 + 1 ≤ R.frames ∧ 8 + (4 + 11) + 42 ≤ R.locals) (hcat : (rest.map fun v => v.category).sum ≤ 8) (d : decode cc pc = .ok (.invokevirtual 192, 3)) (kk : ∀ v M1, gG p l e R s m args below meth c nL (ZR D cI cZ q (AR q s.heap.size) s.heap M1) 0 0 QQ (pc + 3) lv (rest) (K v M1)) : gG p l e R s m args below meth c nL (ZR D cI cZ q (AR q s.heap.size) s.heap M) 0 0 QQ pc lv (.int x1 :: .ref (q 34) :: rest) (bnd (fR_reckon n x1 M) K) := r_callVv (As := [.int x1]) X (c_reckon l D cI cZ q n x1 M) (cwVR (k := 1) X.2.2.2.2.1 tl_reckon ti_reckon te_reckon tc_reckon ini5 (by decide +kernel) hR) rfl rfl hcat d kk
-- choose
def fR_choose_b57 (n : Nat) (s0 : Int32) (M : MR) : Option (Int32 × MR) :=
    gf M 12 fun v1 =>
    rd M 10 2000 s0 fun v2 =>
    wz M 10 2000 (v1 - (1 : Int32)) v2 fun M3 =>
    gf M3 12 fun v4 =>
    rd M3 11 2000 s0 fun v5 =>
    wr M3 11 2000 (v4 - (1 : Int32)) v5 fun M6 =>
    some (0, M6)
theorem wR_choose_b57 (X : gX p s m args meth c cX5_choose 2 RX5 none D (tyR cI cZ)) (n : Nat) (s0 : Int32) (M : MR) : gG p l e (rmR 2 42) s m args below meth c 2 (ZR D cI cZ q (AR q s.heap.size) s.heap M) 0 0 (fun r => MQ below (QV D cI cZ q s.heap.size r) args s 0 0 (AR q s.heap.size)) 57 [(0, .ref (q 34))] [.int s0] (fR_choose_b57 n s0 M) := by
  unfold fR_choose_b57
  refine g_istore_n (lv' := [(1, .int s0), (0, .ref (q 34))]) X dX5_choose_57 rfl (by decide) rfl ?_
  refine g_aload_n X dX5_choose_58 rfl rfl ?_
  refine r_g_isObj X dX5_choose_59 ?_
  refine g_aload_n X dX5_choose_62 rfl rfl ?_
  refine r_g_top X dX5_choose_63 ?_
  intro v1
  refine g_iconst (v := (1 : Int32)) X dX5_choose_66 (by decide) ?_
  refine g_isub X dX5_choose_67 ?_
  refine g_aload_n X dX5_choose_68 rfl rfl ?_
  refine r_g_isObj X dX5_choose_69 ?_
  refine g_iload_n X dX5_choose_72 rfl rfl ?_
  refine r_l_isObj X dX5_choose_73 ?_
  intro v2
  refine r_s_isObj X dX5_choose_74 ?_
  intro M3
  refine g_aload_n X dX5_choose_75 rfl rfl ?_
  refine r_g_value X dX5_choose_76 ?_
  refine g_aload_n X dX5_choose_79 rfl rfl ?_
  refine r_g_top X dX5_choose_80 ?_
  intro v4
  refine g_iconst (v := (1 : Int32)) X dX5_choose_83 (by decide) ?_
  refine g_isub X dX5_choose_84 ?_
  refine g_aload_n X dX5_choose_85 rfl rfl ?_
  refine r_g_value X dX5_choose_86 ?_
  refine g_iload_n X dX5_choose_89 rfl rfl ?_
  refine r_l_value X dX5_choose_90 ?_
  intro v5
  refine r_s_value X dX5_choose_91 ?_
  intro M6
  exact r_vret X dX5_choose_92
def fR_choose (n : Nat) (M : MR) : Option (Int32 × MR) :=
    gf M 12 fun v1 =>
    pf M 12 (v1 - (2 : Int32)) fun M2 =>
    gf M2 12 fun v3 =>
    rd M2 10 2000 (v3 - (1 : Int32)) fun v4 =>
    if v4 = 0 then
      (gf M2 12 fun v5 =>
      rd M2 11 2000 (v5 - (1 : Int32)) fun v6 =>
      if v6 = 0 then
        (gf M2 12 fun v7 =>
        fR_choose_b57 n (v7 + (1 : Int32)) M2)
      else
        (gf M2 12 fun v8 =>
        fR_choose_b57 n v8 M2))
    else
      (bnd (fR_fail n (1 : Int32) M2) fun _ M9 =>
      some (0, M9))
theorem c_choose (l : Launch) (D : va_G) (cI cZ : ClassId) (q : Nat → Nat) (n : Nat) (M : MR) : MetR l D cI cZ q yX5_choose cX5_choose 2 none 2 42 QV [.ref (q 34)] M (fR_choose n M) := by
  refine MetR.of (by decide) rfl (Nat.le_of_ble_eq_true rfl) ?_
  intro p e s m args below meth c X
  unfold fR_choose
  refine g_pick (lv' := [(0, .ref (q 34))]) [0] rfl ?_
  refine g_aload_n X dX5_choose_0 rfl rfl ?_
  refine g_dup X dX5_choose_1 rfl ?_
  refine r_g_top X dX5_choose_2 ?_
  intro v1
  refine g_iconst (v := (2 : Int32)) X dX5_choose_5 (by decide) ?_
  refine g_isub X dX5_choose_6 ?_
  refine r_p_top X dX5_choose_7 ?_
  intro M2
  refine g_aload_n X dX5_choose_10 rfl rfl ?_
  refine r_g_isObj X dX5_choose_11 ?_
  refine g_aload_n X dX5_choose_14 rfl rfl ?_
  refine r_g_top X dX5_choose_15 ?_
  intro v3
  refine g_iconst (v := (1 : Int32)) X dX5_choose_18 (by decide) ?_
  refine g_isub X dX5_choose_19 ?_
  refine r_l_isObj X dX5_choose_20 ?_
  intro v4
  refine g_if_eq (tgt := 30) X dX5_choose_21 (by decide) ?_ ?_
  · refine g_aload_n X dX5_choose_30 rfl rfl ?_
    refine r_g_value X dX5_choose_31 ?_
    refine g_aload_n X dX5_choose_34 rfl rfl ?_
    refine r_g_top X dX5_choose_35 ?_
    intro v5
    refine g_iconst (v := (1 : Int32)) X dX5_choose_38 (by decide) ?_
    refine g_isub X dX5_choose_39 ?_
    refine r_l_value X dX5_choose_40 ?_
    intro v6
    refine g_if_eq (tgt := 51) X dX5_choose_41 (by decide) ?_ ?_
    · refine g_aload_n X dX5_choose_51 rfl rfl ?_
      refine r_g_top X dX5_choose_52 ?_
      intro v7
      refine g_iconst (v := (1 : Int32)) X dX5_choose_55 (by decide) ?_
      refine g_iadd X dX5_choose_56 ?_
      exact g_pick [0] rfl (wR_choose_b57 X n (v7 + (1 : Int32)) M2)
    · refine g_aload_n X dX5_choose_44 rfl rfl ?_
      refine r_g_top X dX5_choose_45 ?_
      intro v8
      refine g_goto (tgt := 57) X dX5_choose_48 (by decide) ?_
      exact g_pick [0] rfl (wR_choose_b57 X n v8 M2)
  · refine g_aload_n X dX5_choose_24 rfl rfl ?_
    refine g_iconst (v := (1 : Int32)) X dX5_choose_25 (by decide) ?_
    refine k_fail X ⟨Nat.le_of_ble_eq_true rfl, Nat.le_of_ble_eq_true rfl⟩ (Nat.le_of_ble_eq_true rfl) dX5_choose_26 ?_
    intro v9 M9
    exact r_vret X dX5_choose_29
theorem tc_choose : Cond.code yX5_choose cX5_choose 2 none ∈ tt := tt_in (List.mem_of_getElem? (i := 1047) (by decide +kernel)) (by decide +kernel)
theorem tl_choose : Cond.methodLink RX5 195 yX5_choose ∈ tt := tt_in (List.mem_of_getElem? (i := 1044) (by decide +kernel)) (by decide +kernel)
theorem ti_choose : Cond.instanceMethod yX5_choose ∈ tt := tt_in (List.mem_of_getElem? (i := 1046) (by decide +kernel)) (by decide +kernel)
theorem te_choose : Cond.selects RX5 yX5_choose yX5_choose ∈ tt := tt_in (List.mem_of_getElem? (i := 72) (by decide +kernel)) (by decide +kernel)
theorem k_choose (X : gX p s m args meth c cc nL RX5 rt D (tyR cI cZ)) {n : Nat} {M : MR} {rest : List Value} {K : Int32 → MR → Option ρ} (hR : 2 + 1 ≤ R.frames ∧ 8 + (2 + 11) + 42 ≤ R.locals) (hcat : (rest.map fun v => v.category).sum ≤ 8) (d : decode cc pc = .ok (.invokevirtual 195, 3)) (kk : ∀ v M1, gG p l e R s m args below meth c nL (ZR D cI cZ q (AR q s.heap.size) s.heap M1) 0 0 QQ (pc + 3) lv (rest) (K v M1)) : gG p l e R s m args below meth c nL (ZR D cI cZ q (AR q s.heap.size) s.heap M) 0 0 QQ pc lv (.ref (q 34) :: rest) (bnd (fR_choose n M) K) := r_callVv (As := []) X (c_choose l D cI cZ q n M) (cwVR (k := 0) X.2.2.2.2.1 tl_choose ti_choose te_choose tc_choose ini5 (by decide +kernel) hR) rfl rfl hcat d kk
-- write
def fR_write_b49 (n : Nat) (M : MR) : Option (Int32 × MR) :=
    gf M 25 fun v1 =>
    pf M 25 (v1 + (1 : Int32)) fun M2 =>
    some (0, M2)
theorem wR_write_b49 (X : gX p s m args meth c cX5_write 1 RX5 none D (tyR cI cZ)) (n : Nat) (M : MR) : gG p l e (rmR 0 0) s m args below meth c 1 (ZR D cI cZ q (AR q s.heap.size) s.heap M) 0 0 (fun r => MQ below (QV D cI cZ q s.heap.size r) args s 0 0 (AR q s.heap.size)) 49 [(0, .ref (q 34))] [] (fR_write_b49 n M) := by
  unfold fR_write_b49
  refine g_aload_n X dX5_write_49 rfl rfl ?_
  refine g_dup X dX5_write_50 rfl ?_
  refine r_g_wrote X dX5_write_51 ?_
  intro v1
  refine g_iconst (v := (1 : Int32)) X dX5_write_54 (by decide) ?_
  refine g_iadd X dX5_write_55 ?_
  refine r_p_wrote X dX5_write_56 ?_
  intro M2
  exact r_vret X dX5_write_59
def fR_write (n : Nat) (M : MR) : Option (Int32 × MR) :=
    gf M 25 fun v1 =>
    if (20 : Int32) ≤ v1 then
      (fR_write_b49 n M)
    else
      (gf M 25 fun v2 =>
      gf M 12 fun v3 =>
      rd M 10 2000 (v3 - (1 : Int32)) fun v4 =>
      wz M 26 20 v2 v4 fun M5 =>
      gf M5 25 fun v6 =>
      gf M5 12 fun v7 =>
      rd M5 11 2000 (v7 - (1 : Int32)) fun v8 =>
      wr M5 27 20 v6 v8 fun M9 =>
      fR_write_b49 n M9)
theorem c_write (l : Launch) (D : va_G) (cI cZ : ClassId) (q : Nat → Nat) (n : Nat) (M : MR) : MetR l D cI cZ q yX5_write cX5_write 1 none 0 0 QV [.ref (q 34)] M (fR_write n M) := by
  refine MetR.of (by decide) rfl (Nat.le_of_ble_eq_true rfl) ?_
  intro p e s m args below meth c X
  unfold fR_write
  refine g_pick (lv' := [(0, .ref (q 34))]) [0] rfl ?_
  refine g_aload_n X dX5_write_0 rfl rfl ?_
  refine r_g_wrote X dX5_write_1 ?_
  intro v1
  refine g_bipush (v := (20 : Int32)) X dX5_write_4 (by decide) ?_
  refine g_icmp_ge (tgt := 49) X dX5_write_6 (by decide) ?_ ?_
  · exact g_pick [0] rfl (wR_write_b49 X n M)
  · refine g_aload_n X dX5_write_9 rfl rfl ?_
    refine r_g_isWrittenObj X dX5_write_10 ?_
    refine g_aload_n X dX5_write_13 rfl rfl ?_
    refine r_g_wrote X dX5_write_14 ?_
    intro v2
    refine g_aload_n X dX5_write_17 rfl rfl ?_
    refine r_g_isObj X dX5_write_18 ?_
    refine g_aload_n X dX5_write_21 rfl rfl ?_
    refine r_g_top X dX5_write_22 ?_
    intro v3
    refine g_iconst (v := (1 : Int32)) X dX5_write_25 (by decide) ?_
    refine g_isub X dX5_write_26 ?_
    refine r_l_isObj X dX5_write_27 ?_
    intro v4
    refine r_s_isWrittenObj X dX5_write_28 ?_
    intro M5
    refine g_aload_n X dX5_write_29 rfl rfl ?_
    refine r_g_writtenValue X dX5_write_30 ?_
    refine g_aload_n X dX5_write_33 rfl rfl ?_
    refine r_g_wrote X dX5_write_34 ?_
    intro v6
    refine g_aload_n X dX5_write_37 rfl rfl ?_
    refine r_g_value X dX5_write_38 ?_
    refine g_aload_n X dX5_write_41 rfl rfl ?_
    refine r_g_top X dX5_write_42 ?_
    intro v7
    refine g_iconst (v := (1 : Int32)) X dX5_write_45 (by decide) ?_
    refine g_isub X dX5_write_46 ?_
    refine r_l_value X dX5_write_47 ?_
    intro v8
    refine r_s_writtenValue X dX5_write_48 ?_
    intro M9
    exact g_pick [0] rfl (wR_write_b49 X n M9)
theorem tc_write : Cond.code yX5_write cX5_write 1 none ∈ tt := tt_in (List.mem_of_getElem? (i := 1051) (by decide +kernel)) (by decide +kernel)
theorem tl_write : Cond.methodLink RX5 198 yX5_write ∈ tt := tt_in (List.mem_of_getElem? (i := 1048) (by decide +kernel)) (by decide +kernel)
theorem ti_write : Cond.instanceMethod yX5_write ∈ tt := tt_in (List.mem_of_getElem? (i := 1050) (by decide +kernel)) (by decide +kernel)
theorem te_write : Cond.selects RX5 yX5_write yX5_write ∈ tt := tt_in (List.mem_of_getElem? (i := 73) (by decide +kernel)) (by decide +kernel)
theorem k_write (X : gX p s m args meth c cc nL RX5 rt D (tyR cI cZ)) {n : Nat} {M : MR} {rest : List Value} {K : Int32 → MR → Option ρ} (hR : 0 + 1 ≤ R.frames ∧ 8 + (1 + 11) + 0 ≤ R.locals) (hcat : (rest.map fun v => v.category).sum ≤ 8) (d : decode cc pc = .ok (.invokevirtual 198, 3)) (kk : ∀ v M1, gG p l e R s m args below meth c nL (ZR D cI cZ q (AR q s.heap.size) s.heap M1) 0 0 QQ (pc + 3) lv (rest) (K v M1)) : gG p l e R s m args below meth c nL (ZR D cI cZ q (AR q s.heap.size) s.heap M) 0 0 QQ pc lv (.ref (q 34) :: rest) (bnd (fR_write n M) K) := r_callVv (As := []) X (c_write l D cI cZ q n M) (cwVR (k := 0) X.2.2.2.2.1 tl_write ti_write te_write tc_write ini5 (by decide +kernel) hR) rfl rfl hcat d kk
-- start
def fR_start_b31 (n : Nat) (x1 : Int32) (x2 : Int32) (M : MR) : Option (Int32 × MR) :=
    bnd (fR_editAt n x1 M) fun v1 M1 =>
    wr M1 0 62610 (v1 + (5 : Int32)) (1 : Int32) fun M2 =>
    zt (1 : Int32) (pf M2 22 (1 : Int32) fun M3 =>
    bnd (fR_lengthOf n x1 M3) fun v4 M4 =>
    if v4 ≤ x2 then
      (some (0, M4))
    else
      (zt (0 : Int32) (pf M4 22 (0 : Int32) fun M5 =>
      bnd (fR_lengthOf n x1 M5) fun v6 M6 =>
      bnd (fR_frame n x1 x2 v6 (-1 : Int32) x1 M6) fun _ M7 =>
      some (0, M7))))
theorem wR_start_b31 (X : gX p s m args meth c cX5_start 3 RX5 none D (tyR cI cZ)) (n : Nat) (x1 : Int32) (x2 : Int32) (M : MR) : gG p l e (rmR 5 108) s m args below meth c 3 (ZR D cI cZ q (AR q s.heap.size) s.heap M) 0 0 (fun r => MQ below (QV D cI cZ q s.heap.size r) args s 0 0 (AR q s.heap.size)) 31 [(0, .ref (q 34)), (1, .int x1), (2, .int x2)] [] (fR_start_b31 n x1 x2 M) := by
  unfold fR_start_b31
  refine g_aload_n X dX5_start_31 rfl rfl ?_
  refine r_g_m X dX5_start_32 ?_
  refine g_iload_n X dX5_start_35 rfl rfl ?_
  refine k_editAt X ⟨Nat.le_of_ble_eq_true rfl, Nat.le_of_ble_eq_true rfl⟩ (Nat.le_of_ble_eq_true rfl) dX5_start_36 ?_
  intro v1 M1
  refine g_iconst (v := (5 : Int32)) X dX5_start_39 (by decide) ?_
  refine g_iadd X dX5_start_40 ?_
  refine g_iconst (v := (1 : Int32)) X dX5_start_41 (by decide) ?_
  refine r_s_m X dX5_start_42 ?_
  intro M2
  refine g_aload_n X dX5_start_43 rfl rfl ?_
  refine g_iconst (v := (1 : Int32)) X dX5_start_44 (by decide) ?_
  refine r_p_again X dX5_start_45 ?_
  intro M3
  refine g_iload_n X dX5_start_48 rfl rfl ?_
  refine g_aload_n X dX5_start_49 rfl rfl ?_
  refine g_iload_n X dX5_start_50 rfl rfl ?_
  refine k_lengthOf X ⟨Nat.le_of_ble_eq_true rfl, Nat.le_of_ble_eq_true rfl⟩ (Nat.le_of_ble_eq_true rfl) dX5_start_51 ?_
  intro v4 M4
  refine g_icmp_ge (tgt := 75) X dX5_start_54 (by decide) ?_ ?_
  · exact r_vret X dX5_start_75
  · refine g_aload_n X dX5_start_57 rfl rfl ?_
    refine g_iconst (v := (0 : Int32)) X dX5_start_58 (by decide) ?_
    refine r_p_again X dX5_start_59 ?_
    intro M5
    refine g_aload_n X dX5_start_62 rfl rfl ?_
    refine g_iload_n X dX5_start_63 rfl rfl ?_
    refine g_iload_n X dX5_start_64 rfl rfl ?_
    refine g_aload_n X dX5_start_65 rfl rfl ?_
    refine g_iload_n X dX5_start_66 rfl rfl ?_
    refine k_lengthOf X ⟨Nat.le_of_ble_eq_true rfl, Nat.le_of_ble_eq_true rfl⟩ (Nat.le_of_ble_eq_true rfl) dX5_start_67 ?_
    intro v6 M6
    refine g_iconst (v := (-1 : Int32)) X dX5_start_70 (by decide) ?_
    refine g_iload_n X dX5_start_71 rfl rfl ?_
    refine k_frame X ⟨Nat.le_of_ble_eq_true rfl, Nat.le_of_ble_eq_true rfl⟩ (Nat.le_of_ble_eq_true rfl) dX5_start_72 ?_
    intro v7 M7
    exact r_vret X dX5_start_75
def fR_start (n : Nat) (x1 : Int32) (M : MR) : Option (Int32 × MR) :=
    bnd (fR_startPlace n x1 M) fun v1 M1 =>
    bnd (fR_lengthOf n x1 M1) fun v2 M2 =>
    if v2 ≤ v1 then
      (fR_start_b31 n x1 v1 M2)
    else
      (gf M2 21 fun v3 =>
      if v3 = (20 : Int32) then
        (bnd (fR_fail n (7 : Int32) M2) fun _ M4 =>
        some (0, M4))
      else
        (fR_start_b31 n x1 v1 M2))
theorem c_start (l : Launch) (D : va_G) (cI cZ : ClassId) (q : Nat → Nat) (n : Nat) (x1 : Int32) (M : MR) : MetR l D cI cZ q yX5_start cX5_start 3 none 5 108 QV [.ref (q 34), .int x1] M (fR_start n x1 M) := by
  refine MetR.of (by decide) rfl (Nat.le_of_ble_eq_true rfl) ?_
  intro p e s m args below meth c X
  unfold fR_start
  refine g_pick (lv' := [(0, .ref (q 34)), (1, .int x1)]) [0, 1] rfl ?_
  refine g_aload_n X dX5_start_0 rfl rfl ?_
  refine g_iload_n X dX5_start_1 rfl rfl ?_
  refine k_startPlace X ⟨Nat.le_of_ble_eq_true rfl, Nat.le_of_ble_eq_true rfl⟩ (Nat.le_of_ble_eq_true rfl) dX5_start_2 ?_
  intro v1 M1
  refine g_istore_n (lv' := [(2, .int v1), (0, .ref (q 34)), (1, .int x1)]) X dX5_start_5 rfl (by decide) rfl ?_
  refine g_iload_n X dX5_start_6 rfl rfl ?_
  refine g_aload_n X dX5_start_7 rfl rfl ?_
  refine g_iload_n X dX5_start_8 rfl rfl ?_
  refine k_lengthOf X ⟨Nat.le_of_ble_eq_true rfl, Nat.le_of_ble_eq_true rfl⟩ (Nat.le_of_ble_eq_true rfl) dX5_start_9 ?_
  intro v2 M2
  refine g_icmp_ge (tgt := 31) X dX5_start_12 (by decide) ?_ ?_
  · exact g_pick [1, 2, 0] rfl (wR_start_b31 X n x1 v1 M2)
  · refine g_aload_n X dX5_start_15 rfl rfl ?_
    refine r_g_inner X dX5_start_16 ?_
    intro v3
    refine g_bipush (v := (20 : Int32)) X dX5_start_19 (by decide) ?_
    refine g_icmp_ne (tgt := 31) X dX5_start_21 (by decide) ?_ ?_
    · exact g_pick [1, 2, 0] rfl (wR_start_b31 X n x1 v1 M2)
    · refine g_aload_n X dX5_start_24 rfl rfl ?_
      refine g_bipush (v := (7 : Int32)) X dX5_start_25 (by decide) ?_
      refine k_fail X ⟨Nat.le_of_ble_eq_true rfl, Nat.le_of_ble_eq_true rfl⟩ (Nat.le_of_ble_eq_true rfl) dX5_start_27 ?_
      intro v4 M4
      exact r_vret X dX5_start_30
theorem tc_start : Cond.code yX5_start cX5_start 3 none ∈ tt := tt_in (List.mem_of_getElem? (i := 988) (by decide +kernel)) (by decide +kernel)
theorem tl_start : Cond.methodLink RX5 218 yX5_start ∈ tt := tt_in (List.mem_of_getElem? (i := 985) (by decide +kernel)) (by decide +kernel)
theorem ti_start : Cond.instanceMethod yX5_start ∈ tt := tt_in (List.mem_of_getElem? (i := 987) (by decide +kernel)) (by decide +kernel)
theorem te_start : Cond.selects RX5 yX5_start yX5_start ∈ tt := tt_in (List.mem_of_getElem? (i := 58) (by decide +kernel)) (by decide +kernel)
theorem k_start (X : gX p s m args meth c cc nL RX5 rt D (tyR cI cZ)) {n : Nat} {x1 : Int32} {M : MR} {rest : List Value} {K : Int32 → MR → Option ρ} (hR : 5 + 1 ≤ R.frames ∧ 8 + (3 + 11) + 108 ≤ R.locals) (hcat : (rest.map fun v => v.category).sum ≤ 8) (d : decode cc pc = .ok (.invokevirtual 218, 3)) (kk : ∀ v M1, gG p l e R s m args below meth c nL (ZR D cI cZ q (AR q s.heap.size) s.heap M1) 0 0 QQ (pc + 3) lv (rest) (K v M1)) : gG p l e R s m args below meth c nL (ZR D cI cZ q (AR q s.heap.size) s.heap M) 0 0 QQ pc lv (.int x1 :: .ref (q 34) :: rest) (bnd (fR_start n x1 M) K) := r_callVv (As := [.int x1]) X (c_start l D cI cZ q n x1 M) (cwVR (k := 1) X.2.2.2.2.1 tl_start ti_start te_start tc_start ini5 (by decide +kernel) hR) rfl rfl hcat d kk
-- make
def fR_make_b62 (n : Nat) (k7 : Int32 → Int32 → Int32 → Int32 → MR → Option (Int32 × MR)) (x1 : Int32) (x3 : Int32) (x4 : Int32) (s0 : Int32) (M : MR) : Option (Int32 × MR) :=
    bnd (fR_parentOf n x4 M) fun v1 M1 =>
    k7 x1 s0 x3 v1 M1
theorem wR_make_b62 (X : gX p s m args meth c cX5_make 6 RX5 none D (tyR cI cZ)) (n : Nat) (k7 : Int32 → Int32 → Int32 → Int32 → MR → Option (Int32 × MR)) (hk7 : ∀ (x1 : Int32) (x2 : Int32) (x3 : Int32) (x4 : Int32) (M : MR), gG p l e (rmR 6 130) s m args below meth c 6 (ZR D cI cZ q (AR q s.heap.size) s.heap M) 0 0 (fun r => MQ below (QV D cI cZ q s.heap.size r) args s 0 0 (AR q s.heap.size)) 7 [(0, .ref (q 34)), (1, .int x1), (2, .int x2), (3, .int x3), (4, .int x4)] [] (k7 x1 x2 x3 x4 M)) (x1 : Int32) (x3 : Int32) (x4 : Int32) (s0 : Int32) (M : MR) : gG p l e (rmR 6 130) s m args below meth c 6 (ZR D cI cZ q (AR q s.heap.size) s.heap M) 0 0 (fun r => MQ below (QV D cI cZ q s.heap.size r) args s 0 0 (AR q s.heap.size)) 62 [(0, .ref (q 34)), (1, .int x1), (3, .int x3), (4, .int x4)] [.int s0] (fR_make_b62 n k7 x1 x3 x4 s0 M) := by
  unfold fR_make_b62
  refine g_istore_n (lv' := [(2, .int s0), (0, .ref (q 34)), (1, .int x1), (3, .int x3), (4, .int x4)]) X dX5_make_62 rfl (by decide) rfl ?_
  refine g_aload_n X dX5_make_63 rfl rfl ?_
  refine g_iload X dX5_make_64 rfl ?_
  refine k_parentOf X ⟨Nat.le_of_ble_eq_true rfl, Nat.le_of_ble_eq_true rfl⟩ (Nat.le_of_ble_eq_true rfl) dX5_make_66 ?_
  intro v1 M1
  refine g_istore (lv' := [(4, .int v1), (2, .int s0), (0, .ref (q 34)), (1, .int x1), (3, .int x3)]) X dX5_make_69 (by decide) rfl ?_
  refine g_goto (tgt := 7) X dX5_make_71 (by decide) ?_
  exact g_pick [2, 3, 1, 4, 0] rfl (hk7 x1 s0 x3 v1 M1)
def fR_make_b50 (n : Nat) (k7 : Int32 → Int32 → Int32 → Int32 → MR → Option (Int32 × MR)) (x1 : Int32) (x2 : Int32) (x4 : Int32) (s0 : Int32) (s1 : Int32) (M : MR) : Option (Int32 × MR) :=
    if (s0 &&& s1) = 0 then (fR_make_b62 n k7 x1 (s0 &&& s1) x4 x2 M) else (fR_make_b62 n k7 x1 (s0 &&& s1) x4 x4 M)
theorem wR_make_b50 (X : gX p s m args meth c cX5_make 6 RX5 none D (tyR cI cZ)) (n : Nat) (k7 : Int32 → Int32 → Int32 → Int32 → MR → Option (Int32 × MR)) (hk7 : ∀ (x1 : Int32) (x2 : Int32) (x3 : Int32) (x4 : Int32) (M : MR), gG p l e (rmR 6 130) s m args below meth c 6 (ZR D cI cZ q (AR q s.heap.size) s.heap M) 0 0 (fun r => MQ below (QV D cI cZ q s.heap.size r) args s 0 0 (AR q s.heap.size)) 7 [(0, .ref (q 34)), (1, .int x1), (2, .int x2), (3, .int x3), (4, .int x4)] [] (k7 x1 x2 x3 x4 M)) (x1 : Int32) (x2 : Int32) (x4 : Int32) (s0 : Int32) (s1 : Int32) (M : MR) : gG p l e (rmR 6 130) s m args below meth c 6 (ZR D cI cZ q (AR q s.heap.size) s.heap M) 0 0 (fun r => MQ below (QV D cI cZ q s.heap.size r) args s 0 0 (AR q s.heap.size)) 50 [(0, .ref (q 34)), (1, .int x1), (2, .int x2), (4, .int x4)] [.int s1, .int s0] (fR_make_b50 n k7 x1 x2 x4 s0 s1 M) := by
  unfold fR_make_b50
  refine g_iand X dX5_make_50 ?_
  refine g_istore_n (lv' := [(3, .int (s0 &&& s1)), (0, .ref (q 34)), (1, .int x1), (2, .int x2), (4, .int x4)]) X dX5_make_51 rfl (by decide) rfl ?_
  refine g_iload_n X dX5_make_52 rfl rfl ?_
  refine g_if_eq (tgt := 61) X dX5_make_53 (by decide) ?_ ?_
  · refine g_iload_n X dX5_make_61 rfl rfl ?_
    exact g_pick [1, 2, 0, 4] rfl (wR_make_b62 X n k7 hk7 x1 (s0 &&& s1) x4 x2 M)
  · refine g_iload X dX5_make_56 rfl ?_
    refine g_goto (tgt := 62) X dX5_make_58 (by decide) ?_
    exact g_pick [1, 2, 0, 4] rfl (wR_make_b62 X n k7 hk7 x1 (s0 &&& s1) x4 x4 M)
def fR_make_l7 (n : Nat) : Nat → Int32 → Int32 → Int32 → Int32 → MR → Option (Int32 × MR)
  | 0, _, _, _, _, _ => none
  | k + 1, x1, x2, x3, x4, M => if x4 < 0 then
      (if x2 < 0 then
        (rd M 0 62610 (2 : Int32) fun v1 =>
        if v1 = (150 : Int32) then
          (bnd (fR_fail n (8 : Int32) M) fun _ M7 =>
          some (0, M7))
        else
          (gf M 20 fun v2 =>
          rd M 14 22 (v2 - (1 : Int32)) fun v3 =>
          wr M 14 22 (v2 - (1 : Int32)) (v3 + (2 : Int32)) fun M4 =>
          bnd (fR_newObject n x1 M4) fun v5 M5 =>
          bnd (fR_push n (1 : Int32) v5 M5) fun _ M6 =>
          some (0, M6)))
      else
        (bnd (fR_start n x2 M) fun _ M8 =>
        some (0, M8)))
    else
      (bnd (fR_editAt n x4 M) fun v9 M9 =>
      rd M9 0 62610 (v9 + (5 : Int32)) fun v10 =>
      if v10 = (2 : Int32) then
        (bnd (fR_fail n (6 : Int32) M9) fun _ M11 =>
        some (0, M11))
      else
        (if v10 = 0 then
          (fR_make_b50 n (fR_make_l7 n k) x1 x2 x4 x3 (1 : Int32) M9)
        else
          (fR_make_b50 n (fR_make_l7 n k) x1 x2 x4 x3 (0 : Int32) M9)))
theorem wR_make_l7 (X : gX p s m args meth c cX5_make 6 RX5 none D (tyR cI cZ)) (n : Nat) : ∀ (k : Nat) (x1 : Int32) (x2 : Int32) (x3 : Int32) (x4 : Int32) (M : MR), gG p l e (rmR 6 130) s m args below meth c 6 (ZR D cI cZ q (AR q s.heap.size) s.heap M) 0 0 (fun r => MQ below (QV D cI cZ q s.heap.size r) args s 0 0 (AR q s.heap.size)) 7 [(0, .ref (q 34)), (1, .int x1), (2, .int x2), (3, .int x3), (4, .int x4)] [] (fR_make_l7 n k x1 x2 x3 x4 M) := by
  intro k
  induction k with
  | zero =>
    intro x1 x2 x3 x4 M
    exact g_none
  | succ k ih =>
    intro x1 x2 x3 x4 M
    rw [fR_make_l7]
    refine g_iload X dX5_make_7 rfl ?_
    refine g_if_lt (tgt := 74) X dX5_make_9 (by decide) ?_ ?_
    · refine g_iload_n X dX5_make_74 rfl rfl ?_
      refine g_if_lt (tgt := 86) X dX5_make_75 (by decide) ?_ ?_
      · refine g_aload_n X dX5_make_86 rfl rfl ?_
        refine r_g_m X dX5_make_87 ?_
        refine g_iconst (v := (2 : Int32)) X dX5_make_90 (by decide) ?_
        refine r_l_m X dX5_make_91 ?_
        intro v1
        refine g_sipush (v := (150 : Int32)) X dX5_make_92 (by decide) ?_
        refine g_icmp_ne (tgt := 107) X dX5_make_95 (by decide) ?_ ?_
        · refine g_aload_n X dX5_make_107 rfl rfl ?_
          refine r_g_place X dX5_make_108 ?_
          refine g_aload_n X dX5_make_111 rfl rfl ?_
          refine r_g_frames X dX5_make_112 ?_
          intro v2
          refine g_iconst (v := (1 : Int32)) X dX5_make_115 (by decide) ?_
          refine g_isub X dX5_make_116 ?_
          refine g_dup2 X dX5_make_117 rfl rfl ?_
          refine r_l_place X dX5_make_118 ?_
          intro v3
          refine g_iconst (v := (2 : Int32)) X dX5_make_119 (by decide) ?_
          refine g_iadd X dX5_make_120 ?_
          refine r_s_place X dX5_make_121 ?_
          intro M4
          refine g_aload_n X dX5_make_122 rfl rfl ?_
          refine g_iconst (v := (1 : Int32)) X dX5_make_123 (by decide) ?_
          refine g_aload_n X dX5_make_124 rfl rfl ?_
          refine g_iload_n X dX5_make_125 rfl rfl ?_
          refine k_newObject X ⟨Nat.le_of_ble_eq_true rfl, Nat.le_of_ble_eq_true rfl⟩ (Nat.le_of_ble_eq_true rfl) dX5_make_126 ?_
          intro v5 M5
          refine k_push X ⟨Nat.le_of_ble_eq_true rfl, Nat.le_of_ble_eq_true rfl⟩ (Nat.le_of_ble_eq_true rfl) dX5_make_129 ?_
          intro v6 M6
          exact r_vret X dX5_make_132
        · refine g_aload_n X dX5_make_98 rfl rfl ?_
          refine g_bipush (v := (8 : Int32)) X dX5_make_99 (by decide) ?_
          refine k_fail X ⟨Nat.le_of_ble_eq_true rfl, Nat.le_of_ble_eq_true rfl⟩ (Nat.le_of_ble_eq_true rfl) dX5_make_101 ?_
          intro v7 M7
          refine g_goto (tgt := 132) X dX5_make_104 (by decide) ?_
          exact r_vret X dX5_make_132
      · refine g_aload_n X dX5_make_78 rfl rfl ?_
        refine g_iload_n X dX5_make_79 rfl rfl ?_
        refine k_start X ⟨Nat.le_of_ble_eq_true rfl, Nat.le_of_ble_eq_true rfl⟩ (Nat.le_of_ble_eq_true rfl) dX5_make_80 ?_
        intro v8 M8
        refine g_goto (tgt := 132) X dX5_make_83 (by decide) ?_
        exact r_vret X dX5_make_132
    · refine g_aload_n X dX5_make_12 rfl rfl ?_
      refine r_g_m X dX5_make_13 ?_
      refine g_iload X dX5_make_16 rfl ?_
      refine k_editAt X ⟨Nat.le_of_ble_eq_true rfl, Nat.le_of_ble_eq_true rfl⟩ (Nat.le_of_ble_eq_true rfl) dX5_make_18 ?_
      intro v9 M9
      refine g_iconst (v := (5 : Int32)) X dX5_make_21 (by decide) ?_
      refine g_iadd X dX5_make_22 ?_
      refine r_l_m X dX5_make_23 ?_
      intro v10
      refine g_istore (lv' := [(5, .int v10), (0, .ref (q 34)), (1, .int x1), (2, .int x2), (3, .int x3), (4, .int x4)]) X dX5_make_24 (by decide) rfl ?_
      refine g_iload X dX5_make_26 rfl ?_
      refine g_iconst (v := (2 : Int32)) X dX5_make_28 (by decide) ?_
      refine g_icmp_ne (tgt := 39) X dX5_make_29 (by decide) ?_ ?_
      · refine g_iload_n X dX5_make_39 rfl rfl ?_
        refine g_iload X dX5_make_40 rfl ?_
        refine g_if_ne (tgt := 49) X dX5_make_42 (by decide) ?_ ?_
        · refine g_iconst (v := (0 : Int32)) X dX5_make_49 (by decide) ?_
          exact g_pick [1, 2, 3, 5] rfl (wR_make_b50 X n (fR_make_l7 n k) ih x1 x2 x4 x3 (0 : Int32) M9)
        · refine g_iconst (v := (1 : Int32)) X dX5_make_45 (by decide) ?_
          refine g_goto (tgt := 50) X dX5_make_46 (by decide) ?_
          exact g_pick [1, 2, 3, 5] rfl (wR_make_b50 X n (fR_make_l7 n k) ih x1 x2 x4 x3 (1 : Int32) M9)
      · refine g_aload_n X dX5_make_32 rfl rfl ?_
        refine g_bipush (v := (6 : Int32)) X dX5_make_33 (by decide) ?_
        refine k_fail X ⟨Nat.le_of_ble_eq_true rfl, Nat.le_of_ble_eq_true rfl⟩ (Nat.le_of_ble_eq_true rfl) dX5_make_35 ?_
        intro v11 M11
        exact r_vret X dX5_make_38
def fR_make (n : Nat) (x1 : Int32) (M : MR) : Option (Int32 × MR) :=
    fR_make_l7 n n x1 (-1 : Int32) (1 : Int32) x1 M
theorem c_make (l : Launch) (D : va_G) (cI cZ : ClassId) (q : Nat → Nat) (n : Nat) (x1 : Int32) (M : MR) : MetR l D cI cZ q yX5_make cX5_make 6 none 6 130 QV [.ref (q 34), .int x1] M (fR_make n x1 M) := by
  refine MetR.of (by decide) rfl (Nat.le_of_ble_eq_true rfl) ?_
  intro p e s m args below meth c X
  unfold fR_make
  refine g_pick (lv' := [(0, .ref (q 34)), (1, .int x1)]) [0, 1] rfl ?_
  refine g_iconst (v := (-1 : Int32)) X dX5_make_0 (by decide) ?_
  refine g_istore_n (lv' := [(2, .int (-1 : Int32)), (0, .ref (q 34)), (1, .int x1)]) X dX5_make_1 rfl (by decide) rfl ?_
  refine g_iconst (v := (1 : Int32)) X dX5_make_2 (by decide) ?_
  refine g_istore_n (lv' := [(3, .int (1 : Int32)), (2, .int (-1 : Int32)), (0, .ref (q 34)), (1, .int x1)]) X dX5_make_3 rfl (by decide) rfl ?_
  refine g_iload_n X dX5_make_4 rfl rfl ?_
  refine g_istore (lv' := [(4, .int x1), (3, .int (1 : Int32)), (2, .int (-1 : Int32)), (0, .ref (q 34)), (1, .int x1)]) X dX5_make_5 (by decide) rfl ?_
  exact g_pick [3, 4, 2, 1, 0] rfl (wR_make_l7 X n n x1 (-1 : Int32) (1 : Int32) x1 M)
theorem tc_make : Cond.code yX5_make cX5_make 6 none ∈ tt := tt_in (List.mem_of_getElem? (i := 980) (by decide +kernel)) (by decide +kernel)
theorem tl_make : Cond.methodLink RX5 178 yX5_make ∈ tt := tt_in (List.mem_of_getElem? (i := 977) (by decide +kernel)) (by decide +kernel)
theorem ti_make : Cond.instanceMethod yX5_make ∈ tt := tt_in (List.mem_of_getElem? (i := 979) (by decide +kernel)) (by decide +kernel)
theorem te_make : Cond.selects RX5 yX5_make yX5_make ∈ tt := tt_in (List.mem_of_getElem? (i := 56) (by decide +kernel)) (by decide +kernel)
theorem k_make (X : gX p s m args meth c cc nL RX5 rt D (tyR cI cZ)) {n : Nat} {x1 : Int32} {M : MR} {rest : List Value} {K : Int32 → MR → Option ρ} (hR : 6 + 1 ≤ R.frames ∧ 8 + (6 + 11) + 130 ≤ R.locals) (hcat : (rest.map fun v => v.category).sum ≤ 8) (d : decode cc pc = .ok (.invokevirtual 178, 3)) (kk : ∀ v M1, gG p l e R s m args below meth c nL (ZR D cI cZ q (AR q s.heap.size) s.heap M1) 0 0 QQ (pc + 3) lv (rest) (K v M1)) : gG p l e R s m args below meth c nL (ZR D cI cZ q (AR q s.heap.size) s.heap M) 0 0 QQ pc lv (.int x1 :: .ref (q 34) :: rest) (bnd (fR_make n x1 M) K) := r_callVv (As := [.int x1]) X (c_make l D cI cZ q n x1 M) (cwVR (k := 1) X.2.2.2.2.1 tl_make ti_make te_make tc_make ini5 (by decide +kernel) hR) rfl rfl hcat d kk
end RM
end
section
theorem dX5_act_0 : decode cX5_act 0 = .ok (.aload_n 0, 1) := by decide +kernel
theorem dX5_act_1 : decode cX5_act 1 = .ok (.getfield 150, 3) := by decide +kernel
theorem dX5_act_4 : decode cX5_act 4 = .ok (.iconst 1, 1) := by decide +kernel
theorem dX5_act_5 : decode cX5_act 5 = .ok (.isub, 1) := by decide +kernel
theorem dX5_act_6 : decode cX5_act 6 = .ok (.istore_n 1, 1) := by decide +kernel
theorem dX5_act_7 : decode cX5_act 7 = .ok (.aload_n 0, 1) := by decide +kernel
theorem dX5_act_8 : decode cX5_act 8 = .ok (.iconst 0, 1) := by decide +kernel
theorem dX5_act_9 : decode cX5_act 9 = .ok (.invokevirtual 175, 3) := by decide +kernel
theorem dX5_act_12 : decode cX5_act 12 = .ok (.istore_n 2, 1) := by decide +kernel
theorem dX5_act_13 : decode cX5_act 13 = .ok (.iload_n 2, 1) := by decide +kernel
theorem dX5_act_14 : decode cX5_act 14 = .ok (.bipush 7, 2) := by decide +kernel
theorem dX5_act_16 : decode cX5_act 16 = .ok (.if_icmp .gt 11, 3) := by decide +kernel
theorem dX5_act_19 : decode cX5_act 19 = .ok (.aload_n 0, 1) := by decide +kernel
theorem dX5_act_20 : decode cX5_act 20 = .ok (.iconst 1, 1) := by decide +kernel
theorem dX5_act_21 : decode cX5_act 21 = .ok (.invokevirtual 175, 3) := by decide +kernel
theorem dX5_act_24 : decode cX5_act 24 = .ok (.goto 4, 3) := by decide +kernel
theorem dX5_act_27 : decode cX5_act 27 = .ok (.iconst 0, 1) := by decide +kernel
theorem dX5_act_28 : decode cX5_act 28 = .ok (.istore_n 3, 1) := by decide +kernel
theorem dX5_act_29 : decode cX5_act 29 = .ok (.iload_n 2, 1) := by decide +kernel
theorem dX5_act_30 : decode cX5_act 30 = .ok (.iconst 2, 1) := by decide +kernel
theorem dX5_act_31 : decode cX5_act 31 = .ok (.if_icmp .ne 9, 3) := by decide +kernel
theorem dX5_act_34 : decode cX5_act 34 = .ok (.aload_n 0, 1) := by decide +kernel
theorem dX5_act_35 : decode cX5_act 35 = .ok (.iload_n 3, 1) := by decide +kernel
theorem dX5_act_36 : decode cX5_act 36 = .ok (.invokevirtual 178, 3) := by decide +kernel
theorem dX5_act_39 : decode cX5_act 39 = .ok (.return_, 1) := by decide +kernel
theorem dX5_act_40 : decode cX5_act 40 = .ok (.aload_n 0, 1) := by decide +kernel
theorem dX5_act_41 : decode cX5_act 41 = .ok (.getfield 39, 3) := by decide +kernel
theorem dX5_act_44 : decode cX5_act 44 = .ok (.iload_n 1, 1) := by decide +kernel
theorem dX5_act_45 : decode cX5_act 45 = .ok (.dup2, 1) := by decide +kernel
theorem dX5_act_46 : decode cX5_act 46 = .ok (.iaload, 1) := by decide +kernel
theorem dX5_act_47 : decode cX5_act 47 = .ok (.iload_n 2, 1) := by decide +kernel
theorem dX5_act_48 : decode cX5_act 48 = .ok (.bipush 7, 2) := by decide +kernel
theorem dX5_act_50 : decode cX5_act 50 = .ok (.if_icmp .gt 7, 3) := by decide +kernel
theorem dX5_act_53 : decode cX5_act 53 = .ok (.iconst 2, 1) := by decide +kernel
theorem dX5_act_54 : decode cX5_act 54 = .ok (.goto 4, 3) := by decide +kernel
theorem dX5_act_57 : decode cX5_act 57 = .ok (.iconst 1, 1) := by decide +kernel
theorem dX5_act_58 : decode cX5_act 58 = .ok (.iadd, 1) := by decide +kernel
theorem dX5_act_59 : decode cX5_act 59 = .ok (.iastore, 1) := by decide +kernel
theorem dX5_act_60 : decode cX5_act 60 = .ok (.iload_n 2, 1) := by decide +kernel
theorem dX5_act_61 : decode cX5_act 61 = .ok (.ifCond .ne 12, 3) := by decide +kernel
theorem dX5_act_64 : decode cX5_act 64 = .ok (.aload_n 0, 1) := by decide +kernel
theorem dX5_act_65 : decode cX5_act 65 = .ok (.iconst 0, 1) := by decide +kernel
theorem dX5_act_66 : decode cX5_act 66 = .ok (.iload_n 3, 1) := by decide +kernel
theorem dX5_act_67 : decode cX5_act 67 = .ok (.invokevirtual 181, 3) := by decide +kernel
theorem dX5_act_70 : decode cX5_act 70 = .ok (.goto 315, 3) := by decide +kernel
theorem dX5_act_73 : decode cX5_act 73 = .ok (.iload_n 2, 1) := by decide +kernel
theorem dX5_act_74 : decode cX5_act 74 = .ok (.iconst 1, 1) := by decide +kernel
theorem dX5_act_75 : decode cX5_act 75 = .ok (.if_icmp .ne 41, 3) := by decide +kernel
theorem dX5_act_78 : decode cX5_act 78 = .ok (.aload_n 0, 1) := by decide +kernel
theorem dX5_act_79 : decode cX5_act 79 = .ok (.aload_n 0, 1) := by decide +kernel
theorem dX5_act_80 : decode cX5_act 80 = .ok (.getfield 8, 3) := by decide +kernel
theorem dX5_act_83 : decode cX5_act 83 = .ok (.iload_n 3, 1) := by decide +kernel
theorem dX5_act_84 : decode cX5_act 84 = .ok (.invokestatic 73, 3) := by decide +kernel
theorem dX5_act_87 : decode cX5_act 87 = .ok (.iconst 3, 1) := by decide +kernel
theorem dX5_act_88 : decode cX5_act 88 = .ok (.iadd, 1) := by decide +kernel
theorem dX5_act_89 : decode cX5_act 89 = .ok (.iaload, 1) := by decide +kernel
theorem dX5_act_90 : decode cX5_act 90 = .ok (.iconst 1, 1) := by decide +kernel
theorem dX5_act_91 : decode cX5_act 91 = .ok (.if_icmp .ne 7, 3) := by decide +kernel
theorem dX5_act_94 : decode cX5_act 94 = .ok (.iconst 1, 1) := by decide +kernel
theorem dX5_act_95 : decode cX5_act 95 = .ok (.goto 4, 3) := by decide +kernel
theorem dX5_act_98 : decode cX5_act 98 = .ok (.iconst 0, 1) := by decide +kernel
theorem dX5_act_99 : decode cX5_act 99 = .ok (.aload_n 0, 1) := by decide +kernel
theorem dX5_act_100 : decode cX5_act 100 = .ok (.getfield 8, 3) := by decide +kernel
theorem dX5_act_103 : decode cX5_act 103 = .ok (.iload_n 3, 1) := by decide +kernel
theorem dX5_act_104 : decode cX5_act 104 = .ok (.invokestatic 73, 3) := by decide +kernel
theorem dX5_act_107 : decode cX5_act 107 = .ok (.iconst 4, 1) := by decide +kernel
theorem dX5_act_108 : decode cX5_act 108 = .ok (.iadd, 1) := by decide +kernel
theorem dX5_act_109 : decode cX5_act 109 = .ok (.iaload, 1) := by decide +kernel
theorem dX5_act_110 : decode cX5_act 110 = .ok (.invokevirtual 181, 3) := by decide +kernel
theorem dX5_act_113 : decode cX5_act 113 = .ok (.goto 272, 3) := by decide +kernel
theorem dX5_act_116 : decode cX5_act 116 = .ok (.iload_n 2, 1) := by decide +kernel
theorem dX5_act_117 : decode cX5_act 117 = .ok (.iconst 4, 1) := by decide +kernel
theorem dX5_act_118 : decode cX5_act 118 = .ok (.if_icmp .gt 12, 3) := by decide +kernel
theorem dX5_act_121 : decode cX5_act 121 = .ok (.aload_n 0, 1) := by decide +kernel
theorem dX5_act_122 : decode cX5_act 122 = .ok (.iload_n 2, 1) := by decide +kernel
theorem dX5_act_123 : decode cX5_act 123 = .ok (.iload_n 3, 1) := by decide +kernel
theorem dX5_act_124 : decode cX5_act 124 = .ok (.invokevirtual 185, 3) := by decide +kernel
theorem dX5_act_127 : decode cX5_act 127 = .ok (.goto 258, 3) := by decide +kernel
theorem dX5_act_130 : decode cX5_act 130 = .ok (.iload_n 2, 1) := by decide +kernel
theorem dX5_act_131 : decode cX5_act 131 = .ok (.bipush 7, 2) := by decide +kernel
theorem dX5_act_133 : decode cX5_act 133 = .ok (.if_icmp .gt 12, 3) := by decide +kernel
theorem dX5_act_136 : decode cX5_act 136 = .ok (.aload_n 0, 1) := by decide +kernel
theorem dX5_act_137 : decode cX5_act 137 = .ok (.iload_n 2, 1) := by decide +kernel
theorem dX5_act_138 : decode cX5_act 138 = .ok (.iload_n 3, 1) := by decide +kernel
theorem dX5_act_139 : decode cX5_act 139 = .ok (.invokevirtual 189, 3) := by decide +kernel
theorem dX5_act_142 : decode cX5_act 142 = .ok (.goto 243, 3) := by decide +kernel
theorem dX5_act_145 : decode cX5_act 145 = .ok (.iload_n 2, 1) := by decide +kernel
theorem dX5_act_146 : decode cX5_act 146 = .ok (.bipush 12, 2) := by decide +kernel
theorem dX5_act_148 : decode cX5_act 148 = .ok (.if_icmp .gt 11, 3) := by decide +kernel
theorem dX5_act_151 : decode cX5_act 151 = .ok (.aload_n 0, 1) := by decide +kernel
theorem dX5_act_152 : decode cX5_act 152 = .ok (.iload_n 2, 1) := by decide +kernel
theorem dX5_act_153 : decode cX5_act 153 = .ok (.invokevirtual 192, 3) := by decide +kernel
theorem dX5_act_156 : decode cX5_act 156 = .ok (.goto 229, 3) := by decide +kernel
theorem dX5_act_159 : decode cX5_act 159 = .ok (.iload_n 2, 1) := by decide +kernel
theorem dX5_act_160 : decode cX5_act 160 = .ok (.bipush 13, 2) := by decide +kernel
theorem dX5_act_162 : decode cX5_act 162 = .ok (.if_icmp .ne 102, 3) := by decide +kernel
theorem dX5_act_165 : decode cX5_act 165 = .ok (.aload_n 0, 1) := by decide +kernel
theorem dX5_act_166 : decode cX5_act 166 = .ok (.dup, 1) := by decide +kernel
theorem dX5_act_167 : decode cX5_act 167 = .ok (.getfield 147, 3) := by decide +kernel
theorem dX5_act_170 : decode cX5_act 170 = .ok (.iconst 1, 1) := by decide +kernel
theorem dX5_act_171 : decode cX5_act 171 = .ok (.isub, 1) := by decide +kernel
theorem dX5_act_172 : decode cX5_act 172 = .ok (.putfield 147, 3) := by decide +kernel
theorem dX5_act_175 : decode cX5_act 175 = .ok (.aload_n 0, 1) := by decide +kernel
theorem dX5_act_176 : decode cX5_act 176 = .ok (.getfield 30, 3) := by decide +kernel
theorem dX5_act_179 : decode cX5_act 179 = .ok (.aload_n 0, 1) := by decide +kernel
theorem dX5_act_180 : decode cX5_act 180 = .ok (.getfield 147, 3) := by decide +kernel
theorem dX5_act_183 : decode cX5_act 183 = .ok (.baload, 1) := by decide +kernel
theorem dX5_act_184 : decode cX5_act 184 = .ok (.aload_n 0, 1) := by decide +kernel
theorem dX5_act_185 : decode cX5_act 185 = .ok (.getfield 30, 3) := by decide +kernel
theorem dX5_act_188 : decode cX5_act 188 = .ok (.aload_n 0, 1) := by decide +kernel
theorem dX5_act_189 : decode cX5_act 189 = .ok (.getfield 147, 3) := by decide +kernel
theorem dX5_act_192 : decode cX5_act 192 = .ok (.iconst 1, 1) := by decide +kernel
theorem dX5_act_193 : decode cX5_act 193 = .ok (.isub, 1) := by decide +kernel
theorem dX5_act_194 : decode cX5_act 194 = .ok (.baload, 1) := by decide +kernel
theorem dX5_act_195 : decode cX5_act 195 = .ok (.if_icmp .ne 30, 3) := by decide +kernel
theorem dX5_act_198 : decode cX5_act 198 = .ok (.aload_n 0, 1) := by decide +kernel
theorem dX5_act_199 : decode cX5_act 199 = .ok (.getfield 33, 3) := by decide +kernel
theorem dX5_act_202 : decode cX5_act 202 = .ok (.aload_n 0, 1) := by decide +kernel
theorem dX5_act_203 : decode cX5_act 203 = .ok (.getfield 147, 3) := by decide +kernel
theorem dX5_act_206 : decode cX5_act 206 = .ok (.iaload, 1) := by decide +kernel
theorem dX5_act_207 : decode cX5_act 207 = .ok (.aload_n 0, 1) := by decide +kernel
theorem dX5_act_208 : decode cX5_act 208 = .ok (.getfield 33, 3) := by decide +kernel
theorem dX5_act_211 : decode cX5_act 211 = .ok (.aload_n 0, 1) := by decide +kernel
theorem dX5_act_212 : decode cX5_act 212 = .ok (.getfield 147, 3) := by decide +kernel
theorem dX5_act_215 : decode cX5_act 215 = .ok (.iconst 1, 1) := by decide +kernel
theorem dX5_act_216 : decode cX5_act 216 = .ok (.isub, 1) := by decide +kernel
theorem dX5_act_217 : decode cX5_act 217 = .ok (.iaload, 1) := by decide +kernel
theorem dX5_act_218 : decode cX5_act 218 = .ok (.if_icmp .ne 7, 3) := by decide +kernel
theorem dX5_act_221 : decode cX5_act 221 = .ok (.iconst 1, 1) := by decide +kernel
theorem dX5_act_222 : decode cX5_act 222 = .ok (.goto 4, 3) := by decide +kernel
theorem dX5_act_225 : decode cX5_act 225 = .ok (.iconst 0, 1) := by decide +kernel
theorem dX5_act_226 : decode cX5_act 226 = .ok (.istore 4, 2) := by decide +kernel
theorem dX5_act_228 : decode cX5_act 228 = .ok (.aload_n 0, 1) := by decide +kernel
theorem dX5_act_229 : decode cX5_act 229 = .ok (.getfield 30, 3) := by decide +kernel
theorem dX5_act_232 : decode cX5_act 232 = .ok (.aload_n 0, 1) := by decide +kernel
theorem dX5_act_233 : decode cX5_act 233 = .ok (.getfield 147, 3) := by decide +kernel
theorem dX5_act_236 : decode cX5_act 236 = .ok (.iconst 1, 1) := by decide +kernel
theorem dX5_act_237 : decode cX5_act 237 = .ok (.isub, 1) := by decide +kernel
theorem dX5_act_238 : decode cX5_act 238 = .ok (.iconst 0, 1) := by decide +kernel
theorem dX5_act_239 : decode cX5_act 239 = .ok (.bastore, 1) := by decide +kernel
theorem dX5_act_240 : decode cX5_act 240 = .ok (.aload_n 0, 1) := by decide +kernel
theorem dX5_act_241 : decode cX5_act 241 = .ok (.getfield 33, 3) := by decide +kernel
theorem dX5_act_244 : decode cX5_act 244 = .ok (.aload_n 0, 1) := by decide +kernel
theorem dX5_act_245 : decode cX5_act 245 = .ok (.getfield 147, 3) := by decide +kernel
theorem dX5_act_248 : decode cX5_act 248 = .ok (.iconst 1, 1) := by decide +kernel
theorem dX5_act_249 : decode cX5_act 249 = .ok (.isub, 1) := by decide +kernel
theorem dX5_act_250 : decode cX5_act 250 = .ok (.iload 4, 2) := by decide +kernel
theorem dX5_act_252 : decode cX5_act 252 = .ok (.ifCond .eq 7, 3) := by decide +kernel
theorem dX5_act_255 : decode cX5_act 255 = .ok (.iconst 1, 1) := by decide +kernel
theorem dX5_act_256 : decode cX5_act 256 = .ok (.goto 4, 3) := by decide +kernel
theorem dX5_act_259 : decode cX5_act 259 = .ok (.iconst 0, 1) := by decide +kernel
theorem dX5_act_260 : decode cX5_act 260 = .ok (.iastore, 1) := by decide +kernel
theorem dX5_act_261 : decode cX5_act 261 = .ok (.goto 124, 3) := by decide +kernel
theorem dX5_act_264 : decode cX5_act 264 = .ok (.iload_n 2, 1) := by decide +kernel
theorem dX5_act_265 : decode cX5_act 265 = .ok (.bipush 14, 2) := by decide +kernel
theorem dX5_act_267 : decode cX5_act 267 = .ok (.if_icmp .ne 10, 3) := by decide +kernel
theorem dX5_act_270 : decode cX5_act 270 = .ok (.aload_n 0, 1) := by decide +kernel
theorem dX5_act_271 : decode cX5_act 271 = .ok (.invokevirtual 195, 3) := by decide +kernel
theorem dX5_act_274 : decode cX5_act 274 = .ok (.goto 111, 3) := by decide +kernel
theorem dX5_act_277 : decode cX5_act 277 = .ok (.iload_n 2, 1) := by decide +kernel
theorem dX5_act_278 : decode cX5_act 278 = .ok (.bipush 15, 2) := by decide +kernel
theorem dX5_act_280 : decode cX5_act 280 = .ok (.if_icmp .ne 10, 3) := by decide +kernel
theorem dX5_act_283 : decode cX5_act 283 = .ok (.aload_n 0, 1) := by decide +kernel
theorem dX5_act_284 : decode cX5_act 284 = .ok (.invokevirtual 198, 3) := by decide +kernel
theorem dX5_act_287 : decode cX5_act 287 = .ok (.goto 98, 3) := by decide +kernel
theorem dX5_act_290 : decode cX5_act 290 = .ok (.iload_n 2, 1) := by decide +kernel
theorem dX5_act_291 : decode cX5_act 291 = .ok (.bipush 16, 2) := by decide +kernel
theorem dX5_act_293 : decode cX5_act 293 = .ok (.if_icmp .ne 17, 3) := by decide +kernel
theorem dX5_act_296 : decode cX5_act 296 = .ok (.aload_n 0, 1) := by decide +kernel
theorem dX5_act_297 : decode cX5_act 297 = .ok (.iconst 1, 1) := by decide +kernel
theorem dX5_act_298 : decode cX5_act 298 = .ok (.aload_n 0, 1) := by decide +kernel
theorem dX5_act_299 : decode cX5_act 299 = .ok (.getfield 45, 3) := by decide +kernel
theorem dX5_act_302 : decode cX5_act 302 = .ok (.iload_n 1, 1) := by decide +kernel
theorem dX5_act_303 : decode cX5_act 303 = .ok (.iaload, 1) := by decide +kernel
theorem dX5_act_304 : decode cX5_act 304 = .ok (.invokevirtual 181, 3) := by decide +kernel
theorem dX5_act_307 : decode cX5_act 307 = .ok (.goto 78, 3) := by decide +kernel
theorem dX5_act_310 : decode cX5_act 310 = .ok (.iload_n 2, 1) := by decide +kernel
theorem dX5_act_311 : decode cX5_act 311 = .ok (.bipush 17, 2) := by decide +kernel
theorem dX5_act_313 : decode cX5_act 313 = .ok (.if_icmp .ne 22, 3) := by decide +kernel
theorem dX5_act_316 : decode cX5_act 316 = .ok (.aload_n 0, 1) := by decide +kernel
theorem dX5_act_317 : decode cX5_act 317 = .ok (.aload_n 0, 1) := by decide +kernel
theorem dX5_act_318 : decode cX5_act 318 = .ok (.getfield 48, 3) := by decide +kernel
theorem dX5_act_321 : decode cX5_act 321 = .ok (.iload_n 1, 1) := by decide +kernel
theorem dX5_act_322 : decode cX5_act 322 = .ok (.baload, 1) := by decide +kernel
theorem dX5_act_323 : decode cX5_act 323 = .ok (.aload_n 0, 1) := by decide +kernel
theorem dX5_act_324 : decode cX5_act 324 = .ok (.getfield 51, 3) := by decide +kernel
theorem dX5_act_327 : decode cX5_act 327 = .ok (.iload_n 1, 1) := by decide +kernel
theorem dX5_act_328 : decode cX5_act 328 = .ok (.iaload, 1) := by decide +kernel
theorem dX5_act_329 : decode cX5_act 329 = .ok (.invokevirtual 181, 3) := by decide +kernel
theorem dX5_act_332 : decode cX5_act 332 = .ok (.goto 53, 3) := by decide +kernel
theorem dX5_act_335 : decode cX5_act 335 = .ok (.aload_n 0, 1) := by decide +kernel
theorem dX5_act_336 : decode cX5_act 336 = .ok (.dup, 1) := by decide +kernel
theorem dX5_act_337 : decode cX5_act 337 = .ok (.getfield 147, 3) := by decide +kernel
theorem dX5_act_340 : decode cX5_act 340 = .ok (.iconst 1, 1) := by decide +kernel
theorem dX5_act_341 : decode cX5_act 341 = .ok (.isub, 1) := by decide +kernel
theorem dX5_act_342 : decode cX5_act 342 = .ok (.putfield 147, 3) := by decide +kernel
theorem dX5_act_345 : decode cX5_act 345 = .ok (.aload_n 0, 1) := by decide +kernel
theorem dX5_act_346 : decode cX5_act 346 = .ok (.getfield 30, 3) := by decide +kernel
theorem dX5_act_349 : decode cX5_act 349 = .ok (.aload_n 0, 1) := by decide +kernel
theorem dX5_act_350 : decode cX5_act 350 = .ok (.getfield 147, 3) := by decide +kernel
theorem dX5_act_353 : decode cX5_act 353 = .ok (.iconst 1, 1) := by decide +kernel
theorem dX5_act_354 : decode cX5_act 354 = .ok (.isub, 1) := by decide +kernel
theorem dX5_act_355 : decode cX5_act 355 = .ok (.aload_n 0, 1) := by decide +kernel
theorem dX5_act_356 : decode cX5_act 356 = .ok (.getfield 30, 3) := by decide +kernel
theorem dX5_act_359 : decode cX5_act 359 = .ok (.aload_n 0, 1) := by decide +kernel
theorem dX5_act_360 : decode cX5_act 360 = .ok (.getfield 147, 3) := by decide +kernel
theorem dX5_act_363 : decode cX5_act 363 = .ok (.baload, 1) := by decide +kernel
theorem dX5_act_364 : decode cX5_act 364 = .ok (.bastore, 1) := by decide +kernel
theorem dX5_act_365 : decode cX5_act 365 = .ok (.aload_n 0, 1) := by decide +kernel
theorem dX5_act_366 : decode cX5_act 366 = .ok (.getfield 33, 3) := by decide +kernel
theorem dX5_act_369 : decode cX5_act 369 = .ok (.aload_n 0, 1) := by decide +kernel
theorem dX5_act_370 : decode cX5_act 370 = .ok (.getfield 147, 3) := by decide +kernel
theorem dX5_act_373 : decode cX5_act 373 = .ok (.iconst 1, 1) := by decide +kernel
theorem dX5_act_374 : decode cX5_act 374 = .ok (.isub, 1) := by decide +kernel
theorem dX5_act_375 : decode cX5_act 375 = .ok (.aload_n 0, 1) := by decide +kernel
theorem dX5_act_376 : decode cX5_act 376 = .ok (.getfield 33, 3) := by decide +kernel
theorem dX5_act_379 : decode cX5_act 379 = .ok (.aload_n 0, 1) := by decide +kernel
theorem dX5_act_380 : decode cX5_act 380 = .ok (.getfield 147, 3) := by decide +kernel
theorem dX5_act_383 : decode cX5_act 383 = .ok (.iaload, 1) := by decide +kernel
theorem dX5_act_384 : decode cX5_act 384 = .ok (.iastore, 1) := by decide +kernel
theorem dX5_act_385 : decode cX5_act 385 = .ok (.return_, 1) := by decide +kernel
theorem dX5_work_0 : decode cX5_work 0 = .ok (.aload_n 0, 1) := by decide +kernel
theorem dX5_work_1 : decode cX5_work 1 = .ok (.iconst 0, 1) := by decide +kernel
theorem dX5_work_2 : decode cX5_work 2 = .ok (.putfield 159, 3) := by decide +kernel
theorem dX5_work_5 : decode cX5_work 5 = .ok (.aload_n 0, 1) := by decide +kernel
theorem dX5_work_6 : decode cX5_work 6 = .ok (.iconst 0, 1) := by decide +kernel
theorem dX5_work_7 : decode cX5_work 7 = .ok (.putfield 156, 3) := by decide +kernel
theorem dX5_work_10 : decode cX5_work 10 = .ok (.aload_n 0, 1) := by decide +kernel
theorem dX5_work_11 : decode cX5_work 11 = .ok (.iconst 0, 1) := by decide +kernel
theorem dX5_work_12 : decode cX5_work 12 = .ok (.putfield 162, 3) := by decide +kernel
theorem dX5_work_15 : decode cX5_work 15 = .ok (.aload_n 0, 1) := by decide +kernel
theorem dX5_work_16 : decode cX5_work 16 = .ok (.getfield 150, 3) := by decide +kernel
theorem dX5_work_19 : decode cX5_work 19 = .ok (.ifCond .le 98, 3) := by decide +kernel
theorem dX5_work_22 : decode cX5_work 22 = .ok (.aload_n 0, 1) := by decide +kernel
theorem dX5_work_23 : decode cX5_work 23 = .ok (.getfield 156, 3) := by decide +kernel
theorem dX5_work_26 : decode cX5_work 26 = .ok (.ifCond .ne 91, 3) := by decide +kernel
theorem dX5_work_29 : decode cX5_work 29 = .ok (.aload_n 0, 1) := by decide +kernel
theorem dX5_work_30 : decode cX5_work 30 = .ok (.getfield 150, 3) := by decide +kernel
theorem dX5_work_33 : decode cX5_work 33 = .ok (.iconst 1, 1) := by decide +kernel
theorem dX5_work_34 : decode cX5_work 34 = .ok (.isub, 1) := by decide +kernel
theorem dX5_work_35 : decode cX5_work 35 = .ok (.istore_n 1, 1) := by decide +kernel
theorem dX5_work_36 : decode cX5_work 36 = .ok (.aload_n 0, 1) := by decide +kernel
theorem dX5_work_37 : decode cX5_work 37 = .ok (.getfield 39, 3) := by decide +kernel
theorem dX5_work_40 : decode cX5_work 40 = .ok (.iload_n 1, 1) := by decide +kernel
theorem dX5_work_41 : decode cX5_work 41 = .ok (.iaload, 1) := by decide +kernel
theorem dX5_work_42 : decode cX5_work 42 = .ok (.aload_n 0, 1) := by decide +kernel
theorem dX5_work_43 : decode cX5_work 43 = .ok (.getfield 42, 3) := by decide +kernel
theorem dX5_work_46 : decode cX5_work 46 = .ok (.iload_n 1, 1) := by decide +kernel
theorem dX5_work_47 : decode cX5_work 47 = .ok (.iaload, 1) := by decide +kernel
theorem dX5_work_48 : decode cX5_work 48 = .ok (.if_icmp .ne 10, 3) := by decide +kernel
theorem dX5_work_51 : decode cX5_work 51 = .ok (.aload_n 0, 1) := by decide +kernel
theorem dX5_work_52 : decode cX5_work 52 = .ok (.invokevirtual 166, 3) := by decide +kernel
theorem dX5_work_55 : decode cX5_work 55 = .ok (.goto 59, 3) := by decide +kernel
theorem dX5_work_58 : decode cX5_work 58 = .ok (.aload_n 0, 1) := by decide +kernel
theorem dX5_work_59 : decode cX5_work 59 = .ok (.getfield 162, 3) := by decide +kernel
theorem dX5_work_62 : decode cX5_work 62 = .ok (.ifCond .ne 22, 3) := by decide +kernel
theorem dX5_work_65 : decode cX5_work 65 = .ok (.aload_n 0, 1) := by decide +kernel
theorem dX5_work_66 : decode cX5_work 66 = .ok (.getfield 159, 3) := by decide +kernel
theorem dX5_work_69 : decode cX5_work 69 = .ok (.sipush 1000, 3) := by decide +kernel
theorem dX5_work_72 : decode cX5_work 72 = .ok (.if_icmp .ne 12, 3) := by decide +kernel
theorem dX5_work_75 : decode cX5_work 75 = .ok (.aload_n 0, 1) := by decide +kernel
theorem dX5_work_76 : decode cX5_work 76 = .ok (.bipush 100, 2) := by decide +kernel
theorem dX5_work_78 : decode cX5_work 78 = .ok (.invokevirtual 169, 3) := by decide +kernel
theorem dX5_work_81 : decode cX5_work 81 = .ok (.goto 33, 3) := by decide +kernel
theorem dX5_work_84 : decode cX5_work 84 = .ok (.aload_n 0, 1) := by decide +kernel
theorem dX5_work_85 : decode cX5_work 85 = .ok (.dup, 1) := by decide +kernel
theorem dX5_work_86 : decode cX5_work 86 = .ok (.getfield 159, 3) := by decide +kernel
theorem dX5_work_89 : decode cX5_work 89 = .ok (.aload_n 0, 1) := by decide +kernel
theorem dX5_work_90 : decode cX5_work 90 = .ok (.getfield 162, 3) := by decide +kernel
theorem dX5_work_93 : decode cX5_work 93 = .ok (.ifCond .eq 7, 3) := by decide +kernel
theorem dX5_work_96 : decode cX5_work 96 = .ok (.iconst 0, 1) := by decide +kernel
theorem dX5_work_97 : decode cX5_work 97 = .ok (.goto 4, 3) := by decide +kernel
theorem dX5_work_100 : decode cX5_work 100 = .ok (.iconst 1, 1) := by decide +kernel
theorem dX5_work_101 : decode cX5_work 101 = .ok (.iadd, 1) := by decide +kernel
theorem dX5_work_102 : decode cX5_work 102 = .ok (.putfield 159, 3) := by decide +kernel
theorem dX5_work_105 : decode cX5_work 105 = .ok (.aload_n 0, 1) := by decide +kernel
theorem dX5_work_106 : decode cX5_work 106 = .ok (.iconst 0, 1) := by decide +kernel
theorem dX5_work_107 : decode cX5_work 107 = .ok (.putfield 162, 3) := by decide +kernel
theorem dX5_work_110 : decode cX5_work 110 = .ok (.aload_n 0, 1) := by decide +kernel
theorem dX5_work_111 : decode cX5_work 111 = .ok (.invokevirtual 172, 3) := by decide +kernel
theorem dX5_work_114 : decode cX5_work 114 = .ok (.goto (-99), 3) := by decide +kernel
theorem dX5_work_117 : decode cX5_work 117 = .ok (.return_, 1) := by decide +kernel
theorem dX5_newEdition_0 : decode cX5_newEdition 0 = .ok (.aload_n 0, 1) := by decide +kernel
theorem dX5_newEdition_1 : decode cX5_newEdition 1 = .ok (.getfield 8, 3) := by decide +kernel
theorem dX5_newEdition_4 : decode cX5_newEdition 4 = .ok (.iconst 1, 1) := by decide +kernel
theorem dX5_newEdition_5 : decode cX5_newEdition 5 = .ok (.iaload, 1) := by decide +kernel
theorem dX5_newEdition_6 : decode cX5_newEdition 6 = .ok (.istore_n 2, 1) := by decide +kernel
theorem dX5_newEdition_7 : decode cX5_newEdition 7 = .ok (.aload_n 0, 1) := by decide +kernel
theorem dX5_newEdition_8 : decode cX5_newEdition 8 = .ok (.getfield 8, 3) := by decide +kernel
theorem dX5_newEdition_11 : decode cX5_newEdition 11 = .ok (.iconst 1, 1) := by decide +kernel
theorem dX5_newEdition_12 : decode cX5_newEdition 12 = .ok (.dup2, 1) := by decide +kernel
theorem dX5_newEdition_13 : decode cX5_newEdition 13 = .ok (.iaload, 1) := by decide +kernel
theorem dX5_newEdition_14 : decode cX5_newEdition 14 = .ok (.iconst 1, 1) := by decide +kernel
theorem dX5_newEdition_15 : decode cX5_newEdition 15 = .ok (.iadd, 1) := by decide +kernel
theorem dX5_newEdition_16 : decode cX5_newEdition 16 = .ok (.iastore, 1) := by decide +kernel
theorem dX5_newEdition_17 : decode cX5_newEdition 17 = .ok (.iload_n 2, 1) := by decide +kernel
theorem dX5_newEdition_18 : decode cX5_newEdition 18 = .ok (.invokestatic 73, 3) := by decide +kernel
theorem dX5_newEdition_21 : decode cX5_newEdition 21 = .ok (.istore_n 3, 1) := by decide +kernel
theorem dX5_newEdition_22 : decode cX5_newEdition 22 = .ok (.aload_n 0, 1) := by decide +kernel
theorem dX5_newEdition_23 : decode cX5_newEdition 23 = .ok (.getfield 8, 3) := by decide +kernel
theorem dX5_newEdition_26 : decode cX5_newEdition 26 = .ok (.iload_n 3, 1) := by decide +kernel
theorem dX5_newEdition_27 : decode cX5_newEdition 27 = .ok (.iconst 0, 1) := by decide +kernel
theorem dX5_newEdition_28 : decode cX5_newEdition 28 = .ok (.iadd, 1) := by decide +kernel
theorem dX5_newEdition_29 : decode cX5_newEdition 29 = .ok (.aload_n 0, 1) := by decide +kernel
theorem dX5_newEdition_30 : decode cX5_newEdition 30 = .ok (.getfield 8, 3) := by decide +kernel
theorem dX5_newEdition_33 : decode cX5_newEdition 33 = .ok (.iload_n 1, 1) := by decide +kernel
theorem dX5_newEdition_34 : decode cX5_newEdition 34 = .ok (.invokestatic 230, 3) := by decide +kernel
theorem dX5_newEdition_37 : decode cX5_newEdition 37 = .ok (.iconst 0, 1) := by decide +kernel
theorem dX5_newEdition_38 : decode cX5_newEdition 38 = .ok (.iadd, 1) := by decide +kernel
theorem dX5_newEdition_39 : decode cX5_newEdition 39 = .ok (.iaload, 1) := by decide +kernel
theorem dX5_newEdition_40 : decode cX5_newEdition 40 = .ok (.iastore, 1) := by decide +kernel
theorem dX5_newEdition_41 : decode cX5_newEdition 41 = .ok (.aload_n 0, 1) := by decide +kernel
theorem dX5_newEdition_42 : decode cX5_newEdition 42 = .ok (.getfield 8, 3) := by decide +kernel
theorem dX5_newEdition_45 : decode cX5_newEdition 45 = .ok (.iload_n 3, 1) := by decide +kernel
theorem dX5_newEdition_46 : decode cX5_newEdition 46 = .ok (.iconst 1, 1) := by decide +kernel
theorem dX5_newEdition_47 : decode cX5_newEdition 47 = .ok (.iadd, 1) := by decide +kernel
theorem dX5_newEdition_48 : decode cX5_newEdition 48 = .ok (.aload_n 0, 1) := by decide +kernel
theorem dX5_newEdition_49 : decode cX5_newEdition 49 = .ok (.getfield 8, 3) := by decide +kernel
theorem dX5_newEdition_52 : decode cX5_newEdition 52 = .ok (.iload_n 1, 1) := by decide +kernel
theorem dX5_newEdition_53 : decode cX5_newEdition 53 = .ok (.invokestatic 230, 3) := by decide +kernel
theorem dX5_newEdition_56 : decode cX5_newEdition 56 = .ok (.iconst 1, 1) := by decide +kernel
theorem dX5_newEdition_57 : decode cX5_newEdition 57 = .ok (.iadd, 1) := by decide +kernel
theorem dX5_newEdition_58 : decode cX5_newEdition 58 = .ok (.iaload, 1) := by decide +kernel
theorem dX5_newEdition_59 : decode cX5_newEdition 59 = .ok (.iastore, 1) := by decide +kernel
theorem dX5_newEdition_60 : decode cX5_newEdition 60 = .ok (.aload_n 0, 1) := by decide +kernel
theorem dX5_newEdition_61 : decode cX5_newEdition 61 = .ok (.getfield 8, 3) := by decide +kernel
theorem dX5_newEdition_64 : decode cX5_newEdition 64 = .ok (.iload_n 3, 1) := by decide +kernel
theorem dX5_newEdition_65 : decode cX5_newEdition 65 = .ok (.iconst 2, 1) := by decide +kernel
theorem dX5_newEdition_66 : decode cX5_newEdition 66 = .ok (.iadd, 1) := by decide +kernel
theorem dX5_newEdition_67 : decode cX5_newEdition 67 = .ok (.iload_n 1, 1) := by decide +kernel
theorem dX5_newEdition_68 : decode cX5_newEdition 68 = .ok (.iastore, 1) := by decide +kernel
theorem dX5_newEdition_69 : decode cX5_newEdition 69 = .ok (.aload_n 0, 1) := by decide +kernel
theorem dX5_newEdition_70 : decode cX5_newEdition 70 = .ok (.getfield 8, 3) := by decide +kernel
theorem dX5_newEdition_73 : decode cX5_newEdition 73 = .ok (.iload_n 3, 1) := by decide +kernel
theorem dX5_newEdition_74 : decode cX5_newEdition 74 = .ok (.iconst 3, 1) := by decide +kernel
theorem dX5_newEdition_75 : decode cX5_newEdition 75 = .ok (.iadd, 1) := by decide +kernel
theorem dX5_newEdition_76 : decode cX5_newEdition 76 = .ok (.iconst 0, 1) := by decide +kernel
theorem dX5_newEdition_77 : decode cX5_newEdition 77 = .ok (.iastore, 1) := by decide +kernel
theorem dX5_newEdition_78 : decode cX5_newEdition 78 = .ok (.aload_n 0, 1) := by decide +kernel
theorem dX5_newEdition_79 : decode cX5_newEdition 79 = .ok (.getfield 8, 3) := by decide +kernel
theorem dX5_newEdition_82 : decode cX5_newEdition 82 = .ok (.iload_n 3, 1) := by decide +kernel
theorem dX5_newEdition_83 : decode cX5_newEdition 83 = .ok (.iconst 4, 1) := by decide +kernel
theorem dX5_newEdition_84 : decode cX5_newEdition 84 = .ok (.iadd, 1) := by decide +kernel
theorem dX5_newEdition_85 : decode cX5_newEdition 85 = .ok (.iconst 0, 1) := by decide +kernel
theorem dX5_newEdition_86 : decode cX5_newEdition 86 = .ok (.iastore, 1) := by decide +kernel
theorem dX5_newEdition_87 : decode cX5_newEdition 87 = .ok (.aload_n 0, 1) := by decide +kernel
theorem dX5_newEdition_88 : decode cX5_newEdition 88 = .ok (.getfield 8, 3) := by decide +kernel
theorem dX5_newEdition_91 : decode cX5_newEdition 91 = .ok (.iload_n 3, 1) := by decide +kernel
theorem dX5_newEdition_92 : decode cX5_newEdition 92 = .ok (.iconst 5, 1) := by decide +kernel
theorem dX5_newEdition_93 : decode cX5_newEdition 93 = .ok (.iadd, 1) := by decide +kernel
theorem dX5_newEdition_94 : decode cX5_newEdition 94 = .ok (.iconst 0, 1) := by decide +kernel
theorem dX5_newEdition_95 : decode cX5_newEdition 95 = .ok (.iastore, 1) := by decide +kernel
theorem dX5_newEdition_96 : decode cX5_newEdition 96 = .ok (.aload_n 0, 1) := by decide +kernel
theorem dX5_newEdition_97 : decode cX5_newEdition 97 = .ok (.getfield 8, 3) := by decide +kernel
theorem dX5_newEdition_100 : decode cX5_newEdition 100 = .ok (.iload_n 3, 1) := by decide +kernel
theorem dX5_newEdition_101 : decode cX5_newEdition 101 = .ok (.bipush 6, 2) := by decide +kernel
theorem dX5_newEdition_103 : decode cX5_newEdition 103 = .ok (.iadd, 1) := by decide +kernel
theorem dX5_newEdition_104 : decode cX5_newEdition 104 = .ok (.iconst 0, 1) := by decide +kernel
theorem dX5_newEdition_105 : decode cX5_newEdition 105 = .ok (.iastore, 1) := by decide +kernel
theorem dX5_newEdition_106 : decode cX5_newEdition 106 = .ok (.aload_n 0, 1) := by decide +kernel
theorem dX5_newEdition_107 : decode cX5_newEdition 107 = .ok (.getfield 8, 3) := by decide +kernel
theorem dX5_newEdition_110 : decode cX5_newEdition 110 = .ok (.iload_n 3, 1) := by decide +kernel
theorem dX5_newEdition_111 : decode cX5_newEdition 111 = .ok (.bipush 7, 2) := by decide +kernel
theorem dX5_newEdition_113 : decode cX5_newEdition 113 = .ok (.iadd, 1) := by decide +kernel
theorem dX5_newEdition_114 : decode cX5_newEdition 114 = .ok (.aload_n 0, 1) := by decide +kernel
theorem dX5_newEdition_115 : decode cX5_newEdition 115 = .ok (.getfield 90, 3) := by decide +kernel
theorem dX5_newEdition_118 : decode cX5_newEdition 118 = .ok (.iastore, 1) := by decide +kernel
theorem dX5_newEdition_119 : decode cX5_newEdition 119 = .ok (.iconst 0, 1) := by decide +kernel
theorem dX5_newEdition_120 : decode cX5_newEdition 120 = .ok (.istore 4, 2) := by decide +kernel
theorem dX5_newEdition_122 : decode cX5_newEdition 122 = .ok (.iload 4, 2) := by decide +kernel
theorem dX5_newEdition_124 : decode cX5_newEdition 124 = .ok (.aload_n 0, 1) := by decide +kernel
theorem dX5_newEdition_125 : decode cX5_newEdition 125 = .ok (.getfield 90, 3) := by decide +kernel
theorem dX5_newEdition_128 : decode cX5_newEdition 128 = .ok (.if_icmp .ge 28, 3) := by decide +kernel
theorem dX5_newEdition_131 : decode cX5_newEdition 131 = .ok (.aload_n 0, 1) := by decide +kernel
theorem dX5_newEdition_132 : decode cX5_newEdition 132 = .ok (.getfield 8, 3) := by decide +kernel
theorem dX5_newEdition_135 : decode cX5_newEdition 135 = .ok (.iload_n 3, 1) := by decide +kernel
theorem dX5_newEdition_136 : decode cX5_newEdition 136 = .ok (.bipush 8, 2) := by decide +kernel
theorem dX5_newEdition_138 : decode cX5_newEdition 138 = .ok (.iadd, 1) := by decide +kernel
theorem dX5_newEdition_139 : decode cX5_newEdition 139 = .ok (.iload 4, 2) := by decide +kernel
theorem dX5_newEdition_141 : decode cX5_newEdition 141 = .ok (.iadd, 1) := by decide +kernel
theorem dX5_newEdition_142 : decode cX5_newEdition 142 = .ok (.aload_n 0, 1) := by decide +kernel
theorem dX5_newEdition_143 : decode cX5_newEdition 143 = .ok (.getfield 24, 3) := by decide +kernel
theorem dX5_newEdition_146 : decode cX5_newEdition 146 = .ok (.iload 4, 2) := by decide +kernel
theorem dX5_newEdition_148 : decode cX5_newEdition 148 = .ok (.iaload, 1) := by decide +kernel
theorem dX5_newEdition_149 : decode cX5_newEdition 149 = .ok (.iastore, 1) := by decide +kernel
theorem dX5_newEdition_150 : decode cX5_newEdition 150 = .ok (.iinc 4 1, 3) := by decide +kernel
theorem dX5_newEdition_153 : decode cX5_newEdition 153 = .ok (.goto (-31), 3) := by decide +kernel
theorem dX5_newEdition_156 : decode cX5_newEdition 156 = .ok (.aload_n 0, 1) := by decide +kernel
theorem dX5_newEdition_157 : decode cX5_newEdition 157 = .ok (.getfield 8, 3) := by decide +kernel
theorem dX5_newEdition_160 : decode cX5_newEdition 160 = .ok (.iconst 4, 1) := by decide +kernel
theorem dX5_newEdition_161 : decode cX5_newEdition 161 = .ok (.aload_n 0, 1) := by decide +kernel
theorem dX5_newEdition_162 : decode cX5_newEdition 162 = .ok (.getfield 8, 3) := by decide +kernel
theorem dX5_newEdition_165 : decode cX5_newEdition 165 = .ok (.iload_n 3, 1) := by decide +kernel
theorem dX5_newEdition_166 : decode cX5_newEdition 166 = .ok (.iconst 0, 1) := by decide +kernel
theorem dX5_newEdition_167 : decode cX5_newEdition 167 = .ok (.iadd, 1) := by decide +kernel
theorem dX5_newEdition_168 : decode cX5_newEdition 168 = .ok (.iaload, 1) := by decide +kernel
theorem dX5_newEdition_169 : decode cX5_newEdition 169 = .ok (.iadd, 1) := by decide +kernel
theorem dX5_newEdition_170 : decode cX5_newEdition 170 = .ok (.iload_n 2, 1) := by decide +kernel
theorem dX5_newEdition_171 : decode cX5_newEdition 171 = .ok (.iconst 1, 1) := by decide +kernel
theorem dX5_newEdition_172 : decode cX5_newEdition 172 = .ok (.iadd, 1) := by decide +kernel
theorem dX5_newEdition_173 : decode cX5_newEdition 173 = .ok (.iastore, 1) := by decide +kernel
theorem dX5_newEdition_174 : decode cX5_newEdition 174 = .ok (.iload_n 2, 1) := by decide +kernel
theorem dX5_newEdition_175 : decode cX5_newEdition 175 = .ok (.ireturn, 1) := by decide +kernel
section RM
variable {ρ : Type} {p : Program} {l : Launch} {e : Env} {R : Room} {s : State} {m : MethodId} {args : Array Value} {below : List Frame} {meth : Method} {c : Code}
variable {cc : ByteArray} {nL : Nat} {rt : Option FieldType} {D : va_G} {cI cZ : ClassId} {q : Nat → Nat} {QQ : ρ → State → Prop} {pc : Nat} {lv : List (Nat × Value)}

-- act
def fR_act_b99 (n : Nat) (x3 : Int32) (s0 : Int32) (M : MR) : Option (Int32 × MR) :=
    bnd (fR_editAt n x3 M) fun v1 M1 =>
    rd M1 0 62610 (v1 + (4 : Int32)) fun v2 =>
    bnd (fR_push n s0 v2 M1) fun _ M3 =>
    some (0, M3)
theorem wR_act_b99 (X : gX p s m args meth c cX5_act 5 RX5 none D (tyR cI cZ)) (n : Nat) (x3 : Int32) (s0 : Int32) (M : MR) : gG p l e (rmR 7 162) s m args below meth c 5 (ZR D cI cZ q (AR q s.heap.size) s.heap M) 0 0 (fun r => MQ below (QV D cI cZ q s.heap.size r) args s 0 0 (AR q s.heap.size)) 99 [(0, .ref (q 34)), (3, .int x3)] [.int s0, .ref (q 34)] (fR_act_b99 n x3 s0 M) := by
  unfold fR_act_b99
  refine g_aload_n X dX5_act_99 rfl rfl ?_
  refine r_g_m X dX5_act_100 ?_
  refine g_iload_n X dX5_act_103 rfl rfl ?_
  refine k_editAt X ⟨Nat.le_of_ble_eq_true rfl, Nat.le_of_ble_eq_true rfl⟩ (Nat.le_of_ble_eq_true rfl) dX5_act_104 ?_
  intro v1 M1
  refine g_iconst (v := (4 : Int32)) X dX5_act_107 (by decide) ?_
  refine g_iadd X dX5_act_108 ?_
  refine r_l_m X dX5_act_109 ?_
  intro v2
  refine k_push X ⟨Nat.le_of_ble_eq_true rfl, Nat.le_of_ble_eq_true rfl⟩ (Nat.le_of_ble_eq_true rfl) dX5_act_110 ?_
  intro v3 M3
  refine g_goto (tgt := 385) X dX5_act_113 (by decide) ?_
  exact r_vret X dX5_act_385
def fR_act_b226 (n : Nat) (s0 : Int32) (M : MR) : Option (Int32 × MR) :=
    gf M 12 fun v1 =>
    wz M 10 2000 (v1 - (1 : Int32)) (0 : Int32) fun M2 =>
    gf M2 12 fun v3 =>
    if s0 = 0 then
      (wr M2 11 2000 (v3 - (1 : Int32)) (0 : Int32) fun M4 =>
      some (0, M4))
    else
      (wr M2 11 2000 (v3 - (1 : Int32)) (1 : Int32) fun M5 =>
      some (0, M5))
theorem wR_act_b226 (X : gX p s m args meth c cX5_act 5 RX5 none D (tyR cI cZ)) (n : Nat) (s0 : Int32) (M : MR) : gG p l e (rmR 7 162) s m args below meth c 5 (ZR D cI cZ q (AR q s.heap.size) s.heap M) 0 0 (fun r => MQ below (QV D cI cZ q s.heap.size r) args s 0 0 (AR q s.heap.size)) 226 [(0, .ref (q 34))] [.int s0] (fR_act_b226 n s0 M) := by
  unfold fR_act_b226
  refine g_istore (lv' := [(4, .int s0), (0, .ref (q 34))]) X dX5_act_226 (by decide) rfl ?_
  refine g_aload_n X dX5_act_228 rfl rfl ?_
  refine r_g_isObj X dX5_act_229 ?_
  refine g_aload_n X dX5_act_232 rfl rfl ?_
  refine r_g_top X dX5_act_233 ?_
  intro v1
  refine g_iconst (v := (1 : Int32)) X dX5_act_236 (by decide) ?_
  refine g_isub X dX5_act_237 ?_
  refine g_iconst (v := (0 : Int32)) X dX5_act_238 (by decide) ?_
  refine r_s_isObj X dX5_act_239 ?_
  intro M2
  refine g_aload_n X dX5_act_240 rfl rfl ?_
  refine r_g_value X dX5_act_241 ?_
  refine g_aload_n X dX5_act_244 rfl rfl ?_
  refine r_g_top X dX5_act_245 ?_
  intro v3
  refine g_iconst (v := (1 : Int32)) X dX5_act_248 (by decide) ?_
  refine g_isub X dX5_act_249 ?_
  refine g_iload X dX5_act_250 rfl ?_
  refine g_if_eq (tgt := 259) X dX5_act_252 (by decide) ?_ ?_
  · refine g_iconst (v := (0 : Int32)) X dX5_act_259 (by decide) ?_
    refine r_s_value X dX5_act_260 ?_
    intro M4
    refine g_goto (tgt := 385) X dX5_act_261 (by decide) ?_
    exact r_vret X dX5_act_385
  · refine g_iconst (v := (1 : Int32)) X dX5_act_255 (by decide) ?_
    refine g_goto (tgt := 260) X dX5_act_256 (by decide) ?_
    refine r_s_value X dX5_act_260 ?_
    intro M5
    refine g_goto (tgt := 385) X dX5_act_261 (by decide) ?_
    exact r_vret X dX5_act_385
def fR_act_b225 (n : Nat) (M : MR) : Option (Int32 × MR) :=
    fR_act_b226 n (0 : Int32) M
theorem wR_act_b225 (X : gX p s m args meth c cX5_act 5 RX5 none D (tyR cI cZ)) (n : Nat) (M : MR) : gG p l e (rmR 7 162) s m args below meth c 5 (ZR D cI cZ q (AR q s.heap.size) s.heap M) 0 0 (fun r => MQ below (QV D cI cZ q s.heap.size r) args s 0 0 (AR q s.heap.size)) 225 [(0, .ref (q 34))] [] (fR_act_b225 n M) := by
  unfold fR_act_b225
  refine g_iconst (v := (0 : Int32)) X dX5_act_225 (by decide) ?_
  exact g_pick [0] rfl (wR_act_b226 X n (0 : Int32) M)
def fR_act_b58 (n : Nat) (x1 : Int32) (x2 : Int32) (x3 : Int32) (s0 : Int32) (s1 : Int32) (s2 : Int32) (M : MR) : Option (Int32 × MR) :=
    wr M 14 22 s0 (s1 + s2) fun M1 =>
    if x2 = 0 then
      (bnd (fR_push n (0 : Int32) x3 M1) fun _ M34 =>
      some (0, M34))
    else
      (if x2 = (1 : Int32) then
        (bnd (fR_editAt n x3 M1) fun v32 M32 =>
        rd M32 0 62610 (v32 + (3 : Int32)) fun v33 =>
        if v33 = (1 : Int32) then (fR_act_b99 n x3 (1 : Int32) M32) else (fR_act_b99 n x3 (0 : Int32) M32))
      else
        (if (4 : Int32) < x2 then
          (if (7 : Int32) < x2 then
            (if (12 : Int32) < x2 then
              (if x2 = (13 : Int32) then
                (gf M1 12 fun v19 =>
                pf M1 12 (v19 - (1 : Int32)) fun M20 =>
                gf M20 12 fun v21 =>
                rd M20 10 2000 v21 fun v22 =>
                gf M20 12 fun v23 =>
                rd M20 10 2000 (v23 - (1 : Int32)) fun v24 =>
                if v22 = v24 then
                  (gf M20 12 fun v25 =>
                  rd M20 11 2000 v25 fun v26 =>
                  gf M20 12 fun v27 =>
                  rd M20 11 2000 (v27 - (1 : Int32)) fun v28 =>
                  if v26 = v28 then (fR_act_b226 n (1 : Int32) M20) else (fR_act_b225 n M20))
                else
                  (fR_act_b225 n M20))
              else
                (if x2 = (14 : Int32) then
                  (bnd (fR_choose n M1) fun _ M18 =>
                  some (0, M18))
                else
                  (if x2 = (15 : Int32) then
                    (bnd (fR_write n M1) fun _ M17 =>
                    some (0, M17))
                  else
                    (if x2 = (16 : Int32) then
                      (rd M1 16 22 x1 fun v15 =>
                      bnd (fR_push n (1 : Int32) v15 M1) fun _ M16 =>
                      some (0, M16))
                    else
                      (if x2 = (17 : Int32) then
                        (rd M1 17 22 x1 fun v12 =>
                        rd M1 18 22 x1 fun v13 =>
                        bnd (fR_push n v12 v13 M1) fun _ M14 =>
                        some (0, M14))
                      else
                        (gf M1 12 fun v2 =>
                        pf M1 12 (v2 - (1 : Int32)) fun M3 =>
                        gf M3 12 fun v4 =>
                        gf M3 12 fun v5 =>
                        rd M3 10 2000 v5 fun v6 =>
                        wz M3 10 2000 (v4 - (1 : Int32)) v6 fun M7 =>
                        gf M7 12 fun v8 =>
                        gf M7 12 fun v9 =>
                        rd M7 11 2000 v9 fun v10 =>
                        wr M7 11 2000 (v8 - (1 : Int32)) v10 fun M11 =>
                        some (0, M11)))))))
            else
              (bnd (fR_reckon n x2 M1) fun _ M29 =>
              some (0, M29)))
          else
            (bnd (fR_ofObject n x2 x3 M1) fun _ M30 =>
            some (0, M30)))
        else
          (bnd (fR_ask n x2 x3 M1) fun _ M31 =>
          some (0, M31))))
theorem wR_act_b58 (X : gX p s m args meth c cX5_act 5 RX5 none D (tyR cI cZ)) (n : Nat) (x1 : Int32) (x2 : Int32) (x3 : Int32) (s0 : Int32) (s1 : Int32) (s2 : Int32) (M : MR) : gG p l e (rmR 7 162) s m args below meth c 5 (ZR D cI cZ q (AR q s.heap.size) s.heap M) 0 0 (fun r => MQ below (QV D cI cZ q s.heap.size r) args s 0 0 (AR q s.heap.size)) 58 [(0, .ref (q 34)), (1, .int x1), (2, .int x2), (3, .int x3)] [.int s2, .int s1, .int s0, .ref (q 14)] (fR_act_b58 n x1 x2 x3 s0 s1 s2 M) := by
  unfold fR_act_b58
  refine g_iadd X dX5_act_58 ?_
  refine r_s_place X dX5_act_59 ?_
  intro M1
  refine g_iload_n X dX5_act_60 rfl rfl ?_
  refine g_if_ne (tgt := 73) X dX5_act_61 (by decide) ?_ ?_
  · refine g_iload_n X dX5_act_73 rfl rfl ?_
    refine g_iconst (v := (1 : Int32)) X dX5_act_74 (by decide) ?_
    refine g_icmp_ne (tgt := 116) X dX5_act_75 (by decide) ?_ ?_
    · refine g_iload_n X dX5_act_116 rfl rfl ?_
      refine g_iconst (v := (4 : Int32)) X dX5_act_117 (by decide) ?_
      refine g_icmp_gt (tgt := 130) X dX5_act_118 (by decide) ?_ ?_
      · refine g_iload_n X dX5_act_130 rfl rfl ?_
        refine g_bipush (v := (7 : Int32)) X dX5_act_131 (by decide) ?_
        refine g_icmp_gt (tgt := 145) X dX5_act_133 (by decide) ?_ ?_
        · refine g_iload_n X dX5_act_145 rfl rfl ?_
          refine g_bipush (v := (12 : Int32)) X dX5_act_146 (by decide) ?_
          refine g_icmp_gt (tgt := 159) X dX5_act_148 (by decide) ?_ ?_
          · refine g_iload_n X dX5_act_159 rfl rfl ?_
            refine g_bipush (v := (13 : Int32)) X dX5_act_160 (by decide) ?_
            refine g_icmp_ne (tgt := 264) X dX5_act_162 (by decide) ?_ ?_
            · refine g_iload_n X dX5_act_264 rfl rfl ?_
              refine g_bipush (v := (14 : Int32)) X dX5_act_265 (by decide) ?_
              refine g_icmp_ne (tgt := 277) X dX5_act_267 (by decide) ?_ ?_
              · refine g_iload_n X dX5_act_277 rfl rfl ?_
                refine g_bipush (v := (15 : Int32)) X dX5_act_278 (by decide) ?_
                refine g_icmp_ne (tgt := 290) X dX5_act_280 (by decide) ?_ ?_
                · refine g_iload_n X dX5_act_290 rfl rfl ?_
                  refine g_bipush (v := (16 : Int32)) X dX5_act_291 (by decide) ?_
                  refine g_icmp_ne (tgt := 310) X dX5_act_293 (by decide) ?_ ?_
                  · refine g_iload_n X dX5_act_310 rfl rfl ?_
                    refine g_bipush (v := (17 : Int32)) X dX5_act_311 (by decide) ?_
                    refine g_icmp_ne (tgt := 335) X dX5_act_313 (by decide) ?_ ?_
                    · refine g_aload_n X dX5_act_335 rfl rfl ?_
                      refine g_dup X dX5_act_336 rfl ?_
                      refine r_g_top X dX5_act_337 ?_
                      intro v2
                      refine g_iconst (v := (1 : Int32)) X dX5_act_340 (by decide) ?_
                      refine g_isub X dX5_act_341 ?_
                      refine r_p_top X dX5_act_342 ?_
                      intro M3
                      refine g_aload_n X dX5_act_345 rfl rfl ?_
                      refine r_g_isObj X dX5_act_346 ?_
                      refine g_aload_n X dX5_act_349 rfl rfl ?_
                      refine r_g_top X dX5_act_350 ?_
                      intro v4
                      refine g_iconst (v := (1 : Int32)) X dX5_act_353 (by decide) ?_
                      refine g_isub X dX5_act_354 ?_
                      refine g_aload_n X dX5_act_355 rfl rfl ?_
                      refine r_g_isObj X dX5_act_356 ?_
                      refine g_aload_n X dX5_act_359 rfl rfl ?_
                      refine r_g_top X dX5_act_360 ?_
                      intro v5
                      refine r_l_isObj X dX5_act_363 ?_
                      intro v6
                      refine r_s_isObj X dX5_act_364 ?_
                      intro M7
                      refine g_aload_n X dX5_act_365 rfl rfl ?_
                      refine r_g_value X dX5_act_366 ?_
                      refine g_aload_n X dX5_act_369 rfl rfl ?_
                      refine r_g_top X dX5_act_370 ?_
                      intro v8
                      refine g_iconst (v := (1 : Int32)) X dX5_act_373 (by decide) ?_
                      refine g_isub X dX5_act_374 ?_
                      refine g_aload_n X dX5_act_375 rfl rfl ?_
                      refine r_g_value X dX5_act_376 ?_
                      refine g_aload_n X dX5_act_379 rfl rfl ?_
                      refine r_g_top X dX5_act_380 ?_
                      intro v9
                      refine r_l_value X dX5_act_383 ?_
                      intro v10
                      refine r_s_value X dX5_act_384 ?_
                      intro M11
                      exact r_vret X dX5_act_385
                    · refine g_aload_n X dX5_act_316 rfl rfl ?_
                      refine g_aload_n X dX5_act_317 rfl rfl ?_
                      refine r_g_isArgObj X dX5_act_318 ?_
                      refine g_iload_n X dX5_act_321 rfl rfl ?_
                      refine r_l_isArgObj X dX5_act_322 ?_
                      intro v12
                      refine g_aload_n X dX5_act_323 rfl rfl ?_
                      refine r_g_argument X dX5_act_324 ?_
                      refine g_iload_n X dX5_act_327 rfl rfl ?_
                      refine r_l_argument X dX5_act_328 ?_
                      intro v13
                      refine k_push X ⟨Nat.le_of_ble_eq_true rfl, Nat.le_of_ble_eq_true rfl⟩ (Nat.le_of_ble_eq_true rfl) dX5_act_329 ?_
                      intro v14 M14
                      refine g_goto (tgt := 385) X dX5_act_332 (by decide) ?_
                      exact r_vret X dX5_act_385
                  · refine g_aload_n X dX5_act_296 rfl rfl ?_
                    refine g_iconst (v := (1 : Int32)) X dX5_act_297 (by decide) ?_
                    refine g_aload_n X dX5_act_298 rfl rfl ?_
                    refine r_g_self X dX5_act_299 ?_
                    refine g_iload_n X dX5_act_302 rfl rfl ?_
                    refine r_l_self X dX5_act_303 ?_
                    intro v15
                    refine k_push X ⟨Nat.le_of_ble_eq_true rfl, Nat.le_of_ble_eq_true rfl⟩ (Nat.le_of_ble_eq_true rfl) dX5_act_304 ?_
                    intro v16 M16
                    refine g_goto (tgt := 385) X dX5_act_307 (by decide) ?_
                    exact r_vret X dX5_act_385
                · refine g_aload_n X dX5_act_283 rfl rfl ?_
                  refine k_write X ⟨Nat.le_of_ble_eq_true rfl, Nat.le_of_ble_eq_true rfl⟩ (Nat.le_of_ble_eq_true rfl) dX5_act_284 ?_
                  intro v17 M17
                  refine g_goto (tgt := 385) X dX5_act_287 (by decide) ?_
                  exact r_vret X dX5_act_385
              · refine g_aload_n X dX5_act_270 rfl rfl ?_
                refine k_choose X ⟨Nat.le_of_ble_eq_true rfl, Nat.le_of_ble_eq_true rfl⟩ (Nat.le_of_ble_eq_true rfl) dX5_act_271 ?_
                intro v18 M18
                refine g_goto (tgt := 385) X dX5_act_274 (by decide) ?_
                exact r_vret X dX5_act_385
            · refine g_aload_n X dX5_act_165 rfl rfl ?_
              refine g_dup X dX5_act_166 rfl ?_
              refine r_g_top X dX5_act_167 ?_
              intro v19
              refine g_iconst (v := (1 : Int32)) X dX5_act_170 (by decide) ?_
              refine g_isub X dX5_act_171 ?_
              refine r_p_top X dX5_act_172 ?_
              intro M20
              refine g_aload_n X dX5_act_175 rfl rfl ?_
              refine r_g_isObj X dX5_act_176 ?_
              refine g_aload_n X dX5_act_179 rfl rfl ?_
              refine r_g_top X dX5_act_180 ?_
              intro v21
              refine r_l_isObj X dX5_act_183 ?_
              intro v22
              refine g_aload_n X dX5_act_184 rfl rfl ?_
              refine r_g_isObj X dX5_act_185 ?_
              refine g_aload_n X dX5_act_188 rfl rfl ?_
              refine r_g_top X dX5_act_189 ?_
              intro v23
              refine g_iconst (v := (1 : Int32)) X dX5_act_192 (by decide) ?_
              refine g_isub X dX5_act_193 ?_
              refine r_l_isObj X dX5_act_194 ?_
              intro v24
              refine g_icmp_ne (tgt := 225) X dX5_act_195 (by decide) ?_ ?_
              · exact g_pick [0] rfl (wR_act_b225 X n M20)
              · refine g_aload_n X dX5_act_198 rfl rfl ?_
                refine r_g_value X dX5_act_199 ?_
                refine g_aload_n X dX5_act_202 rfl rfl ?_
                refine r_g_top X dX5_act_203 ?_
                intro v25
                refine r_l_value X dX5_act_206 ?_
                intro v26
                refine g_aload_n X dX5_act_207 rfl rfl ?_
                refine r_g_value X dX5_act_208 ?_
                refine g_aload_n X dX5_act_211 rfl rfl ?_
                refine r_g_top X dX5_act_212 ?_
                intro v27
                refine g_iconst (v := (1 : Int32)) X dX5_act_215 (by decide) ?_
                refine g_isub X dX5_act_216 ?_
                refine r_l_value X dX5_act_217 ?_
                intro v28
                refine g_icmp_ne (tgt := 225) X dX5_act_218 (by decide) ?_ ?_
                · exact g_pick [0] rfl (wR_act_b225 X n M20)
                · refine g_iconst (v := (1 : Int32)) X dX5_act_221 (by decide) ?_
                  refine g_goto (tgt := 226) X dX5_act_222 (by decide) ?_
                  exact g_pick [0] rfl (wR_act_b226 X n (1 : Int32) M20)
          · refine g_aload_n X dX5_act_151 rfl rfl ?_
            refine g_iload_n X dX5_act_152 rfl rfl ?_
            refine k_reckon X ⟨Nat.le_of_ble_eq_true rfl, Nat.le_of_ble_eq_true rfl⟩ (Nat.le_of_ble_eq_true rfl) dX5_act_153 ?_
            intro v29 M29
            refine g_goto (tgt := 385) X dX5_act_156 (by decide) ?_
            exact r_vret X dX5_act_385
        · refine g_aload_n X dX5_act_136 rfl rfl ?_
          refine g_iload_n X dX5_act_137 rfl rfl ?_
          refine g_iload_n X dX5_act_138 rfl rfl ?_
          refine k_ofObject X ⟨Nat.le_of_ble_eq_true rfl, Nat.le_of_ble_eq_true rfl⟩ (Nat.le_of_ble_eq_true rfl) dX5_act_139 ?_
          intro v30 M30
          refine g_goto (tgt := 385) X dX5_act_142 (by decide) ?_
          exact r_vret X dX5_act_385
      · refine g_aload_n X dX5_act_121 rfl rfl ?_
        refine g_iload_n X dX5_act_122 rfl rfl ?_
        refine g_iload_n X dX5_act_123 rfl rfl ?_
        refine k_ask X ⟨Nat.le_of_ble_eq_true rfl, Nat.le_of_ble_eq_true rfl⟩ (Nat.le_of_ble_eq_true rfl) dX5_act_124 ?_
        intro v31 M31
        refine g_goto (tgt := 385) X dX5_act_127 (by decide) ?_
        exact r_vret X dX5_act_385
    · refine g_aload_n X dX5_act_78 rfl rfl ?_
      refine g_aload_n X dX5_act_79 rfl rfl ?_
      refine r_g_m X dX5_act_80 ?_
      refine g_iload_n X dX5_act_83 rfl rfl ?_
      refine k_editAt X ⟨Nat.le_of_ble_eq_true rfl, Nat.le_of_ble_eq_true rfl⟩ (Nat.le_of_ble_eq_true rfl) dX5_act_84 ?_
      intro v32 M32
      refine g_iconst (v := (3 : Int32)) X dX5_act_87 (by decide) ?_
      refine g_iadd X dX5_act_88 ?_
      refine r_l_m X dX5_act_89 ?_
      intro v33
      refine g_iconst (v := (1 : Int32)) X dX5_act_90 (by decide) ?_
      refine g_icmp_ne (tgt := 98) X dX5_act_91 (by decide) ?_ ?_
      · refine g_iconst (v := (0 : Int32)) X dX5_act_98 (by decide) ?_
        exact g_pick [0, 3] rfl (wR_act_b99 X n x3 (0 : Int32) M32)
      · refine g_iconst (v := (1 : Int32)) X dX5_act_94 (by decide) ?_
        refine g_goto (tgt := 99) X dX5_act_95 (by decide) ?_
        exact g_pick [0, 3] rfl (wR_act_b99 X n x3 (1 : Int32) M32)
  · refine g_aload_n X dX5_act_64 rfl rfl ?_
    refine g_iconst (v := (0 : Int32)) X dX5_act_65 (by decide) ?_
    refine g_iload_n X dX5_act_66 rfl rfl ?_
    refine k_push X ⟨Nat.le_of_ble_eq_true rfl, Nat.le_of_ble_eq_true rfl⟩ (Nat.le_of_ble_eq_true rfl) dX5_act_67 ?_
    intro v34 M34
    refine g_goto (tgt := 385) X dX5_act_70 (by decide) ?_
    exact r_vret X dX5_act_385
def fR_act_b28 (n : Nat) (x1 : Int32) (x2 : Int32) (s0 : Int32) (M : MR) : Option (Int32 × MR) :=
    if x2 = (2 : Int32) then
      (bnd (fR_make n s0 M) fun _ M2 =>
      some (0, M2))
    else
      (rd M 14 22 x1 fun v1 =>
      if (7 : Int32) < x2 then
        (fR_act_b58 n x1 x2 s0 x1 v1 (1 : Int32) M)
      else
        (fR_act_b58 n x1 x2 s0 x1 v1 (2 : Int32) M))
theorem wR_act_b28 (X : gX p s m args meth c cX5_act 5 RX5 none D (tyR cI cZ)) (n : Nat) (x1 : Int32) (x2 : Int32) (s0 : Int32) (M : MR) : gG p l e (rmR 7 162) s m args below meth c 5 (ZR D cI cZ q (AR q s.heap.size) s.heap M) 0 0 (fun r => MQ below (QV D cI cZ q s.heap.size r) args s 0 0 (AR q s.heap.size)) 28 [(0, .ref (q 34)), (1, .int x1), (2, .int x2)] [.int s0] (fR_act_b28 n x1 x2 s0 M) := by
  unfold fR_act_b28
  refine g_istore_n (lv' := [(3, .int s0), (0, .ref (q 34)), (1, .int x1), (2, .int x2)]) X dX5_act_28 rfl (by decide) rfl ?_
  refine g_iload_n X dX5_act_29 rfl rfl ?_
  refine g_iconst (v := (2 : Int32)) X dX5_act_30 (by decide) ?_
  refine g_icmp_ne (tgt := 40) X dX5_act_31 (by decide) ?_ ?_
  · refine g_aload_n X dX5_act_40 rfl rfl ?_
    refine r_g_place X dX5_act_41 ?_
    refine g_iload_n X dX5_act_44 rfl rfl ?_
    refine g_dup2 X dX5_act_45 rfl rfl ?_
    refine r_l_place X dX5_act_46 ?_
    intro v1
    refine g_iload_n X dX5_act_47 rfl rfl ?_
    refine g_bipush (v := (7 : Int32)) X dX5_act_48 (by decide) ?_
    refine g_icmp_gt (tgt := 57) X dX5_act_50 (by decide) ?_ ?_
    · refine g_iconst (v := (1 : Int32)) X dX5_act_57 (by decide) ?_
      exact g_pick [1, 2, 3, 0] rfl (wR_act_b58 X n x1 x2 s0 x1 v1 (1 : Int32) M)
    · refine g_iconst (v := (2 : Int32)) X dX5_act_53 (by decide) ?_
      refine g_goto (tgt := 58) X dX5_act_54 (by decide) ?_
      exact g_pick [1, 2, 3, 0] rfl (wR_act_b58 X n x1 x2 s0 x1 v1 (2 : Int32) M)
  · refine g_aload_n X dX5_act_34 rfl rfl ?_
    refine g_iload_n X dX5_act_35 rfl rfl ?_
    refine k_make X ⟨Nat.le_of_ble_eq_true rfl, Nat.le_of_ble_eq_true rfl⟩ (Nat.le_of_ble_eq_true rfl) dX5_act_36 ?_
    intro v2 M2
    exact r_vret X dX5_act_39
def fR_act (n : Nat) (M : MR) : Option (Int32 × MR) :=
    gf M 20 fun v1 =>
    bnd (fR_intAt n (0 : Int32) M) fun v2 M2 =>
    if (7 : Int32) < v2 then
      (fR_act_b28 n (v1 - (1 : Int32)) v2 (0 : Int32) M2)
    else
      (bnd (fR_intAt n (1 : Int32) M2) fun v3 M3 =>
      fR_act_b28 n (v1 - (1 : Int32)) v2 v3 M3)
theorem c_act (l : Launch) (D : va_G) (cI cZ : ClassId) (q : Nat → Nat) (n : Nat) (M : MR) : MetR l D cI cZ q yX5_act cX5_act 5 none 7 162 QV [.ref (q 34)] M (fR_act n M) := by
  refine MetR.of (by decide) rfl (Nat.le_of_ble_eq_true rfl) ?_
  intro p e s m args below meth c X
  unfold fR_act
  refine g_pick (lv' := [(0, .ref (q 34))]) [0] rfl ?_
  refine g_aload_n X dX5_act_0 rfl rfl ?_
  refine r_g_frames X dX5_act_1 ?_
  intro v1
  refine g_iconst (v := (1 : Int32)) X dX5_act_4 (by decide) ?_
  refine g_isub X dX5_act_5 ?_
  refine g_istore_n (lv' := [(1, .int (v1 - (1 : Int32))), (0, .ref (q 34))]) X dX5_act_6 rfl (by decide) rfl ?_
  refine g_aload_n X dX5_act_7 rfl rfl ?_
  refine g_iconst (v := (0 : Int32)) X dX5_act_8 (by decide) ?_
  refine k_intAt X ⟨Nat.le_of_ble_eq_true rfl, Nat.le_of_ble_eq_true rfl⟩ (Nat.le_of_ble_eq_true rfl) dX5_act_9 ?_
  intro v2 M2
  refine g_istore_n (lv' := [(2, .int v2), (1, .int (v1 - (1 : Int32))), (0, .ref (q 34))]) X dX5_act_12 rfl (by decide) rfl ?_
  refine g_iload_n X dX5_act_13 rfl rfl ?_
  refine g_bipush (v := (7 : Int32)) X dX5_act_14 (by decide) ?_
  refine g_icmp_gt (tgt := 27) X dX5_act_16 (by decide) ?_ ?_
  · refine g_iconst (v := (0 : Int32)) X dX5_act_27 (by decide) ?_
    exact g_pick [2, 1, 0] rfl (wR_act_b28 X n (v1 - (1 : Int32)) v2 (0 : Int32) M2)
  · refine g_aload_n X dX5_act_19 rfl rfl ?_
    refine g_iconst (v := (1 : Int32)) X dX5_act_20 (by decide) ?_
    refine k_intAt X ⟨Nat.le_of_ble_eq_true rfl, Nat.le_of_ble_eq_true rfl⟩ (Nat.le_of_ble_eq_true rfl) dX5_act_21 ?_
    intro v3 M3
    refine g_goto (tgt := 28) X dX5_act_24 (by decide) ?_
    exact g_pick [2, 1, 0] rfl (wR_act_b28 X n (v1 - (1 : Int32)) v2 v3 M3)
theorem tc_act : Cond.code yX5_act cX5_act 5 none ∈ tt := tt_in (List.mem_of_getElem? (i := 968) (by decide +kernel)) (by decide +kernel)
theorem tl_act : Cond.methodLink RX5 172 yX5_act ∈ tt := tt_in (List.mem_of_getElem? (i := 965) (by decide +kernel)) (by decide +kernel)
theorem ti_act : Cond.instanceMethod yX5_act ∈ tt := tt_in (List.mem_of_getElem? (i := 967) (by decide +kernel)) (by decide +kernel)
theorem te_act : Cond.selects RX5 yX5_act yX5_act ∈ tt := tt_in (List.mem_of_getElem? (i := 53) (by decide +kernel)) (by decide +kernel)
theorem k_act (X : gX p s m args meth c cc nL RX5 rt D (tyR cI cZ)) {n : Nat} {M : MR} {rest : List Value} {K : Int32 → MR → Option ρ} (hR : 7 + 1 ≤ R.frames ∧ 8 + (5 + 11) + 162 ≤ R.locals) (hcat : (rest.map fun v => v.category).sum ≤ 8) (d : decode cc pc = .ok (.invokevirtual 172, 3)) (kk : ∀ v M1, gG p l e R s m args below meth c nL (ZR D cI cZ q (AR q s.heap.size) s.heap M1) 0 0 QQ (pc + 3) lv (rest) (K v M1)) : gG p l e R s m args below meth c nL (ZR D cI cZ q (AR q s.heap.size) s.heap M) 0 0 QQ pc lv (.ref (q 34) :: rest) (bnd (fR_act n M) K) := r_callVv (As := []) X (c_act l D cI cZ q n M) (cwVR (k := 0) X.2.2.2.2.1 tl_act ti_act te_act tc_act ini5 (by decide +kernel) hR) rfl rfl hcat d kk
-- work
def fR_work_b114 (n : Nat) (k15 : MR → Option (Int32 × MR)) (M : MR) : Option (Int32 × MR) :=
    k15 M
theorem wR_work_b114 (X : gX p s m args meth c cX5_work 2 RX5 none D (tyR cI cZ)) (n : Nat) (k15 : MR → Option (Int32 × MR)) (hk15 : ∀  (M : MR), gG p l e (rmR 8 186) s m args below meth c 2 (ZR D cI cZ q (AR q s.heap.size) s.heap M) 0 0 (fun r => MQ below (QV D cI cZ q s.heap.size r) args s 0 0 (AR q s.heap.size)) 15 [(0, .ref (q 34))] [] (k15 M)) (M : MR) : gG p l e (rmR 8 186) s m args below meth c 2 (ZR D cI cZ q (AR q s.heap.size) s.heap M) 0 0 (fun r => MQ below (QV D cI cZ q s.heap.size r) args s 0 0 (AR q s.heap.size)) 114 [(0, .ref (q 34))] [] (fR_work_b114 n k15 M) := by
  unfold fR_work_b114
  refine g_goto (tgt := 15) X dX5_work_114 (by decide) ?_
  exact g_pick [0] rfl (hk15 M)
def fR_work_b101 (n : Nat) (k15 : MR → Option (Int32 × MR)) (s0 : Int32) (s1 : Int32) (M : MR) : Option (Int32 × MR) :=
    pf M 23 (s0 + s1) fun M1 =>
    zt (0 : Int32) (pf M1 22 (0 : Int32) fun M2 =>
    bnd (fR_act n M2) fun _ M3 =>
    fR_work_b114 n k15 M3)
theorem wR_work_b101 (X : gX p s m args meth c cX5_work 2 RX5 none D (tyR cI cZ)) (n : Nat) (k15 : MR → Option (Int32 × MR)) (hk15 : ∀  (M : MR), gG p l e (rmR 8 186) s m args below meth c 2 (ZR D cI cZ q (AR q s.heap.size) s.heap M) 0 0 (fun r => MQ below (QV D cI cZ q s.heap.size r) args s 0 0 (AR q s.heap.size)) 15 [(0, .ref (q 34))] [] (k15 M)) (s0 : Int32) (s1 : Int32) (M : MR) : gG p l e (rmR 8 186) s m args below meth c 2 (ZR D cI cZ q (AR q s.heap.size) s.heap M) 0 0 (fun r => MQ below (QV D cI cZ q s.heap.size r) args s 0 0 (AR q s.heap.size)) 101 [(0, .ref (q 34))] [.int s1, .int s0, .ref (q 34)] (fR_work_b101 n k15 s0 s1 M) := by
  unfold fR_work_b101
  refine g_iadd X dX5_work_101 ?_
  refine r_p_steps X dX5_work_102 ?_
  intro M1
  refine g_aload_n X dX5_work_105 rfl rfl ?_
  refine g_iconst (v := (0 : Int32)) X dX5_work_106 (by decide) ?_
  refine r_p_again X dX5_work_107 ?_
  intro M2
  refine g_aload_n X dX5_work_110 rfl rfl ?_
  refine k_act X ⟨Nat.le_of_ble_eq_true rfl, Nat.le_of_ble_eq_true rfl⟩ (Nat.le_of_ble_eq_true rfl) dX5_work_111 ?_
  intro v3 M3
  exact g_pick [0] rfl (wR_work_b114 X n k15 hk15 M3)
def fR_work_b84 (n : Nat) (k15 : MR → Option (Int32 × MR)) (M : MR) : Option (Int32 × MR) :=
    gf M 23 fun v1 =>
    gf M 22 fun v2 =>
    if v2 = 0 then (fR_work_b101 n k15 v1 (1 : Int32) M) else (fR_work_b101 n k15 v1 (0 : Int32) M)
theorem wR_work_b84 (X : gX p s m args meth c cX5_work 2 RX5 none D (tyR cI cZ)) (n : Nat) (k15 : MR → Option (Int32 × MR)) (hk15 : ∀  (M : MR), gG p l e (rmR 8 186) s m args below meth c 2 (ZR D cI cZ q (AR q s.heap.size) s.heap M) 0 0 (fun r => MQ below (QV D cI cZ q s.heap.size r) args s 0 0 (AR q s.heap.size)) 15 [(0, .ref (q 34))] [] (k15 M)) (M : MR) : gG p l e (rmR 8 186) s m args below meth c 2 (ZR D cI cZ q (AR q s.heap.size) s.heap M) 0 0 (fun r => MQ below (QV D cI cZ q s.heap.size r) args s 0 0 (AR q s.heap.size)) 84 [(0, .ref (q 34))] [] (fR_work_b84 n k15 M) := by
  unfold fR_work_b84
  refine g_aload_n X dX5_work_84 rfl rfl ?_
  refine g_dup X dX5_work_85 rfl ?_
  refine r_g_steps X dX5_work_86 ?_
  intro v1
  refine g_aload_n X dX5_work_89 rfl rfl ?_
  refine r_g_again X dX5_work_90 ?_
  intro v2
  refine g_if_eq (tgt := 100) X dX5_work_93 (by decide) ?_ ?_
  · refine g_iconst (v := (1 : Int32)) X dX5_work_100 (by decide) ?_
    exact g_pick [0] rfl (wR_work_b101 X n k15 hk15 v1 (1 : Int32) M)
  · refine g_iconst (v := (0 : Int32)) X dX5_work_96 (by decide) ?_
    refine g_goto (tgt := 101) X dX5_work_97 (by decide) ?_
    exact g_pick [0] rfl (wR_work_b101 X n k15 hk15 v1 (0 : Int32) M)
def fR_work_l15 (n : Nat) : Nat → MR → Option (Int32 × MR)
  | 0, _ => none
  | k + 1, M => gf M 20 fun v1 =>
    if v1 ≤ 0 then
      (some (0, M))
    else
      (gf M 24 fun v2 =>
      if v2 = 0 then
        (gf M 20 fun v3 =>
        rd M 14 22 (v3 - (1 : Int32)) fun v4 =>
        rd M 15 22 (v3 - (1 : Int32)) fun v5 =>
        if v4 = v5 then
          (bnd (fR_finish n M) fun _ M9 =>
          fR_work_b114 n (fR_work_l15 n k) M9)
        else
          (gf M 22 fun v6 =>
          if v6 = 0 then
            (gf M 23 fun v7 =>
            if v7 = (1000 : Int32) then
              (bnd (fR_fail n (100 : Int32) M) fun _ M8 =>
              fR_work_b114 n (fR_work_l15 n k) M8)
            else
              (fR_work_b84 n (fR_work_l15 n k) M))
          else
            (fR_work_b84 n (fR_work_l15 n k) M)))
      else
        (some (0, M)))
theorem wR_work_l15 (X : gX p s m args meth c cX5_work 2 RX5 none D (tyR cI cZ)) (n : Nat) : ∀ (k : Nat) (M : MR), gG p l e (rmR 8 186) s m args below meth c 2 (ZR D cI cZ q (AR q s.heap.size) s.heap M) 0 0 (fun r => MQ below (QV D cI cZ q s.heap.size r) args s 0 0 (AR q s.heap.size)) 15 [(0, .ref (q 34))] [] (fR_work_l15 n k M) := by
  intro k
  induction k with
  | zero =>
    intro M
    exact g_none
  | succ k ih =>
    intro M
    rw [fR_work_l15]
    refine g_aload_n X dX5_work_15 rfl rfl ?_
    refine r_g_frames X dX5_work_16 ?_
    intro v1
    refine g_if_le (tgt := 117) X dX5_work_19 (by decide) ?_ ?_
    · exact r_vret X dX5_work_117
    · refine g_aload_n X dX5_work_22 rfl rfl ?_
      refine r_g_failure X dX5_work_23 ?_
      intro v2
      refine g_if_ne (tgt := 117) X dX5_work_26 (by decide) ?_ ?_
      · exact r_vret X dX5_work_117
      · refine g_aload_n X dX5_work_29 rfl rfl ?_
        refine r_g_frames X dX5_work_30 ?_
        intro v3
        refine g_iconst (v := (1 : Int32)) X dX5_work_33 (by decide) ?_
        refine g_isub X dX5_work_34 ?_
        refine g_istore_n (lv' := [(1, .int (v3 - (1 : Int32))), (0, .ref (q 34))]) X dX5_work_35 rfl (by decide) rfl ?_
        refine g_aload_n X dX5_work_36 rfl rfl ?_
        refine r_g_place X dX5_work_37 ?_
        refine g_iload_n X dX5_work_40 rfl rfl ?_
        refine r_l_place X dX5_work_41 ?_
        intro v4
        refine g_aload_n X dX5_work_42 rfl rfl ?_
        refine r_g_end X dX5_work_43 ?_
        refine g_iload_n X dX5_work_46 rfl rfl ?_
        refine r_l_end X dX5_work_47 ?_
        intro v5
        refine g_icmp_ne (tgt := 58) X dX5_work_48 (by decide) ?_ ?_
        · refine g_aload_n X dX5_work_58 rfl rfl ?_
          refine r_g_again X dX5_work_59 ?_
          intro v6
          refine g_if_ne (tgt := 84) X dX5_work_62 (by decide) ?_ ?_
          · exact g_pick [1] rfl (wR_work_b84 X n (fR_work_l15 n k) ih M)
          · refine g_aload_n X dX5_work_65 rfl rfl ?_
            refine r_g_steps X dX5_work_66 ?_
            intro v7
            refine g_sipush (v := (1000 : Int32)) X dX5_work_69 (by decide) ?_
            refine g_icmp_ne (tgt := 84) X dX5_work_72 (by decide) ?_ ?_
            · exact g_pick [1] rfl (wR_work_b84 X n (fR_work_l15 n k) ih M)
            · refine g_aload_n X dX5_work_75 rfl rfl ?_
              refine g_bipush (v := (100 : Int32)) X dX5_work_76 (by decide) ?_
              refine k_fail X ⟨Nat.le_of_ble_eq_true rfl, Nat.le_of_ble_eq_true rfl⟩ (Nat.le_of_ble_eq_true rfl) dX5_work_78 ?_
              intro v8 M8
              refine g_goto (tgt := 114) X dX5_work_81 (by decide) ?_
              exact g_pick [1] rfl (wR_work_b114 X n (fR_work_l15 n k) ih M8)
        · refine g_aload_n X dX5_work_51 rfl rfl ?_
          refine k_finish X ⟨Nat.le_of_ble_eq_true rfl, Nat.le_of_ble_eq_true rfl⟩ (Nat.le_of_ble_eq_true rfl) dX5_work_52 ?_
          intro v9 M9
          refine g_goto (tgt := 114) X dX5_work_55 (by decide) ?_
          exact g_pick [1] rfl (wR_work_b114 X n (fR_work_l15 n k) ih M9)
def fR_work (n : Nat) (M : MR) : Option (Int32 × MR) :=
    pf M 23 (0 : Int32) fun M1 =>
    pf M1 24 (0 : Int32) fun M2 =>
    zt (0 : Int32) (pf M2 22 (0 : Int32) fun M3 =>
    fR_work_l15 n n M3)
theorem c_work (l : Launch) (D : va_G) (cI cZ : ClassId) (q : Nat → Nat) (n : Nat) (M : MR) : MetR l D cI cZ q yX5_work cX5_work 2 none 8 186 QV [.ref (q 34)] M (fR_work n M) := by
  refine MetR.of (by decide) rfl (Nat.le_of_ble_eq_true rfl) ?_
  intro p e s m args below meth c X
  unfold fR_work
  refine g_pick (lv' := [(0, .ref (q 34))]) [0] rfl ?_
  refine g_aload_n X dX5_work_0 rfl rfl ?_
  refine g_iconst (v := (0 : Int32)) X dX5_work_1 (by decide) ?_
  refine r_p_steps X dX5_work_2 ?_
  intro M1
  refine g_aload_n X dX5_work_5 rfl rfl ?_
  refine g_iconst (v := (0 : Int32)) X dX5_work_6 (by decide) ?_
  refine r_p_failure X dX5_work_7 ?_
  intro M2
  refine g_aload_n X dX5_work_10 rfl rfl ?_
  refine g_iconst (v := (0 : Int32)) X dX5_work_11 (by decide) ?_
  refine r_p_again X dX5_work_12 ?_
  intro M3
  exact g_pick [0] rfl (wR_work_l15 X n n M3)
theorem tc_work : Cond.code yX5_work cX5_work 2 none ∈ tt := tt_in (List.mem_of_getElem? (i := 956) (by decide +kernel)) (by decide +kernel)
theorem tl_work : Cond.methodLink RX5 233 yX5_work ∈ tt := tt_in (List.mem_of_getElem? (i := 953) (by decide +kernel)) (by decide +kernel)
theorem ti_work : Cond.instanceMethod yX5_work ∈ tt := tt_in (List.mem_of_getElem? (i := 955) (by decide +kernel)) (by decide +kernel)
theorem te_work : Cond.selects RX5 yX5_work yX5_work ∈ tt := tt_in (List.mem_of_getElem? (i := 50) (by decide +kernel)) (by decide +kernel)
theorem k_work (X : gX p s m args meth c cc nL RX5 rt D (tyR cI cZ)) {n : Nat} {M : MR} {rest : List Value} {K : Int32 → MR → Option ρ} (hR : 8 + 1 ≤ R.frames ∧ 8 + (2 + 11) + 186 ≤ R.locals) (hcat : (rest.map fun v => v.category).sum ≤ 8) (d : decode cc pc = .ok (.invokevirtual 233, 3)) (kk : ∀ v M1, gG p l e R s m args below meth c nL (ZR D cI cZ q (AR q s.heap.size) s.heap M1) 0 0 QQ (pc + 3) lv (rest) (K v M1)) : gG p l e R s m args below meth c nL (ZR D cI cZ q (AR q s.heap.size) s.heap M) 0 0 QQ pc lv (.ref (q 34) :: rest) (bnd (fR_work n M) K) := r_callVv (As := []) X (c_work l D cI cZ q n M) (cwVR (k := 0) X.2.2.2.2.1 tl_work ti_work te_work tc_work ini5 (by decide +kernel) hR) rfl rfl hcat d kk
-- newEdition
def fR_newEdition_l122 (n : Nat) : Nat → Int32 → Int32 → Int32 → MR → Option (Int32 × MR)
  | 0, _, _, _, _ => none
  | k + 1, x2, x3, x4, M => gf M 6 fun v1 =>
    if v1 ≤ x4 then
      (rd M 0 62610 (x3 + (0 : Int32)) fun v2 =>
      wr M 0 62610 ((4 : Int32) + v2) (x2 + (1 : Int32)) fun M3 =>
      some (x2, M3))
    else
      (rd M 5 60 x4 fun v4 =>
      wr M 0 62610 ((x3 + (8 : Int32)) + x4) v4 fun M5 =>
      (fR_newEdition_l122 n k) x2 x3 (x4 + (1 : Int32)) M5)
theorem wR_newEdition_l122 (X : gX p s m args meth c cX5_newEdition 5 RX5 (some .int) D (tyR cI cZ)) (n : Nat) : ∀ (k : Nat) (x2 : Int32) (x3 : Int32) (x4 : Int32) (M : MR), gG p l e (rmR 1 20) s m args below meth c 5 (ZR D cI cZ q (AR q s.heap.size) s.heap M) 0 0 (fun r => MQ below (QI D cI cZ q s.heap.size r) args s 0 0 (AR q s.heap.size)) 122 [(0, .ref (q 34)), (2, .int x2), (3, .int x3), (4, .int x4)] [] (fR_newEdition_l122 n k x2 x3 x4 M) := by
  intro k
  induction k with
  | zero =>
    intro x2 x3 x4 M
    exact g_none
  | succ k ih =>
    intro x2 x3 x4 M
    rw [fR_newEdition_l122]
    refine g_iload X dX5_newEdition_122 rfl ?_
    refine g_aload_n X dX5_newEdition_124 rfl rfl ?_
    refine r_g_length X dX5_newEdition_125 ?_
    intro v1
    refine g_icmp_ge (tgt := 156) X dX5_newEdition_128 (by decide) ?_ ?_
    · refine g_aload_n X dX5_newEdition_156 rfl rfl ?_
      refine r_g_m X dX5_newEdition_157 ?_
      refine g_iconst (v := (4 : Int32)) X dX5_newEdition_160 (by decide) ?_
      refine g_aload_n X dX5_newEdition_161 rfl rfl ?_
      refine r_g_m X dX5_newEdition_162 ?_
      refine g_iload_n X dX5_newEdition_165 rfl rfl ?_
      refine g_iconst (v := (0 : Int32)) X dX5_newEdition_166 (by decide) ?_
      refine g_iadd X dX5_newEdition_167 ?_
      refine r_l_m X dX5_newEdition_168 ?_
      intro v2
      refine g_iadd X dX5_newEdition_169 ?_
      refine g_iload_n X dX5_newEdition_170 rfl rfl ?_
      refine g_iconst (v := (1 : Int32)) X dX5_newEdition_171 (by decide) ?_
      refine g_iadd X dX5_newEdition_172 ?_
      refine r_s_m X dX5_newEdition_173 ?_
      intro M3
      refine g_iload_n X dX5_newEdition_174 rfl rfl ?_
      exact r_iret X dX5_newEdition_175
    · refine g_aload_n X dX5_newEdition_131 rfl rfl ?_
      refine r_g_m X dX5_newEdition_132 ?_
      refine g_iload_n X dX5_newEdition_135 rfl rfl ?_
      refine g_bipush (v := (8 : Int32)) X dX5_newEdition_136 (by decide) ?_
      refine g_iadd X dX5_newEdition_138 ?_
      refine g_iload X dX5_newEdition_139 rfl ?_
      refine g_iadd X dX5_newEdition_141 ?_
      refine g_aload_n X dX5_newEdition_142 rfl rfl ?_
      refine r_g_meant X dX5_newEdition_143 ?_
      refine g_iload X dX5_newEdition_146 rfl ?_
      refine r_l_meant X dX5_newEdition_148 ?_
      intro v4
      refine r_s_m X dX5_newEdition_149 ?_
      intro M5
      refine g_iinc (v := (1 : Int32)) (lv' := [(4, .int (x4 + (1 : Int32))), (0, .ref (q 34)), (2, .int x2), (3, .int x3)]) X dX5_newEdition_150 rfl (by decide) (by decide) rfl ?_
      refine g_goto (tgt := 122) X dX5_newEdition_153 (by decide) ?_
      exact g_pick [1, 2, 3, 0] rfl (ih x2 x3 (x4 + (1 : Int32)) M5)
def fR_newEdition (n : Nat) (x1 : Int32) (M : MR) : Option (Int32 × MR) :=
    rd M 0 62610 (1 : Int32) fun v1 =>
    rd M 0 62610 (1 : Int32) fun v2 =>
    wr M 0 62610 (1 : Int32) (v2 + (1 : Int32)) fun M3 =>
    bnd (fR_editAt n v1 M3) fun v4 M4 =>
    bnd (fR_cellAt n x1 M4) fun v5 M5 =>
    rd M5 0 62610 (v5 + (0 : Int32)) fun v6 =>
    wr M5 0 62610 (v4 + (0 : Int32)) v6 fun M7 =>
    bnd (fR_cellAt n x1 M7) fun v8 M8 =>
    rd M8 0 62610 (v8 + (1 : Int32)) fun v9 =>
    wr M8 0 62610 (v4 + (1 : Int32)) v9 fun M10 =>
    wr M10 0 62610 (v4 + (2 : Int32)) x1 fun M11 =>
    wr M11 0 62610 (v4 + (3 : Int32)) (0 : Int32) fun M12 =>
    wr M12 0 62610 (v4 + (4 : Int32)) (0 : Int32) fun M13 =>
    wr M13 0 62610 (v4 + (5 : Int32)) (0 : Int32) fun M14 =>
    wr M14 0 62610 (v4 + (6 : Int32)) (0 : Int32) fun M15 =>
    gf M15 6 fun v16 =>
    wr M15 0 62610 (v4 + (7 : Int32)) v16 fun M17 =>
    fR_newEdition_l122 n n v1 v4 (0 : Int32) M17
theorem c_newEdition (l : Launch) (D : va_G) (cI cZ : ClassId) (q : Nat → Nat) (n : Nat) (x1 : Int32) (M : MR) : MetR l D cI cZ q yX5_newEdition cX5_newEdition 5 (some .int) 1 20 QI [.ref (q 34), .int x1] M (fR_newEdition n x1 M) := by
  refine MetR.of (by decide) rfl (Nat.le_of_ble_eq_true rfl) ?_
  intro p e s m args below meth c X
  unfold fR_newEdition
  refine g_pick (lv' := [(0, .ref (q 34)), (1, .int x1)]) [0, 1] rfl ?_
  refine g_aload_n X dX5_newEdition_0 rfl rfl ?_
  refine r_g_m X dX5_newEdition_1 ?_
  refine g_iconst (v := (1 : Int32)) X dX5_newEdition_4 (by decide) ?_
  refine r_l_m X dX5_newEdition_5 ?_
  intro v1
  refine g_istore_n (lv' := [(2, .int v1), (0, .ref (q 34)), (1, .int x1)]) X dX5_newEdition_6 rfl (by decide) rfl ?_
  refine g_aload_n X dX5_newEdition_7 rfl rfl ?_
  refine r_g_m X dX5_newEdition_8 ?_
  refine g_iconst (v := (1 : Int32)) X dX5_newEdition_11 (by decide) ?_
  refine g_dup2 X dX5_newEdition_12 rfl rfl ?_
  refine r_l_m X dX5_newEdition_13 ?_
  intro v2
  refine g_iconst (v := (1 : Int32)) X dX5_newEdition_14 (by decide) ?_
  refine g_iadd X dX5_newEdition_15 ?_
  refine r_s_m X dX5_newEdition_16 ?_
  intro M3
  refine g_iload_n X dX5_newEdition_17 rfl rfl ?_
  refine k_editAt X ⟨Nat.le_of_ble_eq_true rfl, Nat.le_of_ble_eq_true rfl⟩ (Nat.le_of_ble_eq_true rfl) dX5_newEdition_18 ?_
  intro v4 M4
  refine g_istore_n (lv' := [(3, .int v4), (2, .int v1), (0, .ref (q 34)), (1, .int x1)]) X dX5_newEdition_21 rfl (by decide) rfl ?_
  refine g_aload_n X dX5_newEdition_22 rfl rfl ?_
  refine r_g_m X dX5_newEdition_23 ?_
  refine g_iload_n X dX5_newEdition_26 rfl rfl ?_
  refine g_iconst (v := (0 : Int32)) X dX5_newEdition_27 (by decide) ?_
  refine g_iadd X dX5_newEdition_28 ?_
  refine g_aload_n X dX5_newEdition_29 rfl rfl ?_
  refine r_g_m X dX5_newEdition_30 ?_
  refine g_iload_n X dX5_newEdition_33 rfl rfl ?_
  refine k_cellAt X ⟨Nat.le_of_ble_eq_true rfl, Nat.le_of_ble_eq_true rfl⟩ (Nat.le_of_ble_eq_true rfl) dX5_newEdition_34 ?_
  intro v5 M5
  refine g_iconst (v := (0 : Int32)) X dX5_newEdition_37 (by decide) ?_
  refine g_iadd X dX5_newEdition_38 ?_
  refine r_l_m X dX5_newEdition_39 ?_
  intro v6
  refine r_s_m X dX5_newEdition_40 ?_
  intro M7
  refine g_aload_n X dX5_newEdition_41 rfl rfl ?_
  refine r_g_m X dX5_newEdition_42 ?_
  refine g_iload_n X dX5_newEdition_45 rfl rfl ?_
  refine g_iconst (v := (1 : Int32)) X dX5_newEdition_46 (by decide) ?_
  refine g_iadd X dX5_newEdition_47 ?_
  refine g_aload_n X dX5_newEdition_48 rfl rfl ?_
  refine r_g_m X dX5_newEdition_49 ?_
  refine g_iload_n X dX5_newEdition_52 rfl rfl ?_
  refine k_cellAt X ⟨Nat.le_of_ble_eq_true rfl, Nat.le_of_ble_eq_true rfl⟩ (Nat.le_of_ble_eq_true rfl) dX5_newEdition_53 ?_
  intro v8 M8
  refine g_iconst (v := (1 : Int32)) X dX5_newEdition_56 (by decide) ?_
  refine g_iadd X dX5_newEdition_57 ?_
  refine r_l_m X dX5_newEdition_58 ?_
  intro v9
  refine r_s_m X dX5_newEdition_59 ?_
  intro M10
  refine g_aload_n X dX5_newEdition_60 rfl rfl ?_
  refine r_g_m X dX5_newEdition_61 ?_
  refine g_iload_n X dX5_newEdition_64 rfl rfl ?_
  refine g_iconst (v := (2 : Int32)) X dX5_newEdition_65 (by decide) ?_
  refine g_iadd X dX5_newEdition_66 ?_
  refine g_iload_n X dX5_newEdition_67 rfl rfl ?_
  refine r_s_m X dX5_newEdition_68 ?_
  intro M11
  refine g_aload_n X dX5_newEdition_69 rfl rfl ?_
  refine r_g_m X dX5_newEdition_70 ?_
  refine g_iload_n X dX5_newEdition_73 rfl rfl ?_
  refine g_iconst (v := (3 : Int32)) X dX5_newEdition_74 (by decide) ?_
  refine g_iadd X dX5_newEdition_75 ?_
  refine g_iconst (v := (0 : Int32)) X dX5_newEdition_76 (by decide) ?_
  refine r_s_m X dX5_newEdition_77 ?_
  intro M12
  refine g_aload_n X dX5_newEdition_78 rfl rfl ?_
  refine r_g_m X dX5_newEdition_79 ?_
  refine g_iload_n X dX5_newEdition_82 rfl rfl ?_
  refine g_iconst (v := (4 : Int32)) X dX5_newEdition_83 (by decide) ?_
  refine g_iadd X dX5_newEdition_84 ?_
  refine g_iconst (v := (0 : Int32)) X dX5_newEdition_85 (by decide) ?_
  refine r_s_m X dX5_newEdition_86 ?_
  intro M13
  refine g_aload_n X dX5_newEdition_87 rfl rfl ?_
  refine r_g_m X dX5_newEdition_88 ?_
  refine g_iload_n X dX5_newEdition_91 rfl rfl ?_
  refine g_iconst (v := (5 : Int32)) X dX5_newEdition_92 (by decide) ?_
  refine g_iadd X dX5_newEdition_93 ?_
  refine g_iconst (v := (0 : Int32)) X dX5_newEdition_94 (by decide) ?_
  refine r_s_m X dX5_newEdition_95 ?_
  intro M14
  refine g_aload_n X dX5_newEdition_96 rfl rfl ?_
  refine r_g_m X dX5_newEdition_97 ?_
  refine g_iload_n X dX5_newEdition_100 rfl rfl ?_
  refine g_bipush (v := (6 : Int32)) X dX5_newEdition_101 (by decide) ?_
  refine g_iadd X dX5_newEdition_103 ?_
  refine g_iconst (v := (0 : Int32)) X dX5_newEdition_104 (by decide) ?_
  refine r_s_m X dX5_newEdition_105 ?_
  intro M15
  refine g_aload_n X dX5_newEdition_106 rfl rfl ?_
  refine r_g_m X dX5_newEdition_107 ?_
  refine g_iload_n X dX5_newEdition_110 rfl rfl ?_
  refine g_bipush (v := (7 : Int32)) X dX5_newEdition_111 (by decide) ?_
  refine g_iadd X dX5_newEdition_113 ?_
  refine g_aload_n X dX5_newEdition_114 rfl rfl ?_
  refine r_g_length X dX5_newEdition_115 ?_
  intro v16
  refine r_s_m X dX5_newEdition_118 ?_
  intro M17
  refine g_iconst (v := (0 : Int32)) X dX5_newEdition_119 (by decide) ?_
  refine g_istore (lv' := [(4, .int (0 : Int32)), (3, .int v4), (2, .int v1), (0, .ref (q 34)), (1, .int x1)]) X dX5_newEdition_120 (by decide) rfl ?_
  exact g_pick [3, 2, 1, 0] rfl (wR_newEdition_l122 X n n v1 v4 (0 : Int32) M17)
theorem tc_newEdition : Cond.code yX5_newEdition cX5_newEdition 5 (some .int) ∈ tt := tt_in (List.mem_of_getElem? (i := 1055) (by decide +kernel)) (by decide +kernel)
theorem tl_newEdition : Cond.methodLink RX5 236 yX5_newEdition ∈ tt := tt_in (List.mem_of_getElem? (i := 1052) (by decide +kernel)) (by decide +kernel)
theorem ti_newEdition : Cond.instanceMethod yX5_newEdition ∈ tt := tt_in (List.mem_of_getElem? (i := 1054) (by decide +kernel)) (by decide +kernel)
theorem te_newEdition : Cond.selects RX5 yX5_newEdition yX5_newEdition ∈ tt := tt_in (List.mem_of_getElem? (i := 74) (by decide +kernel)) (by decide +kernel)
theorem k_newEdition (X : gX p s m args meth c cc nL RX5 rt D (tyR cI cZ)) {n : Nat} {x1 : Int32} {M : MR} {rest : List Value} {K : Int32 → MR → Option ρ} (hR : 1 + 1 ≤ R.frames ∧ 8 + (5 + 11) + 20 ≤ R.locals) (hcat : (rest.map fun v => v.category).sum ≤ 8) (d : decode cc pc = .ok (.invokevirtual 236, 3)) (kk : ∀ v M1, gG p l e R s m args below meth c nL (ZR D cI cZ q (AR q s.heap.size) s.heap M1) 0 0 QQ (pc + 3) lv (.int v :: rest) (K v M1)) : gG p l e R s m args below meth c nL (ZR D cI cZ q (AR q s.heap.size) s.heap M) 0 0 QQ pc lv (.int x1 :: .ref (q 34) :: rest) (bnd (fR_newEdition n x1 M) K) := r_callVi (As := [.int x1]) X (c_newEdition l D cI cZ q n x1 M) (cwVR (k := 1) X.2.2.2.2.1 tl_newEdition ti_newEdition te_newEdition tc_newEdition ini5 (by decide +kernel) hR) rfl rfl hcat d kk
end RM
end
section
theorem dX5_run_0 : decode cX5_run 0 = .ok (.iload_n 1, 1) := by decide +kernel
theorem dX5_run_1 : decode cX5_run 1 = .ok (.invokestatic 230, 3) := by decide +kernel
theorem dX5_run_4 : decode cX5_run 4 = .ok (.istore_n 2, 1) := by decide +kernel
theorem dX5_run_5 : decode cX5_run 5 = .ok (.iconst 0, 1) := by decide +kernel
theorem dX5_run_6 : decode cX5_run 6 = .ok (.istore_n 3, 1) := by decide +kernel
theorem dX5_run_7 : decode cX5_run 7 = .ok (.iconst 0, 1) := by decide +kernel
theorem dX5_run_8 : decode cX5_run 8 = .ok (.istore 4, 2) := by decide +kernel
theorem dX5_run_10 : decode cX5_run 10 = .ok (.iload 4, 2) := by decide +kernel
theorem dX5_run_12 : decode cX5_run 12 = .ok (.sipush 150, 3) := by decide +kernel
theorem dX5_run_15 : decode cX5_run 15 = .ok (.if_icmp .ge 35, 3) := by decide +kernel
theorem dX5_run_18 : decode cX5_run 18 = .ok (.aload_n 0, 1) := by decide +kernel
theorem dX5_run_19 : decode cX5_run 19 = .ok (.getfield 27, 3) := by decide +kernel
theorem dX5_run_22 : decode cX5_run 22 = .ok (.iload 4, 2) := by decide +kernel
theorem dX5_run_24 : decode cX5_run 24 = .ok (.baload, 1) := by decide +kernel
theorem dX5_run_25 : decode cX5_run 25 = .ok (.ifCond .eq 19, 3) := by decide +kernel
theorem dX5_run_28 : decode cX5_run 28 = .ok (.aload_n 0, 1) := by decide +kernel
theorem dX5_run_29 : decode cX5_run 29 = .ok (.getfield 8, 3) := by decide +kernel
theorem dX5_run_32 : decode cX5_run 32 = .ok (.iload_n 2, 1) := by decide +kernel
theorem dX5_run_33 : decode cX5_run 33 = .ok (.bipush 10, 2) := by decide +kernel
theorem dX5_run_35 : decode cX5_run 35 = .ok (.iadd, 1) := by decide +kernel
theorem dX5_run_36 : decode cX5_run 36 = .ok (.iload_n 3, 1) := by decide +kernel
theorem dX5_run_37 : decode cX5_run 37 = .ok (.iadd, 1) := by decide +kernel
theorem dX5_run_38 : decode cX5_run 38 = .ok (.iload 4, 2) := by decide +kernel
theorem dX5_run_40 : decode cX5_run 40 = .ok (.iastore, 1) := by decide +kernel
theorem dX5_run_41 : decode cX5_run 41 = .ok (.iinc 3 1, 3) := by decide +kernel
theorem dX5_run_44 : decode cX5_run 44 = .ok (.iinc 4 1, 3) := by decide +kernel
theorem dX5_run_47 : decode cX5_run 47 = .ok (.goto (-37), 3) := by decide +kernel
theorem dX5_run_50 : decode cX5_run 50 = .ok (.aload_n 0, 1) := by decide +kernel
theorem dX5_run_51 : decode cX5_run 51 = .ok (.getfield 8, 3) := by decide +kernel
theorem dX5_run_54 : decode cX5_run 54 = .ok (.iload_n 2, 1) := by decide +kernel
theorem dX5_run_55 : decode cX5_run 55 = .ok (.bipush 8, 2) := by decide +kernel
theorem dX5_run_57 : decode cX5_run 57 = .ok (.iadd, 1) := by decide +kernel
theorem dX5_run_58 : decode cX5_run 58 = .ok (.iload_n 3, 1) := by decide +kernel
theorem dX5_run_59 : decode cX5_run 59 = .ok (.iastore, 1) := by decide +kernel
theorem dX5_run_60 : decode cX5_run 60 = .ok (.aload_n 0, 1) := by decide +kernel
theorem dX5_run_61 : decode cX5_run 61 = .ok (.iconst 0, 1) := by decide +kernel
theorem dX5_run_62 : decode cX5_run 62 = .ok (.putfield 159, 3) := by decide +kernel
theorem dX5_run_65 : decode cX5_run 65 = .ok (.aload_n 0, 1) := by decide +kernel
theorem dX5_run_66 : decode cX5_run 66 = .ok (.iconst 0, 1) := by decide +kernel
theorem dX5_run_67 : decode cX5_run 67 = .ok (.putfield 156, 3) := by decide +kernel
theorem dX5_run_70 : decode cX5_run 70 = .ok (.aload_n 0, 1) := by decide +kernel
theorem dX5_run_71 : decode cX5_run 71 = .ok (.iconst 0, 1) := by decide +kernel
theorem dX5_run_72 : decode cX5_run 72 = .ok (.putfield 215, 3) := by decide +kernel
theorem dX5_run_75 : decode cX5_run 75 = .ok (.aload_n 0, 1) := by decide +kernel
theorem dX5_run_76 : decode cX5_run 76 = .ok (.iconst 0, 1) := by decide +kernel
theorem dX5_run_77 : decode cX5_run 77 = .ok (.putfield 147, 3) := by decide +kernel
theorem dX5_run_80 : decode cX5_run 80 = .ok (.aload_n 0, 1) := by decide +kernel
theorem dX5_run_81 : decode cX5_run 81 = .ok (.iconst 0, 1) := by decide +kernel
theorem dX5_run_82 : decode cX5_run 82 = .ok (.putfield 150, 3) := by decide +kernel
theorem dX5_run_85 : decode cX5_run 85 = .ok (.aload_n 0, 1) := by decide +kernel
theorem dX5_run_86 : decode cX5_run 86 = .ok (.iconst 0, 1) := by decide +kernel
theorem dX5_run_87 : decode cX5_run 87 = .ok (.putfield 153, 3) := by decide +kernel
theorem dX5_run_90 : decode cX5_run 90 = .ok (.aload_n 0, 1) := by decide +kernel
theorem dX5_run_91 : decode cX5_run 91 = .ok (.getfield 8, 3) := by decide +kernel
theorem dX5_run_94 : decode cX5_run 94 = .ok (.iload_n 2, 1) := by decide +kernel
theorem dX5_run_95 : decode cX5_run 95 = .ok (.iconst 1, 1) := by decide +kernel
theorem dX5_run_96 : decode cX5_run 96 = .ok (.iadd, 1) := by decide +kernel
theorem dX5_run_97 : decode cX5_run 97 = .ok (.iaload, 1) := by decide +kernel
theorem dX5_run_98 : decode cX5_run 98 = .ok (.ifCond .ne 19, 3) := by decide +kernel
theorem dX5_run_101 : decode cX5_run 101 = .ok (.aload_n 0, 1) := by decide +kernel
theorem dX5_run_102 : decode cX5_run 102 = .ok (.iconst (-1), 1) := by decide +kernel
theorem dX5_run_103 : decode cX5_run 103 = .ok (.iconst 0, 1) := by decide +kernel
theorem dX5_run_104 : decode cX5_run 104 = .ok (.aload_n 0, 1) := by decide +kernel
theorem dX5_run_105 : decode cX5_run 105 = .ok (.getfield 90, 3) := by decide +kernel
theorem dX5_run_108 : decode cX5_run 108 = .ok (.iconst (-1), 1) := by decide +kernel
theorem dX5_run_109 : decode cX5_run 109 = .ok (.iconst (-1), 1) := by decide +kernel
theorem dX5_run_110 : decode cX5_run 110 = .ok (.invokevirtual 211, 3) := by decide +kernel
theorem dX5_run_113 : decode cX5_run 113 = .ok (.aload_n 0, 1) := by decide +kernel
theorem dX5_run_114 : decode cX5_run 114 = .ok (.invokevirtual 233, 3) := by decide +kernel
theorem dX5_run_117 : decode cX5_run 117 = .ok (.aload_n 0, 1) := by decide +kernel
theorem dX5_run_118 : decode cX5_run 118 = .ok (.getfield 8, 3) := by decide +kernel
theorem dX5_run_121 : decode cX5_run 121 = .ok (.iload_n 2, 1) := by decide +kernel
theorem dX5_run_122 : decode cX5_run 122 = .ok (.iconst 3, 1) := by decide +kernel
theorem dX5_run_123 : decode cX5_run 123 = .ok (.iadd, 1) := by decide +kernel
theorem dX5_run_124 : decode cX5_run 124 = .ok (.aload_n 0, 1) := by decide +kernel
theorem dX5_run_125 : decode cX5_run 125 = .ok (.getfield 156, 3) := by decide +kernel
theorem dX5_run_128 : decode cX5_run 128 = .ok (.ifCond .ne 7, 3) := by decide +kernel
theorem dX5_run_131 : decode cX5_run 131 = .ok (.iconst 0, 1) := by decide +kernel
theorem dX5_run_132 : decode cX5_run 132 = .ok (.goto 17, 3) := by decide +kernel
theorem dX5_run_135 : decode cX5_run 135 = .ok (.aload_n 0, 1) := by decide +kernel
theorem dX5_run_136 : decode cX5_run 136 = .ok (.getfield 156, 3) := by decide +kernel
theorem dX5_run_139 : decode cX5_run 139 = .ok (.bipush 100, 2) := by decide +kernel
theorem dX5_run_141 : decode cX5_run 141 = .ok (.if_icmp .ne 7, 3) := by decide +kernel
theorem dX5_run_144 : decode cX5_run 144 = .ok (.iconst 2, 1) := by decide +kernel
theorem dX5_run_145 : decode cX5_run 145 = .ok (.goto 4, 3) := by decide +kernel
theorem dX5_run_148 : decode cX5_run 148 = .ok (.iconst 1, 1) := by decide +kernel
theorem dX5_run_149 : decode cX5_run 149 = .ok (.iastore, 1) := by decide +kernel
theorem dX5_run_150 : decode cX5_run 150 = .ok (.aload_n 0, 1) := by decide +kernel
theorem dX5_run_151 : decode cX5_run 151 = .ok (.getfield 8, 3) := by decide +kernel
theorem dX5_run_154 : decode cX5_run 154 = .ok (.iload_n 2, 1) := by decide +kernel
theorem dX5_run_155 : decode cX5_run 155 = .ok (.iconst 4, 1) := by decide +kernel
theorem dX5_run_156 : decode cX5_run 156 = .ok (.iadd, 1) := by decide +kernel
theorem dX5_run_157 : decode cX5_run 157 = .ok (.aload_n 0, 1) := by decide +kernel
theorem dX5_run_158 : decode cX5_run 158 = .ok (.getfield 156, 3) := by decide +kernel
theorem dX5_run_161 : decode cX5_run 161 = .ok (.bipush 100, 2) := by decide +kernel
theorem dX5_run_163 : decode cX5_run 163 = .ok (.if_icmp .ne 7, 3) := by decide +kernel
theorem dX5_run_166 : decode cX5_run 166 = .ok (.iconst 0, 1) := by decide +kernel
theorem dX5_run_167 : decode cX5_run 167 = .ok (.goto 7, 3) := by decide +kernel
theorem dX5_run_170 : decode cX5_run 170 = .ok (.aload_n 0, 1) := by decide +kernel
theorem dX5_run_171 : decode cX5_run 171 = .ok (.getfield 156, 3) := by decide +kernel
theorem dX5_run_174 : decode cX5_run 174 = .ok (.iastore, 1) := by decide +kernel
theorem dX5_run_175 : decode cX5_run 175 = .ok (.aload_n 0, 1) := by decide +kernel
theorem dX5_run_176 : decode cX5_run 176 = .ok (.getfield 8, 3) := by decide +kernel
theorem dX5_run_179 : decode cX5_run 179 = .ok (.iload_n 2, 1) := by decide +kernel
theorem dX5_run_180 : decode cX5_run 180 = .ok (.iconst 5, 1) := by decide +kernel
theorem dX5_run_181 : decode cX5_run 181 = .ok (.iadd, 1) := by decide +kernel
theorem dX5_run_182 : decode cX5_run 182 = .ok (.aload_n 0, 1) := by decide +kernel
theorem dX5_run_183 : decode cX5_run 183 = .ok (.getfield 159, 3) := by decide +kernel
theorem dX5_run_186 : decode cX5_run 186 = .ok (.iastore, 1) := by decide +kernel
theorem dX5_run_187 : decode cX5_run 187 = .ok (.aload_n 0, 1) := by decide +kernel
theorem dX5_run_188 : decode cX5_run 188 = .ok (.getfield 8, 3) := by decide +kernel
theorem dX5_run_191 : decode cX5_run 191 = .ok (.iload_n 2, 1) := by decide +kernel
theorem dX5_run_192 : decode cX5_run 192 = .ok (.bipush 6, 2) := by decide +kernel
theorem dX5_run_194 : decode cX5_run 194 = .ok (.iadd, 1) := by decide +kernel
theorem dX5_run_195 : decode cX5_run 195 = .ok (.aload_n 0, 1) := by decide +kernel
theorem dX5_run_196 : decode cX5_run 196 = .ok (.getfield 215, 3) := by decide +kernel
theorem dX5_run_199 : decode cX5_run 199 = .ok (.iastore, 1) := by decide +kernel
theorem dX5_run_200 : decode cX5_run 200 = .ok (.iconst 0, 1) := by decide +kernel
theorem dX5_run_201 : decode cX5_run 201 = .ok (.istore 4, 2) := by decide +kernel
theorem dX5_run_203 : decode cX5_run 203 = .ok (.iload 4, 2) := by decide +kernel
theorem dX5_run_205 : decode cX5_run 205 = .ok (.bipush 20, 2) := by decide +kernel
theorem dX5_run_207 : decode cX5_run 207 = .ok (.if_icmp .ge 83, 3) := by decide +kernel
theorem dX5_run_210 : decode cX5_run 210 = .ok (.aload_n 0, 1) := by decide +kernel
theorem dX5_run_211 : decode cX5_run 211 = .ok (.getfield 8, 3) := by decide +kernel
theorem dX5_run_214 : decode cX5_run 214 = .ok (.iload_n 2, 1) := by decide +kernel
theorem dX5_run_215 : decode cX5_run 215 = .ok (.bipush 71, 2) := by decide +kernel
theorem dX5_run_217 : decode cX5_run 217 = .ok (.iadd, 1) := by decide +kernel
theorem dX5_run_218 : decode cX5_run 218 = .ok (.iconst 2, 1) := by decide +kernel
theorem dX5_run_219 : decode cX5_run 219 = .ok (.iload 4, 2) := by decide +kernel
theorem dX5_run_221 : decode cX5_run 221 = .ok (.imul, 1) := by decide +kernel
theorem dX5_run_222 : decode cX5_run 222 = .ok (.iadd, 1) := by decide +kernel
theorem dX5_run_223 : decode cX5_run 223 = .ok (.iload 4, 2) := by decide +kernel
theorem dX5_run_225 : decode cX5_run 225 = .ok (.aload_n 0, 1) := by decide +kernel
theorem dX5_run_226 : decode cX5_run 226 = .ok (.getfield 215, 3) := by decide +kernel
theorem dX5_run_229 : decode cX5_run 229 = .ok (.if_icmp .ge 17, 3) := by decide +kernel
theorem dX5_run_232 : decode cX5_run 232 = .ok (.aload_n 0, 1) := by decide +kernel
theorem dX5_run_233 : decode cX5_run 233 = .ok (.getfield 57, 3) := by decide +kernel
theorem dX5_run_236 : decode cX5_run 236 = .ok (.iload 4, 2) := by decide +kernel
theorem dX5_run_238 : decode cX5_run 238 = .ok (.baload, 1) := by decide +kernel
theorem dX5_run_239 : decode cX5_run 239 = .ok (.ifCond .eq 7, 3) := by decide +kernel
theorem dX5_run_242 : decode cX5_run 242 = .ok (.iconst 1, 1) := by decide +kernel
theorem dX5_run_243 : decode cX5_run 243 = .ok (.goto 4, 3) := by decide +kernel
theorem dX5_run_246 : decode cX5_run 246 = .ok (.iconst 0, 1) := by decide +kernel
theorem dX5_run_247 : decode cX5_run 247 = .ok (.iastore, 1) := by decide +kernel
theorem dX5_run_248 : decode cX5_run 248 = .ok (.aload_n 0, 1) := by decide +kernel
theorem dX5_run_249 : decode cX5_run 249 = .ok (.getfield 8, 3) := by decide +kernel
theorem dX5_run_252 : decode cX5_run 252 = .ok (.iload_n 2, 1) := by decide +kernel
theorem dX5_run_253 : decode cX5_run 253 = .ok (.bipush 71, 2) := by decide +kernel
theorem dX5_run_255 : decode cX5_run 255 = .ok (.iadd, 1) := by decide +kernel
theorem dX5_run_256 : decode cX5_run 256 = .ok (.iconst 2, 1) := by decide +kernel
theorem dX5_run_257 : decode cX5_run 257 = .ok (.iload 4, 2) := by decide +kernel
theorem dX5_run_259 : decode cX5_run 259 = .ok (.imul, 1) := by decide +kernel
theorem dX5_run_260 : decode cX5_run 260 = .ok (.iadd, 1) := by decide +kernel
theorem dX5_run_261 : decode cX5_run 261 = .ok (.iconst 1, 1) := by decide +kernel
theorem dX5_run_262 : decode cX5_run 262 = .ok (.iadd, 1) := by decide +kernel
theorem dX5_run_263 : decode cX5_run 263 = .ok (.iload 4, 2) := by decide +kernel
theorem dX5_run_265 : decode cX5_run 265 = .ok (.aload_n 0, 1) := by decide +kernel
theorem dX5_run_266 : decode cX5_run 266 = .ok (.getfield 215, 3) := by decide +kernel
theorem dX5_run_269 : decode cX5_run 269 = .ok (.if_icmp .ge 13, 3) := by decide +kernel
theorem dX5_run_272 : decode cX5_run 272 = .ok (.aload_n 0, 1) := by decide +kernel
theorem dX5_run_273 : decode cX5_run 273 = .ok (.getfield 60, 3) := by decide +kernel
theorem dX5_run_276 : decode cX5_run 276 = .ok (.iload 4, 2) := by decide +kernel
theorem dX5_run_278 : decode cX5_run 278 = .ok (.iaload, 1) := by decide +kernel
theorem dX5_run_279 : decode cX5_run 279 = .ok (.goto 4, 3) := by decide +kernel
theorem dX5_run_282 : decode cX5_run 282 = .ok (.iconst 0, 1) := by decide +kernel
theorem dX5_run_283 : decode cX5_run 283 = .ok (.iastore, 1) := by decide +kernel
theorem dX5_run_284 : decode cX5_run 284 = .ok (.iinc 4 1, 3) := by decide +kernel
theorem dX5_run_287 : decode cX5_run 287 = .ok (.goto (-84), 3) := by decide +kernel
theorem dX5_run_290 : decode cX5_run 290 = .ok (.aload_n 0, 1) := by decide +kernel
theorem dX5_run_291 : decode cX5_run 291 = .ok (.getfield 8, 3) := by decide +kernel
theorem dX5_run_294 : decode cX5_run 294 = .ok (.iload_n 2, 1) := by decide +kernel
theorem dX5_run_295 : decode cX5_run 295 = .ok (.bipush 7, 2) := by decide +kernel
theorem dX5_run_297 : decode cX5_run 297 = .ok (.iadd, 1) := by decide +kernel
theorem dX5_run_298 : decode cX5_run 298 = .ok (.iconst 0, 1) := by decide +kernel
theorem dX5_run_299 : decode cX5_run 299 = .ok (.iastore, 1) := by decide +kernel
theorem dX5_run_300 : decode cX5_run 300 = .ok (.aload_n 0, 1) := by decide +kernel
theorem dX5_run_301 : decode cX5_run 301 = .ok (.getfield 156, 3) := by decide +kernel
theorem dX5_run_304 : decode cX5_run 304 = .ok (.ifCond .ne 93, 3) := by decide +kernel
theorem dX5_run_307 : decode cX5_run 307 = .ok (.aload_n 0, 1) := by decide +kernel
theorem dX5_run_308 : decode cX5_run 308 = .ok (.iload_n 1, 1) := by decide +kernel
theorem dX5_run_309 : decode cX5_run 309 = .ok (.invokevirtual 236, 3) := by decide +kernel
theorem dX5_run_312 : decode cX5_run 312 = .ok (.istore 4, 2) := by decide +kernel
theorem dX5_run_314 : decode cX5_run 314 = .ok (.aload_n 0, 1) := by decide +kernel
theorem dX5_run_315 : decode cX5_run 315 = .ok (.getfield 8, 3) := by decide +kernel
theorem dX5_run_318 : decode cX5_run 318 = .ok (.iload_n 2, 1) := by decide +kernel
theorem dX5_run_319 : decode cX5_run 319 = .ok (.bipush 7, 2) := by decide +kernel
theorem dX5_run_321 : decode cX5_run 321 = .ok (.iadd, 1) := by decide +kernel
theorem dX5_run_322 : decode cX5_run 322 = .ok (.iload 4, 2) := by decide +kernel
theorem dX5_run_324 : decode cX5_run 324 = .ok (.iconst 1, 1) := by decide +kernel
theorem dX5_run_325 : decode cX5_run 325 = .ok (.iadd, 1) := by decide +kernel
theorem dX5_run_326 : decode cX5_run 326 = .ok (.iastore, 1) := by decide +kernel
theorem dX5_run_327 : decode cX5_run 327 = .ok (.aload_n 0, 1) := by decide +kernel
theorem dX5_run_328 : decode cX5_run 328 = .ok (.getfield 8, 3) := by decide +kernel
theorem dX5_run_331 : decode cX5_run 331 = .ok (.iload 4, 2) := by decide +kernel
theorem dX5_run_333 : decode cX5_run 333 = .ok (.invokestatic 73, 3) := by decide +kernel
theorem dX5_run_336 : decode cX5_run 336 = .ok (.iconst 3, 1) := by decide +kernel
theorem dX5_run_337 : decode cX5_run 337 = .ok (.iadd, 1) := by decide +kernel
theorem dX5_run_338 : decode cX5_run 338 = .ok (.aload_n 0, 1) := by decide +kernel
theorem dX5_run_339 : decode cX5_run 339 = .ok (.getfield 8, 3) := by decide +kernel
theorem dX5_run_342 : decode cX5_run 342 = .ok (.iload_n 2, 1) := by decide +kernel
theorem dX5_run_343 : decode cX5_run 343 = .ok (.iconst 1, 1) := by decide +kernel
theorem dX5_run_344 : decode cX5_run 344 = .ok (.iadd, 1) := by decide +kernel
theorem dX5_run_345 : decode cX5_run 345 = .ok (.iaload, 1) := by decide +kernel
theorem dX5_run_346 : decode cX5_run 346 = .ok (.ifCond .ne 16, 3) := by decide +kernel
theorem dX5_run_349 : decode cX5_run 349 = .ok (.aload_n 0, 1) := by decide +kernel
theorem dX5_run_350 : decode cX5_run 350 = .ok (.getfield 30, 3) := by decide +kernel
theorem dX5_run_353 : decode cX5_run 353 = .ok (.iconst 0, 1) := by decide +kernel
theorem dX5_run_354 : decode cX5_run 354 = .ok (.baload, 1) := by decide +kernel
theorem dX5_run_355 : decode cX5_run 355 = .ok (.ifCond .eq 7, 3) := by decide +kernel
theorem dX5_run_358 : decode cX5_run 358 = .ok (.iconst 1, 1) := by decide +kernel
theorem dX5_run_359 : decode cX5_run 359 = .ok (.goto 4, 3) := by decide +kernel
theorem dX5_run_362 : decode cX5_run 362 = .ok (.iconst 0, 1) := by decide +kernel
theorem dX5_run_363 : decode cX5_run 363 = .ok (.iastore, 1) := by decide +kernel
theorem dX5_run_364 : decode cX5_run 364 = .ok (.aload_n 0, 1) := by decide +kernel
theorem dX5_run_365 : decode cX5_run 365 = .ok (.getfield 8, 3) := by decide +kernel
theorem dX5_run_368 : decode cX5_run 368 = .ok (.iload 4, 2) := by decide +kernel
theorem dX5_run_370 : decode cX5_run 370 = .ok (.invokestatic 73, 3) := by decide +kernel
theorem dX5_run_373 : decode cX5_run 373 = .ok (.iconst 4, 1) := by decide +kernel
theorem dX5_run_374 : decode cX5_run 374 = .ok (.iadd, 1) := by decide +kernel
theorem dX5_run_375 : decode cX5_run 375 = .ok (.aload_n 0, 1) := by decide +kernel
theorem dX5_run_376 : decode cX5_run 376 = .ok (.getfield 8, 3) := by decide +kernel
theorem dX5_run_379 : decode cX5_run 379 = .ok (.iload_n 2, 1) := by decide +kernel
theorem dX5_run_380 : decode cX5_run 380 = .ok (.iconst 1, 1) := by decide +kernel
theorem dX5_run_381 : decode cX5_run 381 = .ok (.iadd, 1) := by decide +kernel
theorem dX5_run_382 : decode cX5_run 382 = .ok (.iaload, 1) := by decide +kernel
theorem dX5_run_383 : decode cX5_run 383 = .ok (.ifCond .ne 12, 3) := by decide +kernel
theorem dX5_run_386 : decode cX5_run 386 = .ok (.aload_n 0, 1) := by decide +kernel
theorem dX5_run_387 : decode cX5_run 387 = .ok (.getfield 33, 3) := by decide +kernel
theorem dX5_run_390 : decode cX5_run 390 = .ok (.iconst 0, 1) := by decide +kernel
theorem dX5_run_391 : decode cX5_run 391 = .ok (.iaload, 1) := by decide +kernel
theorem dX5_run_392 : decode cX5_run 392 = .ok (.goto 4, 3) := by decide +kernel
theorem dX5_run_395 : decode cX5_run 395 = .ok (.iconst 0, 1) := by decide +kernel
theorem dX5_run_396 : decode cX5_run 396 = .ok (.iastore, 1) := by decide +kernel
theorem dX5_run_397 : decode cX5_run 397 = .ok (.aload_n 0, 1) := by decide +kernel
theorem dX5_run_398 : decode cX5_run 398 = .ok (.getfield 8, 3) := by decide +kernel
theorem dX5_run_401 : decode cX5_run 401 = .ok (.iload_n 2, 1) := by decide +kernel
theorem dX5_run_402 : decode cX5_run 402 = .ok (.iconst 3, 1) := by decide +kernel
theorem dX5_run_403 : decode cX5_run 403 = .ok (.iadd, 1) := by decide +kernel
theorem dX5_run_404 : decode cX5_run 404 = .ok (.iaload, 1) := by decide +kernel
theorem dX5_run_405 : decode cX5_run 405 = .ok (.ireturn, 1) := by decide +kernel
theorem dX5_lookAtTape_0 : decode cX5_lookAtTape 0 = .ok (.aload_n 0, 1) := by decide +kernel
theorem dX5_lookAtTape_1 : decode cX5_lookAtTape 1 = .ok (.aload_n 0, 1) := by decide +kernel
theorem dX5_lookAtTape_2 : decode cX5_lookAtTape 2 = .ok (.getfield 80, 3) := by decide +kernel
theorem dX5_lookAtTape_5 : decode cX5_lookAtTape 5 = .ok (.putfield 90, 3) := by decide +kernel
theorem dX5_lookAtTape_8 : decode cX5_lookAtTape 8 = .ok (.iconst 0, 1) := by decide +kernel
theorem dX5_lookAtTape_9 : decode cX5_lookAtTape 9 = .ok (.istore_n 2, 1) := by decide +kernel
theorem dX5_lookAtTape_10 : decode cX5_lookAtTape 10 = .ok (.iload_n 2, 1) := by decide +kernel
theorem dX5_lookAtTape_11 : decode cX5_lookAtTape 11 = .ok (.aload_n 0, 1) := by decide +kernel
theorem dX5_lookAtTape_12 : decode cX5_lookAtTape 12 = .ok (.getfield 80, 3) := by decide +kernel
theorem dX5_lookAtTape_15 : decode cX5_lookAtTape 15 = .ok (.if_icmp .ge 21, 3) := by decide +kernel
theorem dX5_lookAtTape_18 : decode cX5_lookAtTape 18 = .ok (.aload_n 0, 1) := by decide +kernel
theorem dX5_lookAtTape_19 : decode cX5_lookAtTape 19 = .ok (.getfield 21, 3) := by decide +kernel
theorem dX5_lookAtTape_22 : decode cX5_lookAtTape 22 = .ok (.iload_n 2, 1) := by decide +kernel
theorem dX5_lookAtTape_23 : decode cX5_lookAtTape 23 = .ok (.aload_n 0, 1) := by decide +kernel
theorem dX5_lookAtTape_24 : decode cX5_lookAtTape 24 = .ok (.getfield 18, 3) := by decide +kernel
theorem dX5_lookAtTape_27 : decode cX5_lookAtTape 27 = .ok (.iload_n 2, 1) := by decide +kernel
theorem dX5_lookAtTape_28 : decode cX5_lookAtTape 28 = .ok (.iaload, 1) := by decide +kernel
theorem dX5_lookAtTape_29 : decode cX5_lookAtTape 29 = .ok (.iastore, 1) := by decide +kernel
theorem dX5_lookAtTape_30 : decode cX5_lookAtTape 30 = .ok (.iinc 2 1, 3) := by decide +kernel
theorem dX5_lookAtTape_33 : decode cX5_lookAtTape 33 = .ok (.goto (-23), 3) := by decide +kernel
theorem dX5_lookAtTape_36 : decode cX5_lookAtTape 36 = .ok (.aload_n 0, 1) := by decide +kernel
theorem dX5_lookAtTape_37 : decode cX5_lookAtTape 37 = .ok (.iload_n 1, 1) := by decide +kernel
theorem dX5_lookAtTape_38 : decode cX5_lookAtTape 38 = .ok (.invokevirtual 239, 3) := by decide +kernel
theorem dX5_lookAtTape_41 : decode cX5_lookAtTape 41 = .ok (.ireturn, 1) := by decide +kernel
theorem dX5_lookAtCell_0 : decode cX5_lookAtCell 0 = .ok (.aload_n 0, 1) := by decide +kernel
theorem dX5_lookAtCell_1 : decode cX5_lookAtCell 1 = .ok (.aload_n 0, 1) := by decide +kernel
theorem dX5_lookAtCell_2 : decode cX5_lookAtCell 2 = .ok (.getfield 8, 3) := by decide +kernel
theorem dX5_lookAtCell_5 : decode cX5_lookAtCell 5 = .ok (.iload_n 1, 1) := by decide +kernel
theorem dX5_lookAtCell_6 : decode cX5_lookAtCell 6 = .ok (.invokestatic 230, 3) := by decide +kernel
theorem dX5_lookAtCell_9 : decode cX5_lookAtCell 9 = .ok (.iconst 2, 1) := by decide +kernel
theorem dX5_lookAtCell_10 : decode cX5_lookAtCell 10 = .ok (.iadd, 1) := by decide +kernel
theorem dX5_lookAtCell_11 : decode cX5_lookAtCell 11 = .ok (.iaload, 1) := by decide +kernel
theorem dX5_lookAtCell_12 : decode cX5_lookAtCell 12 = .ok (.putfield 90, 3) := by decide +kernel
theorem dX5_lookAtCell_15 : decode cX5_lookAtCell 15 = .ok (.iconst 0, 1) := by decide +kernel
theorem dX5_lookAtCell_16 : decode cX5_lookAtCell 16 = .ok (.istore_n 2, 1) := by decide +kernel
theorem dX5_lookAtCell_17 : decode cX5_lookAtCell 17 = .ok (.iload_n 2, 1) := by decide +kernel
theorem dX5_lookAtCell_18 : decode cX5_lookAtCell 18 = .ok (.aload_n 0, 1) := by decide +kernel
theorem dX5_lookAtCell_19 : decode cX5_lookAtCell 19 = .ok (.getfield 90, 3) := by decide +kernel
theorem dX5_lookAtCell_22 : decode cX5_lookAtCell 22 = .ok (.if_icmp .ge 29, 3) := by decide +kernel
theorem dX5_lookAtCell_25 : decode cX5_lookAtCell 25 = .ok (.aload_n 0, 1) := by decide +kernel
theorem dX5_lookAtCell_26 : decode cX5_lookAtCell 26 = .ok (.getfield 21, 3) := by decide +kernel
theorem dX5_lookAtCell_29 : decode cX5_lookAtCell 29 = .ok (.iload_n 2, 1) := by decide +kernel
theorem dX5_lookAtCell_30 : decode cX5_lookAtCell 30 = .ok (.aload_n 0, 1) := by decide +kernel
theorem dX5_lookAtCell_31 : decode cX5_lookAtCell 31 = .ok (.getfield 8, 3) := by decide +kernel
theorem dX5_lookAtCell_34 : decode cX5_lookAtCell 34 = .ok (.iload_n 1, 1) := by decide +kernel
theorem dX5_lookAtCell_35 : decode cX5_lookAtCell 35 = .ok (.invokestatic 230, 3) := by decide +kernel
theorem dX5_lookAtCell_38 : decode cX5_lookAtCell 38 = .ok (.bipush 112, 2) := by decide +kernel
theorem dX5_lookAtCell_40 : decode cX5_lookAtCell 40 = .ok (.iadd, 1) := by decide +kernel
theorem dX5_lookAtCell_41 : decode cX5_lookAtCell 41 = .ok (.iload_n 2, 1) := by decide +kernel
theorem dX5_lookAtCell_42 : decode cX5_lookAtCell 42 = .ok (.iadd, 1) := by decide +kernel
theorem dX5_lookAtCell_43 : decode cX5_lookAtCell 43 = .ok (.iaload, 1) := by decide +kernel
theorem dX5_lookAtCell_44 : decode cX5_lookAtCell 44 = .ok (.iastore, 1) := by decide +kernel
theorem dX5_lookAtCell_45 : decode cX5_lookAtCell 45 = .ok (.iinc 2 1, 3) := by decide +kernel
theorem dX5_lookAtCell_48 : decode cX5_lookAtCell 48 = .ok (.goto (-31), 3) := by decide +kernel
theorem dX5_lookAtCell_51 : decode cX5_lookAtCell 51 = .ok (.aload_n 0, 1) := by decide +kernel
theorem dX5_lookAtCell_52 : decode cX5_lookAtCell 52 = .ok (.aload_n 0, 1) := by decide +kernel
theorem dX5_lookAtCell_53 : decode cX5_lookAtCell 53 = .ok (.getfield 8, 3) := by decide +kernel
theorem dX5_lookAtCell_56 : decode cX5_lookAtCell 56 = .ok (.iload_n 1, 1) := by decide +kernel
theorem dX5_lookAtCell_57 : decode cX5_lookAtCell 57 = .ok (.invokestatic 230, 3) := by decide +kernel
theorem dX5_lookAtCell_60 : decode cX5_lookAtCell 60 = .ok (.iconst 1, 1) := by decide +kernel
theorem dX5_lookAtCell_61 : decode cX5_lookAtCell 61 = .ok (.iadd, 1) := by decide +kernel
theorem dX5_lookAtCell_62 : decode cX5_lookAtCell 62 = .ok (.iaload, 1) := by decide +kernel
theorem dX5_lookAtCell_63 : decode cX5_lookAtCell 63 = .ok (.invokevirtual 239, 3) := by decide +kernel
theorem dX5_lookAtCell_66 : decode cX5_lookAtCell 66 = .ok (.ireturn, 1) := by decide +kernel
theorem dX5_layText_0 : decode cX5_layText 0 = .ok (.aload_n 0, 1) := by decide +kernel
theorem dX5_layText_1 : decode cX5_layText 1 = .ok (.getfield 8, 3) := by decide +kernel
theorem dX5_layText_4 : decode cX5_layText 4 = .ok (.iload_n 1, 1) := by decide +kernel
theorem dX5_layText_5 : decode cX5_layText 5 = .ok (.invokestatic 230, 3) := by decide +kernel
theorem dX5_layText_8 : decode cX5_layText 8 = .ok (.iconst 2, 1) := by decide +kernel
theorem dX5_layText_9 : decode cX5_layText 9 = .ok (.iadd, 1) := by decide +kernel
theorem dX5_layText_10 : decode cX5_layText 10 = .ok (.aload_n 0, 1) := by decide +kernel
theorem dX5_layText_11 : decode cX5_layText 11 = .ok (.getfield 90, 3) := by decide +kernel
theorem dX5_layText_14 : decode cX5_layText 14 = .ok (.iastore, 1) := by decide +kernel
theorem dX5_layText_15 : decode cX5_layText 15 = .ok (.iconst 0, 1) := by decide +kernel
theorem dX5_layText_16 : decode cX5_layText 16 = .ok (.istore_n 2, 1) := by decide +kernel
theorem dX5_layText_17 : decode cX5_layText 17 = .ok (.iload_n 2, 1) := by decide +kernel
theorem dX5_layText_18 : decode cX5_layText 18 = .ok (.aload_n 0, 1) := by decide +kernel
theorem dX5_layText_19 : decode cX5_layText 19 = .ok (.getfield 90, 3) := by decide +kernel
theorem dX5_layText_22 : decode cX5_layText 22 = .ok (.if_icmp .ge 29, 3) := by decide +kernel
theorem dX5_layText_25 : decode cX5_layText 25 = .ok (.aload_n 0, 1) := by decide +kernel
theorem dX5_layText_26 : decode cX5_layText 26 = .ok (.getfield 8, 3) := by decide +kernel
theorem dX5_layText_29 : decode cX5_layText 29 = .ok (.iload_n 1, 1) := by decide +kernel
theorem dX5_layText_30 : decode cX5_layText 30 = .ok (.invokestatic 230, 3) := by decide +kernel
theorem dX5_layText_33 : decode cX5_layText 33 = .ok (.bipush 112, 2) := by decide +kernel
theorem dX5_layText_35 : decode cX5_layText 35 = .ok (.iadd, 1) := by decide +kernel
theorem dX5_layText_36 : decode cX5_layText 36 = .ok (.iload_n 2, 1) := by decide +kernel
theorem dX5_layText_37 : decode cX5_layText 37 = .ok (.iadd, 1) := by decide +kernel
theorem dX5_layText_38 : decode cX5_layText 38 = .ok (.aload_n 0, 1) := by decide +kernel
theorem dX5_layText_39 : decode cX5_layText 39 = .ok (.getfield 21, 3) := by decide +kernel
theorem dX5_layText_42 : decode cX5_layText 42 = .ok (.iload_n 2, 1) := by decide +kernel
theorem dX5_layText_43 : decode cX5_layText 43 = .ok (.iaload, 1) := by decide +kernel
theorem dX5_layText_44 : decode cX5_layText 44 = .ok (.iastore, 1) := by decide +kernel
theorem dX5_layText_45 : decode cX5_layText 45 = .ok (.iinc 2 1, 3) := by decide +kernel
theorem dX5_layText_48 : decode cX5_layText 48 = .ok (.goto (-31), 3) := by decide +kernel
theorem dX5_layText_51 : decode cX5_layText 51 = .ok (.aload_n 0, 1) := by decide +kernel
theorem dX5_layText_52 : decode cX5_layText 52 = .ok (.iconst 0, 1) := by decide +kernel
theorem dX5_layText_53 : decode cX5_layText 53 = .ok (.putfield 80, 3) := by decide +kernel
theorem dX5_layText_56 : decode cX5_layText 56 = .ok (.return_, 1) := by decide +kernel
theorem dX5_cell_0 : decode cX5_cell 0 = .ok (.iload_n 1, 1) := by decide +kernel
theorem dX5_cell_1 : decode cX5_cell 1 = .ok (.invokestatic 77, 3) := by decide +kernel
theorem dX5_cell_4 : decode cX5_cell 4 = .ok (.ifCond .eq 12, 3) := by decide +kernel
theorem dX5_cell_7 : decode cX5_cell 7 = .ok (.iload_n 2, 1) := by decide +kernel
theorem dX5_cell_8 : decode cX5_cell 8 = .ok (.ifCond .lt 8, 3) := by decide +kernel
theorem dX5_cell_11 : decode cX5_cell 11 = .ok (.iload_n 2, 1) := by decide +kernel
theorem dX5_cell_12 : decode cX5_cell 12 = .ok (.iconst 1, 1) := by decide +kernel
theorem dX5_cell_13 : decode cX5_cell 13 = .ok (.if_icmp .le 5, 3) := by decide +kernel
theorem dX5_cell_16 : decode cX5_cell 16 = .ok (.iconst (-1), 1) := by decide +kernel
theorem dX5_cell_17 : decode cX5_cell 17 = .ok (.ireturn, 1) := by decide +kernel
theorem dX5_cell_18 : decode cX5_cell 18 = .ok (.aload_n 0, 1) := by decide +kernel
theorem dX5_cell_19 : decode cX5_cell 19 = .ok (.getfield 8, 3) := by decide +kernel
theorem dX5_cell_22 : decode cX5_cell 22 = .ok (.iconst 0, 1) := by decide +kernel
theorem dX5_cell_23 : decode cX5_cell 23 = .ok (.iaload, 1) := by decide +kernel
theorem dX5_cell_24 : decode cX5_cell 24 = .ok (.bipush 40, 2) := by decide +kernel
theorem dX5_cell_26 : decode cX5_cell 26 = .ok (.if_icmp .eq 15, 3) := by decide +kernel
theorem dX5_cell_29 : decode cX5_cell 29 = .ok (.aload_n 0, 1) := by decide +kernel
theorem dX5_cell_30 : decode cX5_cell 30 = .ok (.getfield 8, 3) := by decide +kernel
theorem dX5_cell_33 : decode cX5_cell 33 = .ok (.iconst 1, 1) := by decide +kernel
theorem dX5_cell_34 : decode cX5_cell 34 = .ok (.iaload, 1) := by decide +kernel
theorem dX5_cell_35 : decode cX5_cell 35 = .ok (.sipush 150, 3) := by decide +kernel
theorem dX5_cell_38 : decode cX5_cell 38 = .ok (.if_icmp .ne 6, 3) := by decide +kernel
theorem dX5_cell_41 : decode cX5_cell 41 = .ok (.bipush (-2), 2) := by decide +kernel
theorem dX5_cell_43 : decode cX5_cell 43 = .ok (.ireturn, 1) := by decide +kernel
theorem dX5_cell_44 : decode cX5_cell 44 = .ok (.aload_n 0, 1) := by decide +kernel
theorem dX5_cell_45 : decode cX5_cell 45 = .ok (.iload_n 2, 1) := by decide +kernel
theorem dX5_cell_46 : decode cX5_cell 46 = .ok (.invokevirtual 242, 3) := by decide +kernel
theorem dX5_cell_49 : decode cX5_cell 49 = .ok (.istore_n 3, 1) := by decide +kernel
theorem dX5_cell_50 : decode cX5_cell 50 = .ok (.iload_n 3, 1) := by decide +kernel
theorem dX5_cell_51 : decode cX5_cell 51 = .ok (.ifCond .lt 8, 3) := by decide +kernel
theorem dX5_cell_54 : decode cX5_cell 54 = .ok (.bipush (-100), 2) := by decide +kernel
theorem dX5_cell_56 : decode cX5_cell 56 = .ok (.iload_n 3, 1) := by decide +kernel
theorem dX5_cell_57 : decode cX5_cell 57 = .ok (.isub, 1) := by decide +kernel
theorem dX5_cell_58 : decode cX5_cell 58 = .ok (.ireturn, 1) := by decide +kernel
theorem dX5_cell_59 : decode cX5_cell 59 = .ok (.aload_n 0, 1) := by decide +kernel
theorem dX5_cell_60 : decode cX5_cell 60 = .ok (.getfield 8, 3) := by decide +kernel
theorem dX5_cell_63 : decode cX5_cell 63 = .ok (.iconst 0, 1) := by decide +kernel
theorem dX5_cell_64 : decode cX5_cell 64 = .ok (.iaload, 1) := by decide +kernel
theorem dX5_cell_65 : decode cX5_cell 65 = .ok (.istore 4, 2) := by decide +kernel
theorem dX5_cell_67 : decode cX5_cell 67 = .ok (.aload_n 0, 1) := by decide +kernel
theorem dX5_cell_68 : decode cX5_cell 68 = .ok (.getfield 8, 3) := by decide +kernel
theorem dX5_cell_71 : decode cX5_cell 71 = .ok (.iconst 0, 1) := by decide +kernel
theorem dX5_cell_72 : decode cX5_cell 72 = .ok (.dup2, 1) := by decide +kernel
theorem dX5_cell_73 : decode cX5_cell 73 = .ok (.iaload, 1) := by decide +kernel
theorem dX5_cell_74 : decode cX5_cell 74 = .ok (.iconst 1, 1) := by decide +kernel
theorem dX5_cell_75 : decode cX5_cell 75 = .ok (.iadd, 1) := by decide +kernel
theorem dX5_cell_76 : decode cX5_cell 76 = .ok (.iastore, 1) := by decide +kernel
theorem dX5_cell_77 : decode cX5_cell 77 = .ok (.aload_n 0, 1) := by decide +kernel
theorem dX5_cell_78 : decode cX5_cell 78 = .ok (.getfield 8, 3) := by decide +kernel
theorem dX5_cell_81 : decode cX5_cell 81 = .ok (.iload 4, 2) := by decide +kernel
theorem dX5_cell_83 : decode cX5_cell 83 = .ok (.invokestatic 230, 3) := by decide +kernel
theorem dX5_cell_86 : decode cX5_cell 86 = .ok (.iconst 0, 1) := by decide +kernel
theorem dX5_cell_87 : decode cX5_cell 87 = .ok (.iadd, 1) := by decide +kernel
theorem dX5_cell_88 : decode cX5_cell 88 = .ok (.iload_n 1, 1) := by decide +kernel
theorem dX5_cell_89 : decode cX5_cell 89 = .ok (.iastore, 1) := by decide +kernel
theorem dX5_cell_90 : decode cX5_cell 90 = .ok (.aload_n 0, 1) := by decide +kernel
theorem dX5_cell_91 : decode cX5_cell 91 = .ok (.getfield 8, 3) := by decide +kernel
theorem dX5_cell_94 : decode cX5_cell 94 = .ok (.iload 4, 2) := by decide +kernel
theorem dX5_cell_96 : decode cX5_cell 96 = .ok (.invokestatic 230, 3) := by decide +kernel
theorem dX5_cell_99 : decode cX5_cell 99 = .ok (.iconst 1, 1) := by decide +kernel
theorem dX5_cell_100 : decode cX5_cell 100 = .ok (.iadd, 1) := by decide +kernel
theorem dX5_cell_101 : decode cX5_cell 101 = .ok (.iload_n 2, 1) := by decide +kernel
theorem dX5_cell_102 : decode cX5_cell 102 = .ok (.iastore, 1) := by decide +kernel
theorem dX5_cell_103 : decode cX5_cell 103 = .ok (.aload_n 0, 1) := by decide +kernel
theorem dX5_cell_104 : decode cX5_cell 104 = .ok (.iload 4, 2) := by decide +kernel
theorem dX5_cell_106 : decode cX5_cell 106 = .ok (.invokevirtual 245, 3) := by decide +kernel
theorem dX5_cell_109 : decode cX5_cell 109 = .ok (.aload_n 0, 1) := by decide +kernel
theorem dX5_cell_110 : decode cX5_cell 110 = .ok (.iload 4, 2) := by decide +kernel
theorem dX5_cell_112 : decode cX5_cell 112 = .ok (.invokevirtual 248, 3) := by decide +kernel
theorem dX5_cell_115 : decode cX5_cell 115 = .ok (.istore 5, 2) := by decide +kernel
theorem dX5_cell_117 : decode cX5_cell 117 = .ok (.iload 4, 2) := by decide +kernel
theorem dX5_cell_119 : decode cX5_cell 119 = .ok (.ireturn, 1) := by decide +kernel
theorem dX5_redo_0 : decode cX5_redo 0 = .ok (.aload_n 0, 1) := by decide +kernel
theorem dX5_redo_1 : decode cX5_redo 1 = .ok (.iload_n 1, 1) := by decide +kernel
theorem dX5_redo_2 : decode cX5_redo 2 = .ok (.invokevirtual 251, 3) := by decide +kernel
theorem dX5_redo_5 : decode cX5_redo 5 = .ok (.ifCond .ne 5, 3) := by decide +kernel
theorem dX5_redo_8 : decode cX5_redo 8 = .ok (.iconst (-1), 1) := by decide +kernel
theorem dX5_redo_9 : decode cX5_redo 9 = .ok (.ireturn, 1) := by decide +kernel
theorem dX5_redo_10 : decode cX5_redo 10 = .ok (.aload_n 0, 1) := by decide +kernel
theorem dX5_redo_11 : decode cX5_redo 11 = .ok (.getfield 8, 3) := by decide +kernel
theorem dX5_redo_14 : decode cX5_redo 14 = .ok (.iconst 1, 1) := by decide +kernel
theorem dX5_redo_15 : decode cX5_redo 15 = .ok (.iaload, 1) := by decide +kernel
theorem dX5_redo_16 : decode cX5_redo 16 = .ok (.sipush 150, 3) := by decide +kernel
theorem dX5_redo_19 : decode cX5_redo 19 = .ok (.if_icmp .ne 6, 3) := by decide +kernel
theorem dX5_redo_22 : decode cX5_redo 22 = .ok (.bipush (-2), 2) := by decide +kernel
theorem dX5_redo_24 : decode cX5_redo 24 = .ok (.ireturn, 1) := by decide +kernel
theorem dX5_redo_25 : decode cX5_redo 25 = .ok (.aload_n 0, 1) := by decide +kernel
theorem dX5_redo_26 : decode cX5_redo 26 = .ok (.aload_n 0, 1) := by decide +kernel
theorem dX5_redo_27 : decode cX5_redo 27 = .ok (.getfield 8, 3) := by decide +kernel
theorem dX5_redo_30 : decode cX5_redo 30 = .ok (.iload_n 1, 1) := by decide +kernel
theorem dX5_redo_31 : decode cX5_redo 31 = .ok (.invokestatic 230, 3) := by decide +kernel
theorem dX5_redo_34 : decode cX5_redo 34 = .ok (.iconst 1, 1) := by decide +kernel
theorem dX5_redo_35 : decode cX5_redo 35 = .ok (.iadd, 1) := by decide +kernel
theorem dX5_redo_36 : decode cX5_redo 36 = .ok (.iaload, 1) := by decide +kernel
theorem dX5_redo_37 : decode cX5_redo 37 = .ok (.invokevirtual 242, 3) := by decide +kernel
theorem dX5_redo_40 : decode cX5_redo 40 = .ok (.istore_n 2, 1) := by decide +kernel
theorem dX5_redo_41 : decode cX5_redo 41 = .ok (.iload_n 2, 1) := by decide +kernel
theorem dX5_redo_42 : decode cX5_redo 42 = .ok (.ifCond .lt 8, 3) := by decide +kernel
theorem dX5_redo_45 : decode cX5_redo 45 = .ok (.bipush (-100), 2) := by decide +kernel
theorem dX5_redo_47 : decode cX5_redo 47 = .ok (.iload_n 2, 1) := by decide +kernel
theorem dX5_redo_48 : decode cX5_redo 48 = .ok (.isub, 1) := by decide +kernel
theorem dX5_redo_49 : decode cX5_redo 49 = .ok (.ireturn, 1) := by decide +kernel
theorem dX5_redo_50 : decode cX5_redo 50 = .ok (.aload_n 0, 1) := by decide +kernel
theorem dX5_redo_51 : decode cX5_redo 51 = .ok (.iload_n 1, 1) := by decide +kernel
theorem dX5_redo_52 : decode cX5_redo 52 = .ok (.invokevirtual 245, 3) := by decide +kernel
theorem dX5_redo_55 : decode cX5_redo 55 = .ok (.aload_n 0, 1) := by decide +kernel
theorem dX5_redo_56 : decode cX5_redo 56 = .ok (.iload_n 1, 1) := by decide +kernel
theorem dX5_redo_57 : decode cX5_redo 57 = .ok (.invokevirtual 248, 3) := by decide +kernel
theorem dX5_redo_60 : decode cX5_redo 60 = .ok (.ireturn, 1) := by decide +kernel
section RM
variable {ρ : Type} {p : Program} {l : Launch} {e : Env} {R : Room} {s : State} {m : MethodId} {args : Array Value} {below : List Frame} {meth : Method} {c : Code}
variable {cc : ByteArray} {nL : Nat} {rt : Option FieldType} {D : va_G} {cI cZ : ClassId} {q : Nat → Nat} {QQ : ρ → State → Prop} {pc : Nat} {lv : List (Nat × Value)}

-- run
def fR_run_b44 (n : Nat) (k10 : Int32 → Int32 → Int32 → Int32 → MR → Option (Int32 × MR)) (x1 : Int32) (x2 : Int32) (x3 : Int32) (x4 : Int32) (M : MR) : Option (Int32 × MR) :=
    k10 x1 x2 x3 (x4 + (1 : Int32)) M
theorem wR_run_b44 (X : gX p s m args meth c cX5_run 5 RX5 (some .int) D (tyR cI cZ)) (n : Nat) (k10 : Int32 → Int32 → Int32 → Int32 → MR → Option (Int32 × MR)) (hk10 : ∀ (x1 : Int32) (x2 : Int32) (x3 : Int32) (x4 : Int32) (M : MR), gG p l e (rmR 9 207) s m args below meth c 5 (ZR D cI cZ q (AR q s.heap.size) s.heap M) 0 0 (fun r => MQ below (QI D cI cZ q s.heap.size r) args s 0 0 (AR q s.heap.size)) 10 [(0, .ref (q 34)), (1, .int x1), (2, .int x2), (3, .int x3), (4, .int x4)] [] (k10 x1 x2 x3 x4 M)) (x1 : Int32) (x2 : Int32) (x3 : Int32) (x4 : Int32) (M : MR) : gG p l e (rmR 9 207) s m args below meth c 5 (ZR D cI cZ q (AR q s.heap.size) s.heap M) 0 0 (fun r => MQ below (QI D cI cZ q s.heap.size r) args s 0 0 (AR q s.heap.size)) 44 [(0, .ref (q 34)), (1, .int x1), (2, .int x2), (3, .int x3), (4, .int x4)] [] (fR_run_b44 n k10 x1 x2 x3 x4 M) := by
  unfold fR_run_b44
  refine g_iinc (v := (1 : Int32)) (lv' := [(4, .int (x4 + (1 : Int32))), (0, .ref (q 34)), (1, .int x1), (2, .int x2), (3, .int x3)]) X dX5_run_44 rfl (by decide) (by decide) rfl ?_
  refine g_goto (tgt := 10) X dX5_run_47 (by decide) ?_
  exact g_pick [1, 2, 3, 4, 0] rfl (hk10 x1 x2 x3 (x4 + (1 : Int32)) M)
def fR_run_b283 (n : Nat) (k203 : Int32 → Int32 → Int32 → MR → Option (Int32 × MR)) (x1 : Int32) (x2 : Int32) (x4 : Int32) (s0 : Int32) (s1 : Int32) (M : MR) : Option (Int32 × MR) :=
    wr M 0 62610 s0 s1 fun M1 =>
    k203 x1 x2 (x4 + (1 : Int32)) M1
theorem wR_run_b283 (X : gX p s m args meth c cX5_run 5 RX5 (some .int) D (tyR cI cZ)) (n : Nat) (k203 : Int32 → Int32 → Int32 → MR → Option (Int32 × MR)) (hk203 : ∀ (x1 : Int32) (x2 : Int32) (x4 : Int32) (M : MR), gG p l e (rmR 9 207) s m args below meth c 5 (ZR D cI cZ q (AR q s.heap.size) s.heap M) 0 0 (fun r => MQ below (QI D cI cZ q s.heap.size r) args s 0 0 (AR q s.heap.size)) 203 [(0, .ref (q 34)), (1, .int x1), (2, .int x2), (4, .int x4)] [] (k203 x1 x2 x4 M)) (x1 : Int32) (x2 : Int32) (x4 : Int32) (s0 : Int32) (s1 : Int32) (M : MR) : gG p l e (rmR 9 207) s m args below meth c 5 (ZR D cI cZ q (AR q s.heap.size) s.heap M) 0 0 (fun r => MQ below (QI D cI cZ q s.heap.size r) args s 0 0 (AR q s.heap.size)) 283 [(0, .ref (q 34)), (1, .int x1), (2, .int x2), (4, .int x4)] [.int s1, .int s0, .ref (q 0)] (fR_run_b283 n k203 x1 x2 x4 s0 s1 M) := by
  unfold fR_run_b283
  refine r_s_m X dX5_run_283 ?_
  intro M1
  refine g_iinc (v := (1 : Int32)) (lv' := [(4, .int (x4 + (1 : Int32))), (0, .ref (q 34)), (1, .int x1), (2, .int x2)]) X dX5_run_284 rfl (by decide) (by decide) rfl ?_
  refine g_goto (tgt := 203) X dX5_run_287 (by decide) ?_
  exact g_pick [1, 2, 3, 0] rfl (hk203 x1 x2 (x4 + (1 : Int32)) M1)
def fR_run_b247 (n : Nat) (k203 : Int32 → Int32 → Int32 → MR → Option (Int32 × MR)) (x1 : Int32) (x2 : Int32) (x4 : Int32) (s0 : Int32) (s1 : Int32) (M : MR) : Option (Int32 × MR) :=
    wr M 0 62610 s0 s1 fun M1 =>
    gf M1 25 fun v2 =>
    if v2 ≤ x4 then
      (fR_run_b283 n k203 x1 x2 x4 (((x2 + (71 : Int32)) + ((2 : Int32) * x4)) + (1 : Int32)) (0 : Int32) M1)
    else
      (rd M1 27 20 x4 fun v3 =>
      fR_run_b283 n k203 x1 x2 x4 (((x2 + (71 : Int32)) + ((2 : Int32) * x4)) + (1 : Int32)) v3 M1)
theorem wR_run_b247 (X : gX p s m args meth c cX5_run 5 RX5 (some .int) D (tyR cI cZ)) (n : Nat) (k203 : Int32 → Int32 → Int32 → MR → Option (Int32 × MR)) (hk203 : ∀ (x1 : Int32) (x2 : Int32) (x4 : Int32) (M : MR), gG p l e (rmR 9 207) s m args below meth c 5 (ZR D cI cZ q (AR q s.heap.size) s.heap M) 0 0 (fun r => MQ below (QI D cI cZ q s.heap.size r) args s 0 0 (AR q s.heap.size)) 203 [(0, .ref (q 34)), (1, .int x1), (2, .int x2), (4, .int x4)] [] (k203 x1 x2 x4 M)) (x1 : Int32) (x2 : Int32) (x4 : Int32) (s0 : Int32) (s1 : Int32) (M : MR) : gG p l e (rmR 9 207) s m args below meth c 5 (ZR D cI cZ q (AR q s.heap.size) s.heap M) 0 0 (fun r => MQ below (QI D cI cZ q s.heap.size r) args s 0 0 (AR q s.heap.size)) 247 [(0, .ref (q 34)), (1, .int x1), (2, .int x2), (4, .int x4)] [.int s1, .int s0, .ref (q 0)] (fR_run_b247 n k203 x1 x2 x4 s0 s1 M) := by
  unfold fR_run_b247
  refine r_s_m X dX5_run_247 ?_
  intro M1
  refine g_aload_n X dX5_run_248 rfl rfl ?_
  refine r_g_m X dX5_run_249 ?_
  refine g_iload_n X dX5_run_252 rfl rfl ?_
  refine g_bipush (v := (71 : Int32)) X dX5_run_253 (by decide) ?_
  refine g_iadd X dX5_run_255 ?_
  refine g_iconst (v := (2 : Int32)) X dX5_run_256 (by decide) ?_
  refine g_iload X dX5_run_257 rfl ?_
  refine g_imul X dX5_run_259 ?_
  refine g_iadd X dX5_run_260 ?_
  refine g_iconst (v := (1 : Int32)) X dX5_run_261 (by decide) ?_
  refine g_iadd X dX5_run_262 ?_
  refine g_iload X dX5_run_263 rfl ?_
  refine g_aload_n X dX5_run_265 rfl rfl ?_
  refine r_g_wrote X dX5_run_266 ?_
  intro v2
  refine g_icmp_ge (tgt := 282) X dX5_run_269 (by decide) ?_ ?_
  · refine g_iconst (v := (0 : Int32)) X dX5_run_282 (by decide) ?_
    exact g_pick [0, 1, 2, 3] rfl (wR_run_b283 X n k203 hk203 x1 x2 x4 (((x2 + (71 : Int32)) + ((2 : Int32) * x4)) + (1 : Int32)) (0 : Int32) M1)
  · refine g_aload_n X dX5_run_272 rfl rfl ?_
    refine r_g_writtenValue X dX5_run_273 ?_
    refine g_iload X dX5_run_276 rfl ?_
    refine r_l_writtenValue X dX5_run_278 ?_
    intro v3
    refine g_goto (tgt := 283) X dX5_run_279 (by decide) ?_
    exact g_pick [0, 1, 2, 3] rfl (wR_run_b283 X n k203 hk203 x1 x2 x4 (((x2 + (71 : Int32)) + ((2 : Int32) * x4)) + (1 : Int32)) v3 M1)
def fR_run_b246 (n : Nat) (k203 : Int32 → Int32 → Int32 → MR → Option (Int32 × MR)) (x1 : Int32) (x2 : Int32) (x4 : Int32) (s0 : Int32) (M : MR) : Option (Int32 × MR) :=
    fR_run_b247 n k203 x1 x2 x4 s0 (0 : Int32) M
theorem wR_run_b246 (X : gX p s m args meth c cX5_run 5 RX5 (some .int) D (tyR cI cZ)) (n : Nat) (k203 : Int32 → Int32 → Int32 → MR → Option (Int32 × MR)) (hk203 : ∀ (x1 : Int32) (x2 : Int32) (x4 : Int32) (M : MR), gG p l e (rmR 9 207) s m args below meth c 5 (ZR D cI cZ q (AR q s.heap.size) s.heap M) 0 0 (fun r => MQ below (QI D cI cZ q s.heap.size r) args s 0 0 (AR q s.heap.size)) 203 [(0, .ref (q 34)), (1, .int x1), (2, .int x2), (4, .int x4)] [] (k203 x1 x2 x4 M)) (x1 : Int32) (x2 : Int32) (x4 : Int32) (s0 : Int32) (M : MR) : gG p l e (rmR 9 207) s m args below meth c 5 (ZR D cI cZ q (AR q s.heap.size) s.heap M) 0 0 (fun r => MQ below (QI D cI cZ q s.heap.size r) args s 0 0 (AR q s.heap.size)) 246 [(0, .ref (q 34)), (1, .int x1), (2, .int x2), (4, .int x4)] [.int s0, .ref (q 0)] (fR_run_b246 n k203 x1 x2 x4 s0 M) := by
  unfold fR_run_b246
  refine g_iconst (v := (0 : Int32)) X dX5_run_246 (by decide) ?_
  exact g_pick [0, 1, 2, 3] rfl (wR_run_b247 X n k203 hk203 x1 x2 x4 s0 (0 : Int32) M)
def fR_run_b397 (n : Nat) (x2 : Int32) (M : MR) : Option (Int32 × MR) :=
    rd M 0 62610 (x2 + (3 : Int32)) fun v1 =>
    some (v1, M)
theorem wR_run_b397 (X : gX p s m args meth c cX5_run 5 RX5 (some .int) D (tyR cI cZ)) (n : Nat) (x2 : Int32) (M : MR) : gG p l e (rmR 9 207) s m args below meth c 5 (ZR D cI cZ q (AR q s.heap.size) s.heap M) 0 0 (fun r => MQ below (QI D cI cZ q s.heap.size r) args s 0 0 (AR q s.heap.size)) 397 [(0, .ref (q 34)), (2, .int x2)] [] (fR_run_b397 n x2 M) := by
  unfold fR_run_b397
  refine g_aload_n X dX5_run_397 rfl rfl ?_
  refine r_g_m X dX5_run_398 ?_
  refine g_iload_n X dX5_run_401 rfl rfl ?_
  refine g_iconst (v := (3 : Int32)) X dX5_run_402 (by decide) ?_
  refine g_iadd X dX5_run_403 ?_
  refine r_l_m X dX5_run_404 ?_
  intro v1
  exact r_iret X dX5_run_405
def fR_run_b396 (n : Nat) (x2 : Int32) (s0 : Int32) (s1 : Int32) (M : MR) : Option (Int32 × MR) :=
    wr M 0 62610 s0 s1 fun M1 =>
    fR_run_b397 n x2 M1
theorem wR_run_b396 (X : gX p s m args meth c cX5_run 5 RX5 (some .int) D (tyR cI cZ)) (n : Nat) (x2 : Int32) (s0 : Int32) (s1 : Int32) (M : MR) : gG p l e (rmR 9 207) s m args below meth c 5 (ZR D cI cZ q (AR q s.heap.size) s.heap M) 0 0 (fun r => MQ below (QI D cI cZ q s.heap.size r) args s 0 0 (AR q s.heap.size)) 396 [(0, .ref (q 34)), (2, .int x2)] [.int s1, .int s0, .ref (q 0)] (fR_run_b396 n x2 s0 s1 M) := by
  unfold fR_run_b396
  refine r_s_m X dX5_run_396 ?_
  intro M1
  exact g_pick [0, 1] rfl (wR_run_b397 X n x2 M1)
def fR_run_b363 (n : Nat) (x2 : Int32) (x4 : Int32) (s0 : Int32) (s1 : Int32) (M : MR) : Option (Int32 × MR) :=
    wr M 0 62610 s0 s1 fun M1 =>
    bnd (fR_editAt n x4 M1) fun v2 M2 =>
    rd M2 0 62610 (x2 + (1 : Int32)) fun v3 =>
    if v3 = 0 then
      (rd M2 11 2000 (0 : Int32) fun v4 =>
      fR_run_b396 n x2 (v2 + (4 : Int32)) v4 M2)
    else
      (fR_run_b396 n x2 (v2 + (4 : Int32)) (0 : Int32) M2)
theorem wR_run_b363 (X : gX p s m args meth c cX5_run 5 RX5 (some .int) D (tyR cI cZ)) (n : Nat) (x2 : Int32) (x4 : Int32) (s0 : Int32) (s1 : Int32) (M : MR) : gG p l e (rmR 9 207) s m args below meth c 5 (ZR D cI cZ q (AR q s.heap.size) s.heap M) 0 0 (fun r => MQ below (QI D cI cZ q s.heap.size r) args s 0 0 (AR q s.heap.size)) 363 [(0, .ref (q 34)), (2, .int x2), (4, .int x4)] [.int s1, .int s0, .ref (q 0)] (fR_run_b363 n x2 x4 s0 s1 M) := by
  unfold fR_run_b363
  refine r_s_m X dX5_run_363 ?_
  intro M1
  refine g_aload_n X dX5_run_364 rfl rfl ?_
  refine r_g_m X dX5_run_365 ?_
  refine g_iload X dX5_run_368 rfl ?_
  refine k_editAt X ⟨Nat.le_of_ble_eq_true rfl, Nat.le_of_ble_eq_true rfl⟩ (Nat.le_of_ble_eq_true rfl) dX5_run_370 ?_
  intro v2 M2
  refine g_iconst (v := (4 : Int32)) X dX5_run_373 (by decide) ?_
  refine g_iadd X dX5_run_374 ?_
  refine g_aload_n X dX5_run_375 rfl rfl ?_
  refine r_g_m X dX5_run_376 ?_
  refine g_iload_n X dX5_run_379 rfl rfl ?_
  refine g_iconst (v := (1 : Int32)) X dX5_run_380 (by decide) ?_
  refine g_iadd X dX5_run_381 ?_
  refine r_l_m X dX5_run_382 ?_
  intro v3
  refine g_if_ne (tgt := 395) X dX5_run_383 (by decide) ?_ ?_
  · refine g_iconst (v := (0 : Int32)) X dX5_run_395 (by decide) ?_
    exact g_pick [0, 1] rfl (wR_run_b396 X n x2 (v2 + (4 : Int32)) (0 : Int32) M2)
  · refine g_aload_n X dX5_run_386 rfl rfl ?_
    refine r_g_value X dX5_run_387 ?_
    refine g_iconst (v := (0 : Int32)) X dX5_run_390 (by decide) ?_
    refine r_l_value X dX5_run_391 ?_
    intro v4
    refine g_goto (tgt := 396) X dX5_run_392 (by decide) ?_
    exact g_pick [0, 1] rfl (wR_run_b396 X n x2 (v2 + (4 : Int32)) v4 M2)
def fR_run_b362 (n : Nat) (x2 : Int32) (x4 : Int32) (s0 : Int32) (M : MR) : Option (Int32 × MR) :=
    fR_run_b363 n x2 x4 s0 (0 : Int32) M
theorem wR_run_b362 (X : gX p s m args meth c cX5_run 5 RX5 (some .int) D (tyR cI cZ)) (n : Nat) (x2 : Int32) (x4 : Int32) (s0 : Int32) (M : MR) : gG p l e (rmR 9 207) s m args below meth c 5 (ZR D cI cZ q (AR q s.heap.size) s.heap M) 0 0 (fun r => MQ below (QI D cI cZ q s.heap.size r) args s 0 0 (AR q s.heap.size)) 362 [(0, .ref (q 34)), (2, .int x2), (4, .int x4)] [.int s0, .ref (q 0)] (fR_run_b362 n x2 x4 s0 M) := by
  unfold fR_run_b362
  refine g_iconst (v := (0 : Int32)) X dX5_run_362 (by decide) ?_
  exact g_pick [0, 1, 2] rfl (wR_run_b363 X n x2 x4 s0 (0 : Int32) M)
def fR_run_l203 (n : Nat) : Nat → Int32 → Int32 → Int32 → MR → Option (Int32 × MR)
  | 0, _, _, _, _ => none
  | k + 1, x1, x2, x4, M => if (20 : Int32) ≤ x4 then
      (wr M 0 62610 (x2 + (7 : Int32)) (0 : Int32) fun M1 =>
      gf M1 24 fun v2 =>
      if v2 = 0 then
        (bnd (fR_newEdition n x1 M1) fun v3 M3 =>
        wr M3 0 62610 (x2 + (7 : Int32)) (v3 + (1 : Int32)) fun M4 =>
        bnd (fR_editAt n v3 M4) fun v5 M5 =>
        rd M5 0 62610 (x2 + (1 : Int32)) fun v6 =>
        if v6 = 0 then
          (rd M5 10 2000 (0 : Int32) fun v7 =>
          if v7 = 0 then
            (fR_run_b362 n x2 v3 (v5 + (3 : Int32)) M5)
          else
            (fR_run_b363 n x2 v3 (v5 + (3 : Int32)) (1 : Int32) M5))
        else
          (fR_run_b362 n x2 v3 (v5 + (3 : Int32)) M5))
      else
        (fR_run_b397 n x2 M1))
    else
      (gf M 25 fun v8 =>
      if v8 ≤ x4 then
        (fR_run_b246 n (fR_run_l203 n k) x1 x2 x4 ((x2 + (71 : Int32)) + ((2 : Int32) * x4)) M)
      else
        (rd M 26 20 x4 fun v9 =>
        if v9 = 0 then
          (fR_run_b246 n (fR_run_l203 n k) x1 x2 x4 ((x2 + (71 : Int32)) + ((2 : Int32) * x4)) M)
        else
          (fR_run_b247 n (fR_run_l203 n k) x1 x2 x4 ((x2 + (71 : Int32)) + ((2 : Int32) * x4)) (1 : Int32) M)))
theorem wR_run_l203 (X : gX p s m args meth c cX5_run 5 RX5 (some .int) D (tyR cI cZ)) (n : Nat) : ∀ (k : Nat) (x1 : Int32) (x2 : Int32) (x4 : Int32) (M : MR), gG p l e (rmR 9 207) s m args below meth c 5 (ZR D cI cZ q (AR q s.heap.size) s.heap M) 0 0 (fun r => MQ below (QI D cI cZ q s.heap.size r) args s 0 0 (AR q s.heap.size)) 203 [(0, .ref (q 34)), (1, .int x1), (2, .int x2), (4, .int x4)] [] (fR_run_l203 n k x1 x2 x4 M) := by
  intro k
  induction k with
  | zero =>
    intro x1 x2 x4 M
    exact g_none
  | succ k ih =>
    intro x1 x2 x4 M
    rw [fR_run_l203]
    refine g_iload X dX5_run_203 rfl ?_
    refine g_bipush (v := (20 : Int32)) X dX5_run_205 (by decide) ?_
    refine g_icmp_ge (tgt := 290) X dX5_run_207 (by decide) ?_ ?_
    · refine g_aload_n X dX5_run_290 rfl rfl ?_
      refine r_g_m X dX5_run_291 ?_
      refine g_iload_n X dX5_run_294 rfl rfl ?_
      refine g_bipush (v := (7 : Int32)) X dX5_run_295 (by decide) ?_
      refine g_iadd X dX5_run_297 ?_
      refine g_iconst (v := (0 : Int32)) X dX5_run_298 (by decide) ?_
      refine r_s_m X dX5_run_299 ?_
      intro M1
      refine g_aload_n X dX5_run_300 rfl rfl ?_
      refine r_g_failure X dX5_run_301 ?_
      intro v2
      refine g_if_ne (tgt := 397) X dX5_run_304 (by decide) ?_ ?_
      · exact g_pick [0, 2] rfl (wR_run_b397 X n x2 M1)
      · refine g_aload_n X dX5_run_307 rfl rfl ?_
        refine g_iload_n X dX5_run_308 rfl rfl ?_
        refine k_newEdition X ⟨Nat.le_of_ble_eq_true rfl, Nat.le_of_ble_eq_true rfl⟩ (Nat.le_of_ble_eq_true rfl) dX5_run_309 ?_
        intro v3 M3
        refine g_istore (lv' := [(4, .int v3), (0, .ref (q 34)), (1, .int x1), (2, .int x2)]) X dX5_run_312 (by decide) rfl ?_
        refine g_aload_n X dX5_run_314 rfl rfl ?_
        refine r_g_m X dX5_run_315 ?_
        refine g_iload_n X dX5_run_318 rfl rfl ?_
        refine g_bipush (v := (7 : Int32)) X dX5_run_319 (by decide) ?_
        refine g_iadd X dX5_run_321 ?_
        refine g_iload X dX5_run_322 rfl ?_
        refine g_iconst (v := (1 : Int32)) X dX5_run_324 (by decide) ?_
        refine g_iadd X dX5_run_325 ?_
        refine r_s_m X dX5_run_326 ?_
        intro M4
        refine g_aload_n X dX5_run_327 rfl rfl ?_
        refine r_g_m X dX5_run_328 ?_
        refine g_iload X dX5_run_331 rfl ?_
        refine k_editAt X ⟨Nat.le_of_ble_eq_true rfl, Nat.le_of_ble_eq_true rfl⟩ (Nat.le_of_ble_eq_true rfl) dX5_run_333 ?_
        intro v5 M5
        refine g_iconst (v := (3 : Int32)) X dX5_run_336 (by decide) ?_
        refine g_iadd X dX5_run_337 ?_
        refine g_aload_n X dX5_run_338 rfl rfl ?_
        refine r_g_m X dX5_run_339 ?_
        refine g_iload_n X dX5_run_342 rfl rfl ?_
        refine g_iconst (v := (1 : Int32)) X dX5_run_343 (by decide) ?_
        refine g_iadd X dX5_run_344 ?_
        refine r_l_m X dX5_run_345 ?_
        intro v6
        refine g_if_ne (tgt := 362) X dX5_run_346 (by decide) ?_ ?_
        · exact g_pick [1, 3, 0] rfl (wR_run_b362 X n x2 v3 (v5 + (3 : Int32)) M5)
        · refine g_aload_n X dX5_run_349 rfl rfl ?_
          refine r_g_isObj X dX5_run_350 ?_
          refine g_iconst (v := (0 : Int32)) X dX5_run_353 (by decide) ?_
          refine r_l_isObj X dX5_run_354 ?_
          intro v7
          refine g_if_eq (tgt := 362) X dX5_run_355 (by decide) ?_ ?_
          · exact g_pick [1, 3, 0] rfl (wR_run_b362 X n x2 v3 (v5 + (3 : Int32)) M5)
          · refine g_iconst (v := (1 : Int32)) X dX5_run_358 (by decide) ?_
            refine g_goto (tgt := 363) X dX5_run_359 (by decide) ?_
            exact g_pick [1, 3, 0] rfl (wR_run_b363 X n x2 v3 (v5 + (3 : Int32)) (1 : Int32) M5)
    · refine g_aload_n X dX5_run_210 rfl rfl ?_
      refine r_g_m X dX5_run_211 ?_
      refine g_iload_n X dX5_run_214 rfl rfl ?_
      refine g_bipush (v := (71 : Int32)) X dX5_run_215 (by decide) ?_
      refine g_iadd X dX5_run_217 ?_
      refine g_iconst (v := (2 : Int32)) X dX5_run_218 (by decide) ?_
      refine g_iload X dX5_run_219 rfl ?_
      refine g_imul X dX5_run_221 ?_
      refine g_iadd X dX5_run_222 ?_
      refine g_iload X dX5_run_223 rfl ?_
      refine g_aload_n X dX5_run_225 rfl rfl ?_
      refine r_g_wrote X dX5_run_226 ?_
      intro v8
      refine g_icmp_ge (tgt := 246) X dX5_run_229 (by decide) ?_ ?_
      · exact g_pick [0, 1, 2, 3] rfl (wR_run_b246 X n (fR_run_l203 n k) ih x1 x2 x4 ((x2 + (71 : Int32)) + ((2 : Int32) * x4)) M)
      · refine g_aload_n X dX5_run_232 rfl rfl ?_
        refine r_g_isWrittenObj X dX5_run_233 ?_
        refine g_iload X dX5_run_236 rfl ?_
        refine r_l_isWrittenObj X dX5_run_238 ?_
        intro v9
        refine g_if_eq (tgt := 246) X dX5_run_239 (by decide) ?_ ?_
        · exact g_pick [0, 1, 2, 3] rfl (wR_run_b246 X n (fR_run_l203 n k) ih x1 x2 x4 ((x2 + (71 : Int32)) + ((2 : Int32) * x4)) M)
        · refine g_iconst (v := (1 : Int32)) X dX5_run_242 (by decide) ?_
          refine g_goto (tgt := 247) X dX5_run_243 (by decide) ?_
          exact g_pick [0, 1, 2, 3] rfl (wR_run_b247 X n (fR_run_l203 n k) ih x1 x2 x4 ((x2 + (71 : Int32)) + ((2 : Int32) * x4)) (1 : Int32) M)
def fR_run_b174 (n : Nat) (x1 : Int32) (x2 : Int32) (s0 : Int32) (s1 : Int32) (M : MR) : Option (Int32 × MR) :=
    wr M 0 62610 s0 s1 fun M1 =>
    gf M1 23 fun v2 =>
    wr M1 0 62610 (x2 + (5 : Int32)) v2 fun M3 =>
    gf M3 25 fun v4 =>
    wr M3 0 62610 (x2 + (6 : Int32)) v4 fun M5 =>
    fR_run_l203 n n x1 x2 (0 : Int32) M5
theorem wR_run_b174 (X : gX p s m args meth c cX5_run 5 RX5 (some .int) D (tyR cI cZ)) (n : Nat) (x1 : Int32) (x2 : Int32) (s0 : Int32) (s1 : Int32) (M : MR) : gG p l e (rmR 9 207) s m args below meth c 5 (ZR D cI cZ q (AR q s.heap.size) s.heap M) 0 0 (fun r => MQ below (QI D cI cZ q s.heap.size r) args s 0 0 (AR q s.heap.size)) 174 [(0, .ref (q 34)), (1, .int x1), (2, .int x2)] [.int s1, .int s0, .ref (q 0)] (fR_run_b174 n x1 x2 s0 s1 M) := by
  unfold fR_run_b174
  refine r_s_m X dX5_run_174 ?_
  intro M1
  refine g_aload_n X dX5_run_175 rfl rfl ?_
  refine r_g_m X dX5_run_176 ?_
  refine g_iload_n X dX5_run_179 rfl rfl ?_
  refine g_iconst (v := (5 : Int32)) X dX5_run_180 (by decide) ?_
  refine g_iadd X dX5_run_181 ?_
  refine g_aload_n X dX5_run_182 rfl rfl ?_
  refine r_g_steps X dX5_run_183 ?_
  intro v2
  refine r_s_m X dX5_run_186 ?_
  intro M3
  refine g_aload_n X dX5_run_187 rfl rfl ?_
  refine r_g_m X dX5_run_188 ?_
  refine g_iload_n X dX5_run_191 rfl rfl ?_
  refine g_bipush (v := (6 : Int32)) X dX5_run_192 (by decide) ?_
  refine g_iadd X dX5_run_194 ?_
  refine g_aload_n X dX5_run_195 rfl rfl ?_
  refine r_g_wrote X dX5_run_196 ?_
  intro v4
  refine r_s_m X dX5_run_199 ?_
  intro M5
  refine g_iconst (v := (0 : Int32)) X dX5_run_200 (by decide) ?_
  refine g_istore (lv' := [(4, .int (0 : Int32)), (0, .ref (q 34)), (1, .int x1), (2, .int x2)]) X dX5_run_201 (by decide) rfl ?_
  exact g_pick [1, 2, 3, 0] rfl (wR_run_l203 X n n x1 x2 (0 : Int32) M5)
def fR_run_b149 (n : Nat) (x1 : Int32) (x2 : Int32) (s0 : Int32) (s1 : Int32) (M : MR) : Option (Int32 × MR) :=
    wr M 0 62610 s0 s1 fun M1 =>
    gf M1 24 fun v2 =>
    if v2 = (100 : Int32) then
      (fR_run_b174 n x1 x2 (x2 + (4 : Int32)) (0 : Int32) M1)
    else
      (gf M1 24 fun v3 =>
      fR_run_b174 n x1 x2 (x2 + (4 : Int32)) v3 M1)
theorem wR_run_b149 (X : gX p s m args meth c cX5_run 5 RX5 (some .int) D (tyR cI cZ)) (n : Nat) (x1 : Int32) (x2 : Int32) (s0 : Int32) (s1 : Int32) (M : MR) : gG p l e (rmR 9 207) s m args below meth c 5 (ZR D cI cZ q (AR q s.heap.size) s.heap M) 0 0 (fun r => MQ below (QI D cI cZ q s.heap.size r) args s 0 0 (AR q s.heap.size)) 149 [(0, .ref (q 34)), (1, .int x1), (2, .int x2)] [.int s1, .int s0, .ref (q 0)] (fR_run_b149 n x1 x2 s0 s1 M) := by
  unfold fR_run_b149
  refine r_s_m X dX5_run_149 ?_
  intro M1
  refine g_aload_n X dX5_run_150 rfl rfl ?_
  refine r_g_m X dX5_run_151 ?_
  refine g_iload_n X dX5_run_154 rfl rfl ?_
  refine g_iconst (v := (4 : Int32)) X dX5_run_155 (by decide) ?_
  refine g_iadd X dX5_run_156 ?_
  refine g_aload_n X dX5_run_157 rfl rfl ?_
  refine r_g_failure X dX5_run_158 ?_
  intro v2
  refine g_bipush (v := (100 : Int32)) X dX5_run_161 (by decide) ?_
  refine g_icmp_ne (tgt := 170) X dX5_run_163 (by decide) ?_ ?_
  · refine g_aload_n X dX5_run_170 rfl rfl ?_
    refine r_g_failure X dX5_run_171 ?_
    intro v3
    exact g_pick [0, 1, 2] rfl (wR_run_b174 X n x1 x2 (x2 + (4 : Int32)) v3 M1)
  · refine g_iconst (v := (0 : Int32)) X dX5_run_166 (by decide) ?_
    refine g_goto (tgt := 174) X dX5_run_167 (by decide) ?_
    exact g_pick [0, 1, 2] rfl (wR_run_b174 X n x1 x2 (x2 + (4 : Int32)) (0 : Int32) M1)
def fR_run_b117 (n : Nat) (x1 : Int32) (x2 : Int32) (M : MR) : Option (Int32 × MR) :=
    gf M 24 fun v1 =>
    if v1 = 0 then
      (fR_run_b149 n x1 x2 (x2 + (3 : Int32)) (0 : Int32) M)
    else
      (gf M 24 fun v2 =>
      if v2 = (100 : Int32) then
        (fR_run_b149 n x1 x2 (x2 + (3 : Int32)) (2 : Int32) M)
      else
        (fR_run_b149 n x1 x2 (x2 + (3 : Int32)) (1 : Int32) M))
theorem wR_run_b117 (X : gX p s m args meth c cX5_run 5 RX5 (some .int) D (tyR cI cZ)) (n : Nat) (x1 : Int32) (x2 : Int32) (M : MR) : gG p l e (rmR 9 207) s m args below meth c 5 (ZR D cI cZ q (AR q s.heap.size) s.heap M) 0 0 (fun r => MQ below (QI D cI cZ q s.heap.size r) args s 0 0 (AR q s.heap.size)) 117 [(0, .ref (q 34)), (1, .int x1), (2, .int x2)] [] (fR_run_b117 n x1 x2 M) := by
  unfold fR_run_b117
  refine g_aload_n X dX5_run_117 rfl rfl ?_
  refine r_g_m X dX5_run_118 ?_
  refine g_iload_n X dX5_run_121 rfl rfl ?_
  refine g_iconst (v := (3 : Int32)) X dX5_run_122 (by decide) ?_
  refine g_iadd X dX5_run_123 ?_
  refine g_aload_n X dX5_run_124 rfl rfl ?_
  refine r_g_failure X dX5_run_125 ?_
  intro v1
  refine g_if_ne (tgt := 135) X dX5_run_128 (by decide) ?_ ?_
  · refine g_aload_n X dX5_run_135 rfl rfl ?_
    refine r_g_failure X dX5_run_136 ?_
    intro v2
    refine g_bipush (v := (100 : Int32)) X dX5_run_139 (by decide) ?_
    refine g_icmp_ne (tgt := 148) X dX5_run_141 (by decide) ?_ ?_
    · refine g_iconst (v := (1 : Int32)) X dX5_run_148 (by decide) ?_
      exact g_pick [0, 1, 2] rfl (wR_run_b149 X n x1 x2 (x2 + (3 : Int32)) (1 : Int32) M)
    · refine g_iconst (v := (2 : Int32)) X dX5_run_144 (by decide) ?_
      refine g_goto (tgt := 149) X dX5_run_145 (by decide) ?_
      exact g_pick [0, 1, 2] rfl (wR_run_b149 X n x1 x2 (x2 + (3 : Int32)) (2 : Int32) M)
  · refine g_iconst (v := (0 : Int32)) X dX5_run_131 (by decide) ?_
    refine g_goto (tgt := 149) X dX5_run_132 (by decide) ?_
    exact g_pick [0, 1, 2] rfl (wR_run_b149 X n x1 x2 (x2 + (3 : Int32)) (0 : Int32) M)
def fR_run_l10 (n : Nat) : Nat → Int32 → Int32 → Int32 → Int32 → MR → Option (Int32 × MR)
  | 0, _, _, _, _, _ => none
  | k + 1, x1, x2, x3, x4, M => if (150 : Int32) ≤ x4 then
      (wr M 0 62610 (x2 + (8 : Int32)) x3 fun M1 =>
      pf M1 23 (0 : Int32) fun M2 =>
      pf M2 24 (0 : Int32) fun M3 =>
      pf M3 25 (0 : Int32) fun M4 =>
      pf M4 12 (0 : Int32) fun M5 =>
      pf M5 20 (0 : Int32) fun M6 =>
      pf M6 21 (0 : Int32) fun M7 =>
      rd M7 0 62610 (x2 + (1 : Int32)) fun v8 =>
      if v8 = 0 then
        (gf M7 6 fun v9 =>
        bnd (fR_frame n (-1 : Int32) (0 : Int32) v9 (-1 : Int32) (-1 : Int32) M7) fun _ M10 =>
        bnd (fR_work n M10) fun _ M11 =>
        fR_run_b117 n x1 x2 M11)
      else
        (fR_run_b117 n x1 x2 M7))
    else
      (rd M 9 150 x4 fun v12 =>
      if v12 = 0 then
        (fR_run_b44 n (fR_run_l10 n k) x1 x2 x3 x4 M)
      else
        (wr M 0 62610 ((x2 + (10 : Int32)) + x3) x4 fun M13 =>
        fR_run_b44 n (fR_run_l10 n k) x1 x2 (x3 + (1 : Int32)) x4 M13))
theorem wR_run_l10 (X : gX p s m args meth c cX5_run 5 RX5 (some .int) D (tyR cI cZ)) (n : Nat) : ∀ (k : Nat) (x1 : Int32) (x2 : Int32) (x3 : Int32) (x4 : Int32) (M : MR), gG p l e (rmR 9 207) s m args below meth c 5 (ZR D cI cZ q (AR q s.heap.size) s.heap M) 0 0 (fun r => MQ below (QI D cI cZ q s.heap.size r) args s 0 0 (AR q s.heap.size)) 10 [(0, .ref (q 34)), (1, .int x1), (2, .int x2), (3, .int x3), (4, .int x4)] [] (fR_run_l10 n k x1 x2 x3 x4 M) := by
  intro k
  induction k with
  | zero =>
    intro x1 x2 x3 x4 M
    exact g_none
  | succ k ih =>
    intro x1 x2 x3 x4 M
    rw [fR_run_l10]
    refine g_iload X dX5_run_10 rfl ?_
    refine g_sipush (v := (150 : Int32)) X dX5_run_12 (by decide) ?_
    refine g_icmp_ge (tgt := 50) X dX5_run_15 (by decide) ?_ ?_
    · refine g_aload_n X dX5_run_50 rfl rfl ?_
      refine r_g_m X dX5_run_51 ?_
      refine g_iload_n X dX5_run_54 rfl rfl ?_
      refine g_bipush (v := (8 : Int32)) X dX5_run_55 (by decide) ?_
      refine g_iadd X dX5_run_57 ?_
      refine g_iload_n X dX5_run_58 rfl rfl ?_
      refine r_s_m X dX5_run_59 ?_
      intro M1
      refine g_aload_n X dX5_run_60 rfl rfl ?_
      refine g_iconst (v := (0 : Int32)) X dX5_run_61 (by decide) ?_
      refine r_p_steps X dX5_run_62 ?_
      intro M2
      refine g_aload_n X dX5_run_65 rfl rfl ?_
      refine g_iconst (v := (0 : Int32)) X dX5_run_66 (by decide) ?_
      refine r_p_failure X dX5_run_67 ?_
      intro M3
      refine g_aload_n X dX5_run_70 rfl rfl ?_
      refine g_iconst (v := (0 : Int32)) X dX5_run_71 (by decide) ?_
      refine r_p_wrote X dX5_run_72 ?_
      intro M4
      refine g_aload_n X dX5_run_75 rfl rfl ?_
      refine g_iconst (v := (0 : Int32)) X dX5_run_76 (by decide) ?_
      refine r_p_top X dX5_run_77 ?_
      intro M5
      refine g_aload_n X dX5_run_80 rfl rfl ?_
      refine g_iconst (v := (0 : Int32)) X dX5_run_81 (by decide) ?_
      refine r_p_frames X dX5_run_82 ?_
      intro M6
      refine g_aload_n X dX5_run_85 rfl rfl ?_
      refine g_iconst (v := (0 : Int32)) X dX5_run_86 (by decide) ?_
      refine r_p_inner X dX5_run_87 ?_
      intro M7
      refine g_aload_n X dX5_run_90 rfl rfl ?_
      refine r_g_m X dX5_run_91 ?_
      refine g_iload_n X dX5_run_94 rfl rfl ?_
      refine g_iconst (v := (1 : Int32)) X dX5_run_95 (by decide) ?_
      refine g_iadd X dX5_run_96 ?_
      refine r_l_m X dX5_run_97 ?_
      intro v8
      refine g_if_ne (tgt := 117) X dX5_run_98 (by decide) ?_ ?_
      · exact g_pick [0, 1, 2] rfl (wR_run_b117 X n x1 x2 M7)
      · refine g_aload_n X dX5_run_101 rfl rfl ?_
        refine g_iconst (v := (-1 : Int32)) X dX5_run_102 (by decide) ?_
        refine g_iconst (v := (0 : Int32)) X dX5_run_103 (by decide) ?_
        refine g_aload_n X dX5_run_104 rfl rfl ?_
        refine r_g_length X dX5_run_105 ?_
        intro v9
        refine g_iconst (v := (-1 : Int32)) X dX5_run_108 (by decide) ?_
        refine g_iconst (v := (-1 : Int32)) X dX5_run_109 (by decide) ?_
        refine k_frame X ⟨Nat.le_of_ble_eq_true rfl, Nat.le_of_ble_eq_true rfl⟩ (Nat.le_of_ble_eq_true rfl) dX5_run_110 ?_
        intro v10 M10
        refine g_aload_n X dX5_run_113 rfl rfl ?_
        refine k_work X ⟨Nat.le_of_ble_eq_true rfl, Nat.le_of_ble_eq_true rfl⟩ (Nat.le_of_ble_eq_true rfl) dX5_run_114 ?_
        intro v11 M11
        exact g_pick [0, 1, 2] rfl (wR_run_b117 X n x1 x2 M11)
    · refine g_aload_n X dX5_run_18 rfl rfl ?_
      refine r_g_leaned X dX5_run_19 ?_
      refine g_iload X dX5_run_22 rfl ?_
      refine r_l_leaned X dX5_run_24 ?_
      intro v12
      refine g_if_eq (tgt := 44) X dX5_run_25 (by decide) ?_ ?_
      · exact g_pick [0, 1, 2, 3, 4] rfl (wR_run_b44 X n (fR_run_l10 n k) ih x1 x2 x3 x4 M)
      · refine g_aload_n X dX5_run_28 rfl rfl ?_
        refine r_g_m X dX5_run_29 ?_
        refine g_iload_n X dX5_run_32 rfl rfl ?_
        refine g_bipush (v := (10 : Int32)) X dX5_run_33 (by decide) ?_
        refine g_iadd X dX5_run_35 ?_
        refine g_iload_n X dX5_run_36 rfl rfl ?_
        refine g_iadd X dX5_run_37 ?_
        refine g_iload X dX5_run_38 rfl ?_
        refine r_s_m X dX5_run_40 ?_
        intro M13
        refine g_iinc (v := (1 : Int32)) (lv' := [(3, .int (x3 + (1 : Int32))), (0, .ref (q 34)), (1, .int x1), (2, .int x2), (4, .int x4)]) X dX5_run_41 rfl (by decide) (by decide) rfl ?_
        exact g_pick [1, 2, 3, 0, 4] rfl (wR_run_b44 X n (fR_run_l10 n k) ih x1 x2 (x3 + (1 : Int32)) x4 M13)
def fR_run (n : Nat) (x1 : Int32) (M : MR) : Option (Int32 × MR) :=
    bnd (fR_cellAt n x1 M) fun v1 M1 =>
    fR_run_l10 n n x1 v1 (0 : Int32) (0 : Int32) M1
theorem c_run (l : Launch) (D : va_G) (cI cZ : ClassId) (q : Nat → Nat) (n : Nat) (x1 : Int32) (M : MR) : MetR l D cI cZ q yX5_run cX5_run 5 (some .int) 9 207 QI [.ref (q 34), .int x1] M (fR_run n x1 M) := by
  refine MetR.of (by decide) rfl (Nat.le_of_ble_eq_true rfl) ?_
  intro p e s m args below meth c X
  unfold fR_run
  refine g_pick (lv' := [(0, .ref (q 34)), (1, .int x1)]) [0, 1] rfl ?_
  refine g_iload_n X dX5_run_0 rfl rfl ?_
  refine k_cellAt X ⟨Nat.le_of_ble_eq_true rfl, Nat.le_of_ble_eq_true rfl⟩ (Nat.le_of_ble_eq_true rfl) dX5_run_1 ?_
  intro v1 M1
  refine g_istore_n (lv' := [(2, .int v1), (0, .ref (q 34)), (1, .int x1)]) X dX5_run_4 rfl (by decide) rfl ?_
  refine g_iconst (v := (0 : Int32)) X dX5_run_5 (by decide) ?_
  refine g_istore_n (lv' := [(3, .int (0 : Int32)), (2, .int v1), (0, .ref (q 34)), (1, .int x1)]) X dX5_run_6 rfl (by decide) rfl ?_
  refine g_iconst (v := (0 : Int32)) X dX5_run_7 (by decide) ?_
  refine g_istore (lv' := [(4, .int (0 : Int32)), (3, .int (0 : Int32)), (2, .int v1), (0, .ref (q 34)), (1, .int x1)]) X dX5_run_8 (by decide) rfl ?_
  exact g_pick [3, 4, 2, 1, 0] rfl (wR_run_l10 X n n x1 v1 (0 : Int32) (0 : Int32) M1)
theorem tc_run : Cond.code yX5_run cX5_run 5 (some .int) ∈ tt := tt_in (List.mem_of_getElem? (i := 948) (by decide +kernel)) (by decide +kernel)
theorem tl_run : Cond.methodLink RX5 248 yX5_run ∈ tt := tt_in (List.mem_of_getElem? (i := 945) (by decide +kernel)) (by decide +kernel)
theorem ti_run : Cond.instanceMethod yX5_run ∈ tt := tt_in (List.mem_of_getElem? (i := 947) (by decide +kernel)) (by decide +kernel)
theorem te_run : Cond.selects RX5 yX5_run yX5_run ∈ tt := tt_in (List.mem_of_getElem? (i := 48) (by decide +kernel)) (by decide +kernel)
theorem k_run (X : gX p s m args meth c cc nL RX5 rt D (tyR cI cZ)) {n : Nat} {x1 : Int32} {M : MR} {rest : List Value} {K : Int32 → MR → Option ρ} (hR : 9 + 1 ≤ R.frames ∧ 8 + (5 + 11) + 207 ≤ R.locals) (hcat : (rest.map fun v => v.category).sum ≤ 8) (d : decode cc pc = .ok (.invokevirtual 248, 3)) (kk : ∀ v M1, gG p l e R s m args below meth c nL (ZR D cI cZ q (AR q s.heap.size) s.heap M1) 0 0 QQ (pc + 3) lv (.int v :: rest) (K v M1)) : gG p l e R s m args below meth c nL (ZR D cI cZ q (AR q s.heap.size) s.heap M) 0 0 QQ pc lv (.int x1 :: .ref (q 34) :: rest) (bnd (fR_run n x1 M) K) := r_callVi (As := [.int x1]) X (c_run l D cI cZ q n x1 M) (cwVR (k := 1) X.2.2.2.2.1 tl_run ti_run te_run tc_run ini5 (by decide +kernel) hR) rfl rfl hcat d kk
-- lookAtTape
def fR_lookAtTape_l10 (n : Nat) : Nat → Int32 → Int32 → MR → Option (Int32 × MR)
  | 0, _, _, _ => none
  | k + 1, x1, x2, M => gf M 3 fun v1 =>
    if v1 ≤ x2 then
      (bnd (fR_looked n x1 M) fun v2 M2 =>
      some (v2, M2))
    else
      (rd M 2 60 x2 fun v3 =>
      wr M 4 60 x2 v3 fun M4 =>
      (fR_lookAtTape_l10 n k) x1 (x2 + (1 : Int32)) M4)
theorem wR_lookAtTape_l10 (X : gX p s m args meth c cX5_lookAtTape 3 RX5 (some .int) D (tyR cI cZ)) (n : Nat) : ∀ (k : Nat) (x1 : Int32) (x2 : Int32) (M : MR), gG p l e (rmR 8 189) s m args below meth c 3 (ZR D cI cZ q (AR q s.heap.size) s.heap M) 0 0 (fun r => MQ below (QI D cI cZ q s.heap.size r) args s 0 0 (AR q s.heap.size)) 10 [(0, .ref (q 34)), (1, .int x1), (2, .int x2)] [] (fR_lookAtTape_l10 n k x1 x2 M) := by
  intro k
  induction k with
  | zero =>
    intro x1 x2 M
    exact g_none
  | succ k ih =>
    intro x1 x2 M
    rw [fR_lookAtTape_l10]
    refine g_iload_n X dX5_lookAtTape_10 rfl rfl ?_
    refine g_aload_n X dX5_lookAtTape_11 rfl rfl ?_
    refine r_g_taped X dX5_lookAtTape_12 ?_
    intro v1
    refine g_icmp_ge (tgt := 36) X dX5_lookAtTape_15 (by decide) ?_ ?_
    · refine g_aload_n X dX5_lookAtTape_36 rfl rfl ?_
      refine g_iload_n X dX5_lookAtTape_37 rfl rfl ?_
      refine k_looked X ⟨Nat.le_of_ble_eq_true rfl, Nat.le_of_ble_eq_true rfl⟩ (Nat.le_of_ble_eq_true rfl) dX5_lookAtTape_38 ?_
      intro v2 M2
      exact r_iret X dX5_lookAtTape_41
    · refine g_aload_n X dX5_lookAtTape_18 rfl rfl ?_
      refine r_g_text X dX5_lookAtTape_19 ?_
      refine g_iload_n X dX5_lookAtTape_22 rfl rfl ?_
      refine g_aload_n X dX5_lookAtTape_23 rfl rfl ?_
      refine r_g_tape X dX5_lookAtTape_24 ?_
      refine g_iload_n X dX5_lookAtTape_27 rfl rfl ?_
      refine r_l_tape X dX5_lookAtTape_28 ?_
      intro v3
      refine r_s_text X dX5_lookAtTape_29 ?_
      intro M4
      refine g_iinc (v := (1 : Int32)) (lv' := [(2, .int (x2 + (1 : Int32))), (0, .ref (q 34)), (1, .int x1)]) X dX5_lookAtTape_30 rfl (by decide) (by decide) rfl ?_
      refine g_goto (tgt := 10) X dX5_lookAtTape_33 (by decide) ?_
      exact g_pick [1, 2, 0] rfl (ih x1 (x2 + (1 : Int32)) M4)
def fR_lookAtTape (n : Nat) (x1 : Int32) (M : MR) : Option (Int32 × MR) :=
    gf M 3 fun v1 =>
    pf M 6 v1 fun M2 =>
    fR_lookAtTape_l10 n n x1 (0 : Int32) M2
theorem c_lookAtTape (l : Launch) (D : va_G) (cI cZ : ClassId) (q : Nat → Nat) (n : Nat) (x1 : Int32) (M : MR) : MetR l D cI cZ q yX5_lookAtTape cX5_lookAtTape 3 (some .int) 8 189 QI [.ref (q 34), .int x1] M (fR_lookAtTape n x1 M) := by
  refine MetR.of (by decide) rfl (Nat.le_of_ble_eq_true rfl) ?_
  intro p e s m args below meth c X
  unfold fR_lookAtTape
  refine g_pick (lv' := [(0, .ref (q 34)), (1, .int x1)]) [0, 1] rfl ?_
  refine g_aload_n X dX5_lookAtTape_0 rfl rfl ?_
  refine g_aload_n X dX5_lookAtTape_1 rfl rfl ?_
  refine r_g_taped X dX5_lookAtTape_2 ?_
  intro v1
  refine r_p_length X dX5_lookAtTape_5 ?_
  intro M2
  refine g_iconst (v := (0 : Int32)) X dX5_lookAtTape_8 (by decide) ?_
  refine g_istore_n (lv' := [(2, .int (0 : Int32)), (0, .ref (q 34)), (1, .int x1)]) X dX5_lookAtTape_9 rfl (by decide) rfl ?_
  exact g_pick [1, 2, 0] rfl (wR_lookAtTape_l10 X n n x1 (0 : Int32) M2)
theorem tc_lookAtTape : Cond.code yX5_lookAtTape cX5_lookAtTape 3 (some .int) ∈ tt := tt_in (List.mem_of_getElem? (i := 895) (by decide +kernel)) (by decide +kernel)
theorem tl_lookAtTape : Cond.methodLink RX5 242 yX5_lookAtTape ∈ tt := tt_in (List.mem_of_getElem? (i := 892) (by decide +kernel)) (by decide +kernel)
theorem ti_lookAtTape : Cond.instanceMethod yX5_lookAtTape ∈ tt := tt_in (List.mem_of_getElem? (i := 894) (by decide +kernel)) (by decide +kernel)
theorem te_lookAtTape : Cond.selects RX5 yX5_lookAtTape yX5_lookAtTape ∈ tt := tt_in (List.mem_of_getElem? (i := 38) (by decide +kernel)) (by decide +kernel)
theorem k_lookAtTape (X : gX p s m args meth c cc nL RX5 rt D (tyR cI cZ)) {n : Nat} {x1 : Int32} {M : MR} {rest : List Value} {K : Int32 → MR → Option ρ} (hR : 8 + 1 ≤ R.frames ∧ 8 + (3 + 11) + 189 ≤ R.locals) (hcat : (rest.map fun v => v.category).sum ≤ 8) (d : decode cc pc = .ok (.invokevirtual 242, 3)) (kk : ∀ v M1, gG p l e R s m args below meth c nL (ZR D cI cZ q (AR q s.heap.size) s.heap M1) 0 0 QQ (pc + 3) lv (.int v :: rest) (K v M1)) : gG p l e R s m args below meth c nL (ZR D cI cZ q (AR q s.heap.size) s.heap M) 0 0 QQ pc lv (.int x1 :: .ref (q 34) :: rest) (bnd (fR_lookAtTape n x1 M) K) := r_callVi (As := [.int x1]) X (c_lookAtTape l D cI cZ q n x1 M) (cwVR (k := 1) X.2.2.2.2.1 tl_lookAtTape ti_lookAtTape te_lookAtTape tc_lookAtTape ini5 (by decide +kernel) hR) rfl rfl hcat d kk
-- lookAtCell
def fR_lookAtCell_l17 (n : Nat) : Nat → Int32 → Int32 → MR → Option (Int32 × MR)
  | 0, _, _, _ => none
  | k + 1, x1, x2, M => gf M 6 fun v1 =>
    if v1 ≤ x2 then
      (bnd (fR_cellAt n x1 M) fun v2 M2 =>
      rd M2 0 62610 (v2 + (1 : Int32)) fun v3 =>
      bnd (fR_looked n v3 M2) fun v4 M4 =>
      some (v4, M4))
    else
      (bnd (fR_cellAt n x1 M) fun v5 M5 =>
      rd M5 0 62610 ((v5 + (112 : Int32)) + x2) fun v6 =>
      wr M5 4 60 x2 v6 fun M7 =>
      (fR_lookAtCell_l17 n k) x1 (x2 + (1 : Int32)) M7)
theorem wR_lookAtCell_l17 (X : gX p s m args meth c cX5_lookAtCell 3 RX5 (some .int) D (tyR cI cZ)) (n : Nat) : ∀ (k : Nat) (x1 : Int32) (x2 : Int32) (M : MR), gG p l e (rmR 8 189) s m args below meth c 3 (ZR D cI cZ q (AR q s.heap.size) s.heap M) 0 0 (fun r => MQ below (QI D cI cZ q s.heap.size r) args s 0 0 (AR q s.heap.size)) 17 [(0, .ref (q 34)), (1, .int x1), (2, .int x2)] [] (fR_lookAtCell_l17 n k x1 x2 M) := by
  intro k
  induction k with
  | zero =>
    intro x1 x2 M
    exact g_none
  | succ k ih =>
    intro x1 x2 M
    rw [fR_lookAtCell_l17]
    refine g_iload_n X dX5_lookAtCell_17 rfl rfl ?_
    refine g_aload_n X dX5_lookAtCell_18 rfl rfl ?_
    refine r_g_length X dX5_lookAtCell_19 ?_
    intro v1
    refine g_icmp_ge (tgt := 51) X dX5_lookAtCell_22 (by decide) ?_ ?_
    · refine g_aload_n X dX5_lookAtCell_51 rfl rfl ?_
      refine g_aload_n X dX5_lookAtCell_52 rfl rfl ?_
      refine r_g_m X dX5_lookAtCell_53 ?_
      refine g_iload_n X dX5_lookAtCell_56 rfl rfl ?_
      refine k_cellAt X ⟨Nat.le_of_ble_eq_true rfl, Nat.le_of_ble_eq_true rfl⟩ (Nat.le_of_ble_eq_true rfl) dX5_lookAtCell_57 ?_
      intro v2 M2
      refine g_iconst (v := (1 : Int32)) X dX5_lookAtCell_60 (by decide) ?_
      refine g_iadd X dX5_lookAtCell_61 ?_
      refine r_l_m X dX5_lookAtCell_62 ?_
      intro v3
      refine k_looked X ⟨Nat.le_of_ble_eq_true rfl, Nat.le_of_ble_eq_true rfl⟩ (Nat.le_of_ble_eq_true rfl) dX5_lookAtCell_63 ?_
      intro v4 M4
      exact r_iret X dX5_lookAtCell_66
    · refine g_aload_n X dX5_lookAtCell_25 rfl rfl ?_
      refine r_g_text X dX5_lookAtCell_26 ?_
      refine g_iload_n X dX5_lookAtCell_29 rfl rfl ?_
      refine g_aload_n X dX5_lookAtCell_30 rfl rfl ?_
      refine r_g_m X dX5_lookAtCell_31 ?_
      refine g_iload_n X dX5_lookAtCell_34 rfl rfl ?_
      refine k_cellAt X ⟨Nat.le_of_ble_eq_true rfl, Nat.le_of_ble_eq_true rfl⟩ (Nat.le_of_ble_eq_true rfl) dX5_lookAtCell_35 ?_
      intro v5 M5
      refine g_bipush (v := (112 : Int32)) X dX5_lookAtCell_38 (by decide) ?_
      refine g_iadd X dX5_lookAtCell_40 ?_
      refine g_iload_n X dX5_lookAtCell_41 rfl rfl ?_
      refine g_iadd X dX5_lookAtCell_42 ?_
      refine r_l_m X dX5_lookAtCell_43 ?_
      intro v6
      refine r_s_text X dX5_lookAtCell_44 ?_
      intro M7
      refine g_iinc (v := (1 : Int32)) (lv' := [(2, .int (x2 + (1 : Int32))), (0, .ref (q 34)), (1, .int x1)]) X dX5_lookAtCell_45 rfl (by decide) (by decide) rfl ?_
      refine g_goto (tgt := 17) X dX5_lookAtCell_48 (by decide) ?_
      exact g_pick [1, 2, 0] rfl (ih x1 (x2 + (1 : Int32)) M7)
def fR_lookAtCell (n : Nat) (x1 : Int32) (M : MR) : Option (Int32 × MR) :=
    bnd (fR_cellAt n x1 M) fun v1 M1 =>
    rd M1 0 62610 (v1 + (2 : Int32)) fun v2 =>
    pf M1 6 v2 fun M3 =>
    fR_lookAtCell_l17 n n x1 (0 : Int32) M3
theorem c_lookAtCell (l : Launch) (D : va_G) (cI cZ : ClassId) (q : Nat → Nat) (n : Nat) (x1 : Int32) (M : MR) : MetR l D cI cZ q yX5_lookAtCell cX5_lookAtCell 3 (some .int) 8 189 QI [.ref (q 34), .int x1] M (fR_lookAtCell n x1 M) := by
  refine MetR.of (by decide) rfl (Nat.le_of_ble_eq_true rfl) ?_
  intro p e s m args below meth c X
  unfold fR_lookAtCell
  refine g_pick (lv' := [(0, .ref (q 34)), (1, .int x1)]) [0, 1] rfl ?_
  refine g_aload_n X dX5_lookAtCell_0 rfl rfl ?_
  refine g_aload_n X dX5_lookAtCell_1 rfl rfl ?_
  refine r_g_m X dX5_lookAtCell_2 ?_
  refine g_iload_n X dX5_lookAtCell_5 rfl rfl ?_
  refine k_cellAt X ⟨Nat.le_of_ble_eq_true rfl, Nat.le_of_ble_eq_true rfl⟩ (Nat.le_of_ble_eq_true rfl) dX5_lookAtCell_6 ?_
  intro v1 M1
  refine g_iconst (v := (2 : Int32)) X dX5_lookAtCell_9 (by decide) ?_
  refine g_iadd X dX5_lookAtCell_10 ?_
  refine r_l_m X dX5_lookAtCell_11 ?_
  intro v2
  refine r_p_length X dX5_lookAtCell_12 ?_
  intro M3
  refine g_iconst (v := (0 : Int32)) X dX5_lookAtCell_15 (by decide) ?_
  refine g_istore_n (lv' := [(2, .int (0 : Int32)), (0, .ref (q 34)), (1, .int x1)]) X dX5_lookAtCell_16 rfl (by decide) rfl ?_
  exact g_pick [1, 2, 0] rfl (wR_lookAtCell_l17 X n n x1 (0 : Int32) M3)
theorem tc_lookAtCell : Cond.code yX5_lookAtCell cX5_lookAtCell 3 (some .int) ∈ tt := tt_in (List.mem_of_getElem? (i := 1071) (by decide +kernel)) (by decide +kernel)
theorem tl_lookAtCell : Cond.methodLink RX5 254 yX5_lookAtCell ∈ tt := tt_in (List.mem_of_getElem? (i := 1068) (by decide +kernel)) (by decide +kernel)
theorem ti_lookAtCell : Cond.instanceMethod yX5_lookAtCell ∈ tt := tt_in (List.mem_of_getElem? (i := 1070) (by decide +kernel)) (by decide +kernel)
theorem te_lookAtCell : Cond.selects RX5 yX5_lookAtCell yX5_lookAtCell ∈ tt := tt_in (List.mem_of_getElem? (i := 76) (by decide +kernel)) (by decide +kernel)
theorem k_lookAtCell (X : gX p s m args meth c cc nL RX5 rt D (tyR cI cZ)) {n : Nat} {x1 : Int32} {M : MR} {rest : List Value} {K : Int32 → MR → Option ρ} (hR : 8 + 1 ≤ R.frames ∧ 8 + (3 + 11) + 189 ≤ R.locals) (hcat : (rest.map fun v => v.category).sum ≤ 8) (d : decode cc pc = .ok (.invokevirtual 254, 3)) (kk : ∀ v M1, gG p l e R s m args below meth c nL (ZR D cI cZ q (AR q s.heap.size) s.heap M1) 0 0 QQ (pc + 3) lv (.int v :: rest) (K v M1)) : gG p l e R s m args below meth c nL (ZR D cI cZ q (AR q s.heap.size) s.heap M) 0 0 QQ pc lv (.int x1 :: .ref (q 34) :: rest) (bnd (fR_lookAtCell n x1 M) K) := r_callVi (As := [.int x1]) X (c_lookAtCell l D cI cZ q n x1 M) (cwVR (k := 1) X.2.2.2.2.1 tl_lookAtCell ti_lookAtCell te_lookAtCell tc_lookAtCell ini5 (by decide +kernel) hR) rfl rfl hcat d kk
-- layText
def fR_layText_l17 (n : Nat) : Nat → Int32 → Int32 → MR → Option (Int32 × MR)
  | 0, _, _, _ => none
  | k + 1, x1, x2, M => gf M 6 fun v1 =>
    if v1 ≤ x2 then
      (pf M 3 (0 : Int32) fun M2 =>
      some (0, M2))
    else
      (bnd (fR_cellAt n x1 M) fun v3 M3 =>
      rd M3 4 60 x2 fun v4 =>
      wr M3 0 62610 ((v3 + (112 : Int32)) + x2) v4 fun M5 =>
      (fR_layText_l17 n k) x1 (x2 + (1 : Int32)) M5)
theorem wR_layText_l17 (X : gX p s m args meth c cX5_layText 3 RX5 none D (tyR cI cZ)) (n : Nat) : ∀ (k : Nat) (x1 : Int32) (x2 : Int32) (M : MR), gG p l e (rmR 1 20) s m args below meth c 3 (ZR D cI cZ q (AR q s.heap.size) s.heap M) 0 0 (fun r => MQ below (QV D cI cZ q s.heap.size r) args s 0 0 (AR q s.heap.size)) 17 [(0, .ref (q 34)), (1, .int x1), (2, .int x2)] [] (fR_layText_l17 n k x1 x2 M) := by
  intro k
  induction k with
  | zero =>
    intro x1 x2 M
    exact g_none
  | succ k ih =>
    intro x1 x2 M
    rw [fR_layText_l17]
    refine g_iload_n X dX5_layText_17 rfl rfl ?_
    refine g_aload_n X dX5_layText_18 rfl rfl ?_
    refine r_g_length X dX5_layText_19 ?_
    intro v1
    refine g_icmp_ge (tgt := 51) X dX5_layText_22 (by decide) ?_ ?_
    · refine g_aload_n X dX5_layText_51 rfl rfl ?_
      refine g_iconst (v := (0 : Int32)) X dX5_layText_52 (by decide) ?_
      refine r_p_taped X dX5_layText_53 ?_
      intro M2
      exact r_vret X dX5_layText_56
    · refine g_aload_n X dX5_layText_25 rfl rfl ?_
      refine r_g_m X dX5_layText_26 ?_
      refine g_iload_n X dX5_layText_29 rfl rfl ?_
      refine k_cellAt X ⟨Nat.le_of_ble_eq_true rfl, Nat.le_of_ble_eq_true rfl⟩ (Nat.le_of_ble_eq_true rfl) dX5_layText_30 ?_
      intro v3 M3
      refine g_bipush (v := (112 : Int32)) X dX5_layText_33 (by decide) ?_
      refine g_iadd X dX5_layText_35 ?_
      refine g_iload_n X dX5_layText_36 rfl rfl ?_
      refine g_iadd X dX5_layText_37 ?_
      refine g_aload_n X dX5_layText_38 rfl rfl ?_
      refine r_g_text X dX5_layText_39 ?_
      refine g_iload_n X dX5_layText_42 rfl rfl ?_
      refine r_l_text X dX5_layText_43 ?_
      intro v4
      refine r_s_m X dX5_layText_44 ?_
      intro M5
      refine g_iinc (v := (1 : Int32)) (lv' := [(2, .int (x2 + (1 : Int32))), (0, .ref (q 34)), (1, .int x1)]) X dX5_layText_45 rfl (by decide) (by decide) rfl ?_
      refine g_goto (tgt := 17) X dX5_layText_48 (by decide) ?_
      exact g_pick [1, 2, 0] rfl (ih x1 (x2 + (1 : Int32)) M5)
def fR_layText (n : Nat) (x1 : Int32) (M : MR) : Option (Int32 × MR) :=
    bnd (fR_cellAt n x1 M) fun v1 M1 =>
    gf M1 6 fun v2 =>
    wr M1 0 62610 (v1 + (2 : Int32)) v2 fun M3 =>
    fR_layText_l17 n n x1 (0 : Int32) M3
theorem c_layText (l : Launch) (D : va_G) (cI cZ : ClassId) (q : Nat → Nat) (n : Nat) (x1 : Int32) (M : MR) : MetR l D cI cZ q yX5_layText cX5_layText 3 none 1 20 QV [.ref (q 34), .int x1] M (fR_layText n x1 M) := by
  refine MetR.of (by decide) rfl (Nat.le_of_ble_eq_true rfl) ?_
  intro p e s m args below meth c X
  unfold fR_layText
  refine g_pick (lv' := [(0, .ref (q 34)), (1, .int x1)]) [0, 1] rfl ?_
  refine g_aload_n X dX5_layText_0 rfl rfl ?_
  refine r_g_m X dX5_layText_1 ?_
  refine g_iload_n X dX5_layText_4 rfl rfl ?_
  refine k_cellAt X ⟨Nat.le_of_ble_eq_true rfl, Nat.le_of_ble_eq_true rfl⟩ (Nat.le_of_ble_eq_true rfl) dX5_layText_5 ?_
  intro v1 M1
  refine g_iconst (v := (2 : Int32)) X dX5_layText_8 (by decide) ?_
  refine g_iadd X dX5_layText_9 ?_
  refine g_aload_n X dX5_layText_10 rfl rfl ?_
  refine r_g_length X dX5_layText_11 ?_
  intro v2
  refine r_s_m X dX5_layText_14 ?_
  intro M3
  refine g_iconst (v := (0 : Int32)) X dX5_layText_15 (by decide) ?_
  refine g_istore_n (lv' := [(2, .int (0 : Int32)), (0, .ref (q 34)), (1, .int x1)]) X dX5_layText_16 rfl (by decide) rfl ?_
  exact g_pick [1, 2, 0] rfl (wR_layText_l17 X n n x1 (0 : Int32) M3)
theorem tc_layText : Cond.code yX5_layText cX5_layText 3 none ∈ tt := tt_in (List.mem_of_getElem? (i := 944) (by decide +kernel)) (by decide +kernel)
theorem tl_layText : Cond.methodLink RX5 245 yX5_layText ∈ tt := tt_in (List.mem_of_getElem? (i := 941) (by decide +kernel)) (by decide +kernel)
theorem ti_layText : Cond.instanceMethod yX5_layText ∈ tt := tt_in (List.mem_of_getElem? (i := 943) (by decide +kernel)) (by decide +kernel)
theorem te_layText : Cond.selects RX5 yX5_layText yX5_layText ∈ tt := tt_in (List.mem_of_getElem? (i := 47) (by decide +kernel)) (by decide +kernel)
theorem k_layText (X : gX p s m args meth c cc nL RX5 rt D (tyR cI cZ)) {n : Nat} {x1 : Int32} {M : MR} {rest : List Value} {K : Int32 → MR → Option ρ} (hR : 1 + 1 ≤ R.frames ∧ 8 + (3 + 11) + 20 ≤ R.locals) (hcat : (rest.map fun v => v.category).sum ≤ 8) (d : decode cc pc = .ok (.invokevirtual 245, 3)) (kk : ∀ v M1, gG p l e R s m args below meth c nL (ZR D cI cZ q (AR q s.heap.size) s.heap M1) 0 0 QQ (pc + 3) lv (rest) (K v M1)) : gG p l e R s m args below meth c nL (ZR D cI cZ q (AR q s.heap.size) s.heap M) 0 0 QQ pc lv (.int x1 :: .ref (q 34) :: rest) (bnd (fR_layText n x1 M) K) := r_callVv (As := [.int x1]) X (c_layText l D cI cZ q n x1 M) (cwVR (k := 1) X.2.2.2.2.1 tl_layText ti_layText te_layText tc_layText ini5 (by decide +kernel) hR) rfl rfl hcat d kk
-- cell
def fR_cell (n : Nat) (x1 : Int32) (x2 : Int32) (M : MR) : Option (Int32 × MR) :=
    bnd (fR_isName n x1 M) fun v1 M1 =>
    if v1 = 0 then
      (some ((-1 : Int32), M1))
    else
      (if x2 < 0 then
        (some ((-1 : Int32), M1))
      else
        (if x2 ≤ (1 : Int32) then
          (rd M1 0 62610 (0 : Int32) fun v2 =>
          if v2 = (40 : Int32) then
            (some ((-2 : Int32), M1))
          else
            (rd M1 0 62610 (1 : Int32) fun v3 =>
            if v3 = (150 : Int32) then
              (some ((-2 : Int32), M1))
            else
              (bnd (fR_lookAtTape n x2 M1) fun v4 M4 =>
              if v4 < 0 then
                (rd M4 0 62610 (0 : Int32) fun v5 =>
                rd M4 0 62610 (0 : Int32) fun v6 =>
                wr M4 0 62610 (0 : Int32) (v6 + (1 : Int32)) fun M7 =>
                bnd (fR_cellAt n v5 M7) fun v8 M8 =>
                wr M8 0 62610 (v8 + (0 : Int32)) x1 fun M9 =>
                bnd (fR_cellAt n v5 M9) fun v10 M10 =>
                wr M10 0 62610 (v10 + (1 : Int32)) x2 fun M11 =>
                bnd (fR_layText n v5 M11) fun _ M12 =>
                bnd (fR_run n v5 M12) fun v13 M13 =>
                some (v5, M13))
              else
                (some (((-100 : Int32) - v4), M4)))))
        else
          (some ((-1 : Int32), M1))))
theorem c_cell (l : Launch) (D : va_G) (cI cZ : ClassId) (q : Nat → Nat) (n : Nat) (x1 : Int32) (x2 : Int32) (M : MR) : MetR l D cI cZ q yX5_cell cX5_cell 6 (some .int) 10 231 QI [.ref (q 34), .int x1, .int x2] M (fR_cell n x1 x2 M) := by
  refine MetR.of (by decide) rfl (Nat.le_of_ble_eq_true rfl) ?_
  intro p e s m args below meth c X
  unfold fR_cell
  refine g_pick (lv' := [(0, .ref (q 34)), (1, .int x1), (2, .int x2)]) [0, 1, 2] rfl ?_
  refine g_iload_n X dX5_cell_0 rfl rfl ?_
  refine k_isName X ⟨Nat.le_of_ble_eq_true rfl, Nat.le_of_ble_eq_true rfl⟩ (Nat.le_of_ble_eq_true rfl) dX5_cell_1 ?_
  intro v1 M1
  refine g_if_eq (tgt := 16) X dX5_cell_4 (by decide) ?_ ?_
  · refine g_iconst (v := (-1 : Int32)) X dX5_cell_16 (by decide) ?_
    exact r_iret X dX5_cell_17
  · refine g_iload_n X dX5_cell_7 rfl rfl ?_
    refine g_if_lt (tgt := 16) X dX5_cell_8 (by decide) ?_ ?_
    · refine g_iconst (v := (-1 : Int32)) X dX5_cell_16 (by decide) ?_
      exact r_iret X dX5_cell_17
    · refine g_iload_n X dX5_cell_11 rfl rfl ?_
      refine g_iconst (v := (1 : Int32)) X dX5_cell_12 (by decide) ?_
      refine g_icmp_le (tgt := 18) X dX5_cell_13 (by decide) ?_ ?_
      · refine g_aload_n X dX5_cell_18 rfl rfl ?_
        refine r_g_m X dX5_cell_19 ?_
        refine g_iconst (v := (0 : Int32)) X dX5_cell_22 (by decide) ?_
        refine r_l_m X dX5_cell_23 ?_
        intro v2
        refine g_bipush (v := (40 : Int32)) X dX5_cell_24 (by decide) ?_
        refine g_icmp_eq (tgt := 41) X dX5_cell_26 (by decide) ?_ ?_
        · refine g_bipush (v := (-2 : Int32)) X dX5_cell_41 (by decide) ?_
          exact r_iret X dX5_cell_43
        · refine g_aload_n X dX5_cell_29 rfl rfl ?_
          refine r_g_m X dX5_cell_30 ?_
          refine g_iconst (v := (1 : Int32)) X dX5_cell_33 (by decide) ?_
          refine r_l_m X dX5_cell_34 ?_
          intro v3
          refine g_sipush (v := (150 : Int32)) X dX5_cell_35 (by decide) ?_
          refine g_icmp_ne (tgt := 44) X dX5_cell_38 (by decide) ?_ ?_
          · refine g_aload_n X dX5_cell_44 rfl rfl ?_
            refine g_iload_n X dX5_cell_45 rfl rfl ?_
            refine k_lookAtTape X ⟨Nat.le_of_ble_eq_true rfl, Nat.le_of_ble_eq_true rfl⟩ (Nat.le_of_ble_eq_true rfl) dX5_cell_46 ?_
            intro v4 M4
            refine g_istore_n (lv' := [(3, .int v4), (0, .ref (q 34)), (1, .int x1), (2, .int x2)]) X dX5_cell_49 rfl (by decide) rfl ?_
            refine g_iload_n X dX5_cell_50 rfl rfl ?_
            refine g_if_lt (tgt := 59) X dX5_cell_51 (by decide) ?_ ?_
            · refine g_aload_n X dX5_cell_59 rfl rfl ?_
              refine r_g_m X dX5_cell_60 ?_
              refine g_iconst (v := (0 : Int32)) X dX5_cell_63 (by decide) ?_
              refine r_l_m X dX5_cell_64 ?_
              intro v5
              refine g_istore (lv' := [(4, .int v5), (3, .int v4), (0, .ref (q 34)), (1, .int x1), (2, .int x2)]) X dX5_cell_65 (by decide) rfl ?_
              refine g_aload_n X dX5_cell_67 rfl rfl ?_
              refine r_g_m X dX5_cell_68 ?_
              refine g_iconst (v := (0 : Int32)) X dX5_cell_71 (by decide) ?_
              refine g_dup2 X dX5_cell_72 rfl rfl ?_
              refine r_l_m X dX5_cell_73 ?_
              intro v6
              refine g_iconst (v := (1 : Int32)) X dX5_cell_74 (by decide) ?_
              refine g_iadd X dX5_cell_75 ?_
              refine r_s_m X dX5_cell_76 ?_
              intro M7
              refine g_aload_n X dX5_cell_77 rfl rfl ?_
              refine r_g_m X dX5_cell_78 ?_
              refine g_iload X dX5_cell_81 rfl ?_
              refine k_cellAt X ⟨Nat.le_of_ble_eq_true rfl, Nat.le_of_ble_eq_true rfl⟩ (Nat.le_of_ble_eq_true rfl) dX5_cell_83 ?_
              intro v8 M8
              refine g_iconst (v := (0 : Int32)) X dX5_cell_86 (by decide) ?_
              refine g_iadd X dX5_cell_87 ?_
              refine g_iload_n X dX5_cell_88 rfl rfl ?_
              refine r_s_m X dX5_cell_89 ?_
              intro M9
              refine g_aload_n X dX5_cell_90 rfl rfl ?_
              refine r_g_m X dX5_cell_91 ?_
              refine g_iload X dX5_cell_94 rfl ?_
              refine k_cellAt X ⟨Nat.le_of_ble_eq_true rfl, Nat.le_of_ble_eq_true rfl⟩ (Nat.le_of_ble_eq_true rfl) dX5_cell_96 ?_
              intro v10 M10
              refine g_iconst (v := (1 : Int32)) X dX5_cell_99 (by decide) ?_
              refine g_iadd X dX5_cell_100 ?_
              refine g_iload_n X dX5_cell_101 rfl rfl ?_
              refine r_s_m X dX5_cell_102 ?_
              intro M11
              refine g_aload_n X dX5_cell_103 rfl rfl ?_
              refine g_iload X dX5_cell_104 rfl ?_
              refine k_layText X ⟨Nat.le_of_ble_eq_true rfl, Nat.le_of_ble_eq_true rfl⟩ (Nat.le_of_ble_eq_true rfl) dX5_cell_106 ?_
              intro v12 M12
              refine g_aload_n X dX5_cell_109 rfl rfl ?_
              refine g_iload X dX5_cell_110 rfl ?_
              refine k_run X ⟨Nat.le_of_ble_eq_true rfl, Nat.le_of_ble_eq_true rfl⟩ (Nat.le_of_ble_eq_true rfl) dX5_cell_112 ?_
              intro v13 M13
              refine g_istore (lv' := [(5, .int v13), (4, .int v5), (3, .int v4), (0, .ref (q 34)), (1, .int x1), (2, .int x2)]) X dX5_cell_115 (by decide) rfl ?_
              refine g_iload X dX5_cell_117 rfl ?_
              exact r_iret X dX5_cell_119
            · refine g_bipush (v := (-100 : Int32)) X dX5_cell_54 (by decide) ?_
              refine g_iload_n X dX5_cell_56 rfl rfl ?_
              refine g_isub X dX5_cell_57 ?_
              exact r_iret X dX5_cell_58
          · refine g_bipush (v := (-2 : Int32)) X dX5_cell_41 (by decide) ?_
            exact r_iret X dX5_cell_43
      · refine g_iconst (v := (-1 : Int32)) X dX5_cell_16 (by decide) ?_
        exact r_iret X dX5_cell_17
-- redo
def fR_redo (n : Nat) (x1 : Int32) (M : MR) : Option (Int32 × MR) :=
    bnd (fR_isCell n x1 M) fun v1 M1 =>
    if v1 = 0 then
      (some ((-1 : Int32), M1))
    else
      (rd M1 0 62610 (1 : Int32) fun v2 =>
      if v2 = (150 : Int32) then
        (some ((-2 : Int32), M1))
      else
        (bnd (fR_cellAt n x1 M1) fun v3 M3 =>
        rd M3 0 62610 (v3 + (1 : Int32)) fun v4 =>
        bnd (fR_lookAtTape n v4 M3) fun v5 M5 =>
        if v5 < 0 then
          (bnd (fR_layText n x1 M5) fun _ M6 =>
          bnd (fR_run n x1 M6) fun v7 M7 =>
          some (v7, M7))
        else
          (some (((-100 : Int32) - v5), M5))))
theorem c_redo (l : Launch) (D : va_G) (cI cZ : ClassId) (q : Nat → Nat) (n : Nat) (x1 : Int32) (M : MR) : MetR l D cI cZ q yX5_redo cX5_redo 3 (some .int) 10 231 QI [.ref (q 34), .int x1] M (fR_redo n x1 M) := by
  refine MetR.of (by decide) rfl (Nat.le_of_ble_eq_true rfl) ?_
  intro p e s m args below meth c X
  unfold fR_redo
  refine g_pick (lv' := [(0, .ref (q 34)), (1, .int x1)]) [0, 1] rfl ?_
  refine g_aload_n X dX5_redo_0 rfl rfl ?_
  refine g_iload_n X dX5_redo_1 rfl rfl ?_
  refine k_isCell X ⟨Nat.le_of_ble_eq_true rfl, Nat.le_of_ble_eq_true rfl⟩ (Nat.le_of_ble_eq_true rfl) dX5_redo_2 ?_
  intro v1 M1
  refine g_if_ne (tgt := 10) X dX5_redo_5 (by decide) ?_ ?_
  · refine g_aload_n X dX5_redo_10 rfl rfl ?_
    refine r_g_m X dX5_redo_11 ?_
    refine g_iconst (v := (1 : Int32)) X dX5_redo_14 (by decide) ?_
    refine r_l_m X dX5_redo_15 ?_
    intro v2
    refine g_sipush (v := (150 : Int32)) X dX5_redo_16 (by decide) ?_
    refine g_icmp_ne (tgt := 25) X dX5_redo_19 (by decide) ?_ ?_
    · refine g_aload_n X dX5_redo_25 rfl rfl ?_
      refine g_aload_n X dX5_redo_26 rfl rfl ?_
      refine r_g_m X dX5_redo_27 ?_
      refine g_iload_n X dX5_redo_30 rfl rfl ?_
      refine k_cellAt X ⟨Nat.le_of_ble_eq_true rfl, Nat.le_of_ble_eq_true rfl⟩ (Nat.le_of_ble_eq_true rfl) dX5_redo_31 ?_
      intro v3 M3
      refine g_iconst (v := (1 : Int32)) X dX5_redo_34 (by decide) ?_
      refine g_iadd X dX5_redo_35 ?_
      refine r_l_m X dX5_redo_36 ?_
      intro v4
      refine k_lookAtTape X ⟨Nat.le_of_ble_eq_true rfl, Nat.le_of_ble_eq_true rfl⟩ (Nat.le_of_ble_eq_true rfl) dX5_redo_37 ?_
      intro v5 M5
      refine g_istore_n (lv' := [(2, .int v5), (0, .ref (q 34)), (1, .int x1)]) X dX5_redo_40 rfl (by decide) rfl ?_
      refine g_iload_n X dX5_redo_41 rfl rfl ?_
      refine g_if_lt (tgt := 50) X dX5_redo_42 (by decide) ?_ ?_
      · refine g_aload_n X dX5_redo_50 rfl rfl ?_
        refine g_iload_n X dX5_redo_51 rfl rfl ?_
        refine k_layText X ⟨Nat.le_of_ble_eq_true rfl, Nat.le_of_ble_eq_true rfl⟩ (Nat.le_of_ble_eq_true rfl) dX5_redo_52 ?_
        intro v6 M6
        refine g_aload_n X dX5_redo_55 rfl rfl ?_
        refine g_iload_n X dX5_redo_56 rfl rfl ?_
        refine k_run X ⟨Nat.le_of_ble_eq_true rfl, Nat.le_of_ble_eq_true rfl⟩ (Nat.le_of_ble_eq_true rfl) dX5_redo_57 ?_
        intro v7 M7
        exact r_iret X dX5_redo_60
      · refine g_bipush (v := (-100 : Int32)) X dX5_redo_45 (by decide) ?_
        refine g_iload_n X dX5_redo_47 rfl rfl ?_
        refine g_isub X dX5_redo_48 ?_
        exact r_iret X dX5_redo_49
    · refine g_bipush (v := (-2 : Int32)) X dX5_redo_22 (by decide) ?_
      exact r_iret X dX5_redo_24
  · refine g_iconst (v := (-1 : Int32)) X dX5_redo_8 (by decide) ?_
    exact r_iret X dX5_redo_9
end RM
end
section
theorem dX5_rerun_0 : decode cX5_rerun 0 = .ok (.aload_n 0, 1) := by decide +kernel
theorem dX5_rerun_1 : decode cX5_rerun 1 = .ok (.iload_n 1, 1) := by decide +kernel
theorem dX5_rerun_2 : decode cX5_rerun 2 = .ok (.invokevirtual 251, 3) := by decide +kernel
theorem dX5_rerun_5 : decode cX5_rerun 5 = .ok (.ifCond .ne 5, 3) := by decide +kernel
theorem dX5_rerun_8 : decode cX5_rerun 8 = .ok (.iconst (-1), 1) := by decide +kernel
theorem dX5_rerun_9 : decode cX5_rerun 9 = .ok (.ireturn, 1) := by decide +kernel
theorem dX5_rerun_10 : decode cX5_rerun 10 = .ok (.aload_n 0, 1) := by decide +kernel
theorem dX5_rerun_11 : decode cX5_rerun 11 = .ok (.getfield 8, 3) := by decide +kernel
theorem dX5_rerun_14 : decode cX5_rerun 14 = .ok (.iconst 1, 1) := by decide +kernel
theorem dX5_rerun_15 : decode cX5_rerun 15 = .ok (.iaload, 1) := by decide +kernel
theorem dX5_rerun_16 : decode cX5_rerun 16 = .ok (.sipush 150, 3) := by decide +kernel
theorem dX5_rerun_19 : decode cX5_rerun 19 = .ok (.if_icmp .ne 6, 3) := by decide +kernel
theorem dX5_rerun_22 : decode cX5_rerun 22 = .ok (.bipush (-2), 2) := by decide +kernel
theorem dX5_rerun_24 : decode cX5_rerun 24 = .ok (.ireturn, 1) := by decide +kernel
theorem dX5_rerun_25 : decode cX5_rerun 25 = .ok (.aload_n 0, 1) := by decide +kernel
theorem dX5_rerun_26 : decode cX5_rerun 26 = .ok (.iload_n 1, 1) := by decide +kernel
theorem dX5_rerun_27 : decode cX5_rerun 27 = .ok (.invokevirtual 254, 3) := by decide +kernel
theorem dX5_rerun_30 : decode cX5_rerun 30 = .ok (.istore_n 2, 1) := by decide +kernel
theorem dX5_rerun_31 : decode cX5_rerun 31 = .ok (.iload_n 2, 1) := by decide +kernel
theorem dX5_rerun_32 : decode cX5_rerun 32 = .ok (.ifCond .lt 10, 3) := by decide +kernel
theorem dX5_rerun_35 : decode cX5_rerun 35 = .ok (.bipush (-100), 2) := by decide +kernel
theorem dX5_rerun_37 : decode cX5_rerun 37 = .ok (.iload_n 2, 1) := by decide +kernel
theorem dX5_rerun_38 : decode cX5_rerun 38 = .ok (.isub, 1) := by decide +kernel
theorem dX5_rerun_39 : decode cX5_rerun 39 = .ok (.goto 8, 3) := by decide +kernel
theorem dX5_rerun_42 : decode cX5_rerun 42 = .ok (.aload_n 0, 1) := by decide +kernel
theorem dX5_rerun_43 : decode cX5_rerun 43 = .ok (.iload_n 1, 1) := by decide +kernel
theorem dX5_rerun_44 : decode cX5_rerun 44 = .ok (.invokevirtual 248, 3) := by decide +kernel
theorem dX5_rerun_47 : decode cX5_rerun 47 = .ok (.ireturn, 1) := by decide +kernel
theorem dX5_tellStale_0 : decode cX5_tellStale 0 = .ok (.iconst 0, 1) := by decide +kernel
theorem dX5_tellStale_1 : decode cX5_tellStale 1 = .ok (.istore_n 1, 1) := by decide +kernel
theorem dX5_tellStale_2 : decode cX5_tellStale 2 = .ok (.iload_n 1, 1) := by decide +kernel
theorem dX5_tellStale_3 : decode cX5_tellStale 3 = .ok (.bipush 40, 2) := by decide +kernel
theorem dX5_tellStale_5 : decode cX5_tellStale 5 = .ok (.if_icmp .ge 16, 3) := by decide +kernel
theorem dX5_tellStale_8 : decode cX5_tellStale 8 = .ok (.aload_n 0, 1) := by decide +kernel
theorem dX5_tellStale_9 : decode cX5_tellStale 9 = .ok (.getfield 63, 3) := by decide +kernel
theorem dX5_tellStale_12 : decode cX5_tellStale 12 = .ok (.iload_n 1, 1) := by decide +kernel
theorem dX5_tellStale_13 : decode cX5_tellStale 13 = .ok (.iconst 0, 1) := by decide +kernel
theorem dX5_tellStale_14 : decode cX5_tellStale 14 = .ok (.bastore, 1) := by decide +kernel
theorem dX5_tellStale_15 : decode cX5_tellStale 15 = .ok (.iinc 1 1, 3) := by decide +kernel
theorem dX5_tellStale_18 : decode cX5_tellStale 18 = .ok (.goto (-16), 3) := by decide +kernel
theorem dX5_tellStale_21 : decode cX5_tellStale 21 = .ok (.iconst 1, 1) := by decide +kernel
theorem dX5_tellStale_22 : decode cX5_tellStale 22 = .ok (.istore_n 1, 1) := by decide +kernel
theorem dX5_tellStale_23 : decode cX5_tellStale 23 = .ok (.iload_n 1, 1) := by decide +kernel
theorem dX5_tellStale_24 : decode cX5_tellStale 24 = .ok (.ifCond .eq 136, 3) := by decide +kernel
theorem dX5_tellStale_27 : decode cX5_tellStale 27 = .ok (.iconst 0, 1) := by decide +kernel
theorem dX5_tellStale_28 : decode cX5_tellStale 28 = .ok (.istore_n 1, 1) := by decide +kernel
theorem dX5_tellStale_29 : decode cX5_tellStale 29 = .ok (.iconst 0, 1) := by decide +kernel
theorem dX5_tellStale_30 : decode cX5_tellStale 30 = .ok (.istore_n 2, 1) := by decide +kernel
theorem dX5_tellStale_31 : decode cX5_tellStale 31 = .ok (.iload_n 2, 1) := by decide +kernel
theorem dX5_tellStale_32 : decode cX5_tellStale 32 = .ok (.aload_n 0, 1) := by decide +kernel
theorem dX5_tellStale_33 : decode cX5_tellStale 33 = .ok (.getfield 8, 3) := by decide +kernel
theorem dX5_tellStale_36 : decode cX5_tellStale 36 = .ok (.iconst 0, 1) := by decide +kernel
theorem dX5_tellStale_37 : decode cX5_tellStale 37 = .ok (.iaload, 1) := by decide +kernel
theorem dX5_tellStale_38 : decode cX5_tellStale 38 = .ok (.if_icmp .ge 119, 3) := by decide +kernel
theorem dX5_tellStale_41 : decode cX5_tellStale 41 = .ok (.iconst 0, 1) := by decide +kernel
theorem dX5_tellStale_42 : decode cX5_tellStale 42 = .ok (.istore_n 3, 1) := by decide +kernel
theorem dX5_tellStale_43 : decode cX5_tellStale 43 = .ok (.iload_n 3, 1) := by decide +kernel
theorem dX5_tellStale_44 : decode cX5_tellStale 44 = .ok (.aload_n 0, 1) := by decide +kernel
theorem dX5_tellStale_45 : decode cX5_tellStale 45 = .ok (.getfield 8, 3) := by decide +kernel
theorem dX5_tellStale_48 : decode cX5_tellStale 48 = .ok (.iload_n 2, 1) := by decide +kernel
theorem dX5_tellStale_49 : decode cX5_tellStale 49 = .ok (.invokestatic 230, 3) := by decide +kernel
theorem dX5_tellStale_52 : decode cX5_tellStale 52 = .ok (.bipush 8, 2) := by decide +kernel
theorem dX5_tellStale_54 : decode cX5_tellStale 54 = .ok (.iadd, 1) := by decide +kernel
theorem dX5_tellStale_55 : decode cX5_tellStale 55 = .ok (.iaload, 1) := by decide +kernel
theorem dX5_tellStale_56 : decode cX5_tellStale 56 = .ok (.if_icmp .ge 95, 3) := by decide +kernel
theorem dX5_tellStale_59 : decode cX5_tellStale 59 = .ok (.aload_n 0, 1) := by decide +kernel
theorem dX5_tellStale_60 : decode cX5_tellStale 60 = .ok (.getfield 63, 3) := by decide +kernel
theorem dX5_tellStale_63 : decode cX5_tellStale 63 = .ok (.iload_n 2, 1) := by decide +kernel
theorem dX5_tellStale_64 : decode cX5_tellStale 64 = .ok (.baload, 1) := by decide +kernel
theorem dX5_tellStale_65 : decode cX5_tellStale 65 = .ok (.ifCond .ne 86, 3) := by decide +kernel
theorem dX5_tellStale_68 : decode cX5_tellStale 68 = .ok (.aload_n 0, 1) := by decide +kernel
theorem dX5_tellStale_69 : decode cX5_tellStale 69 = .ok (.getfield 8, 3) := by decide +kernel
theorem dX5_tellStale_72 : decode cX5_tellStale 72 = .ok (.iload_n 2, 1) := by decide +kernel
theorem dX5_tellStale_73 : decode cX5_tellStale 73 = .ok (.invokestatic 230, 3) := by decide +kernel
theorem dX5_tellStale_76 : decode cX5_tellStale 76 = .ok (.bipush 10, 2) := by decide +kernel
theorem dX5_tellStale_78 : decode cX5_tellStale 78 = .ok (.iadd, 1) := by decide +kernel
theorem dX5_tellStale_79 : decode cX5_tellStale 79 = .ok (.iload_n 3, 1) := by decide +kernel
theorem dX5_tellStale_80 : decode cX5_tellStale 80 = .ok (.iadd, 1) := by decide +kernel
theorem dX5_tellStale_81 : decode cX5_tellStale 81 = .ok (.iaload, 1) := by decide +kernel
theorem dX5_tellStale_82 : decode cX5_tellStale 82 = .ok (.istore 4, 2) := by decide +kernel
theorem dX5_tellStale_84 : decode cX5_tellStale 84 = .ok (.aload_n 0, 1) := by decide +kernel
theorem dX5_tellStale_85 : decode cX5_tellStale 85 = .ok (.getfield 63, 3) := by decide +kernel
theorem dX5_tellStale_88 : decode cX5_tellStale 88 = .ok (.iload_n 2, 1) := by decide +kernel
theorem dX5_tellStale_89 : decode cX5_tellStale 89 = .ok (.aload_n 0, 1) := by decide +kernel
theorem dX5_tellStale_90 : decode cX5_tellStale 90 = .ok (.aload_n 0, 1) := by decide +kernel
theorem dX5_tellStale_91 : decode cX5_tellStale 91 = .ok (.getfield 8, 3) := by decide +kernel
theorem dX5_tellStale_94 : decode cX5_tellStale 94 = .ok (.iload 4, 2) := by decide +kernel
theorem dX5_tellStale_96 : decode cX5_tellStale 96 = .ok (.invokestatic 73, 3) := by decide +kernel
theorem dX5_tellStale_99 : decode cX5_tellStale 99 = .ok (.iconst 0, 1) := by decide +kernel
theorem dX5_tellStale_100 : decode cX5_tellStale 100 = .ok (.iadd, 1) := by decide +kernel
theorem dX5_tellStale_101 : decode cX5_tellStale 101 = .ok (.iaload, 1) := by decide +kernel
theorem dX5_tellStale_102 : decode cX5_tellStale 102 = .ok (.invokevirtual 97, 3) := by decide +kernel
theorem dX5_tellStale_105 : decode cX5_tellStale 105 = .ok (.iload 4, 2) := by decide +kernel
theorem dX5_tellStale_107 : decode cX5_tellStale 107 = .ok (.if_icmp .ne 23, 3) := by decide +kernel
theorem dX5_tellStale_110 : decode cX5_tellStale 110 = .ok (.aload_n 0, 1) := by decide +kernel
theorem dX5_tellStale_111 : decode cX5_tellStale 111 = .ok (.getfield 63, 3) := by decide +kernel
theorem dX5_tellStale_114 : decode cX5_tellStale 114 = .ok (.aload_n 0, 1) := by decide +kernel
theorem dX5_tellStale_115 : decode cX5_tellStale 115 = .ok (.getfield 8, 3) := by decide +kernel
theorem dX5_tellStale_118 : decode cX5_tellStale 118 = .ok (.iload 4, 2) := by decide +kernel
theorem dX5_tellStale_120 : decode cX5_tellStale 120 = .ok (.invokestatic 73, 3) := by decide +kernel
theorem dX5_tellStale_123 : decode cX5_tellStale 123 = .ok (.iconst 2, 1) := by decide +kernel
theorem dX5_tellStale_124 : decode cX5_tellStale 124 = .ok (.iadd, 1) := by decide +kernel
theorem dX5_tellStale_125 : decode cX5_tellStale 125 = .ok (.iaload, 1) := by decide +kernel
theorem dX5_tellStale_126 : decode cX5_tellStale 126 = .ok (.baload, 1) := by decide +kernel
theorem dX5_tellStale_127 : decode cX5_tellStale 127 = .ok (.ifCond .eq 7, 3) := by decide +kernel
theorem dX5_tellStale_130 : decode cX5_tellStale 130 = .ok (.iconst 1, 1) := by decide +kernel
theorem dX5_tellStale_131 : decode cX5_tellStale 131 = .ok (.goto 4, 3) := by decide +kernel
theorem dX5_tellStale_134 : decode cX5_tellStale 134 = .ok (.iconst 0, 1) := by decide +kernel
theorem dX5_tellStale_135 : decode cX5_tellStale 135 = .ok (.bastore, 1) := by decide +kernel
theorem dX5_tellStale_136 : decode cX5_tellStale 136 = .ok (.iload_n 1, 1) := by decide +kernel
theorem dX5_tellStale_137 : decode cX5_tellStale 137 = .ok (.aload_n 0, 1) := by decide +kernel
theorem dX5_tellStale_138 : decode cX5_tellStale 138 = .ok (.getfield 63, 3) := by decide +kernel
theorem dX5_tellStale_141 : decode cX5_tellStale 141 = .ok (.iload_n 2, 1) := by decide +kernel
theorem dX5_tellStale_142 : decode cX5_tellStale 142 = .ok (.baload, 1) := by decide +kernel
theorem dX5_tellStale_143 : decode cX5_tellStale 143 = .ok (.ior, 1) := by decide +kernel
theorem dX5_tellStale_144 : decode cX5_tellStale 144 = .ok (.istore_n 1, 1) := by decide +kernel
theorem dX5_tellStale_145 : decode cX5_tellStale 145 = .ok (.iinc 3 1, 3) := by decide +kernel
theorem dX5_tellStale_148 : decode cX5_tellStale 148 = .ok (.goto (-105), 3) := by decide +kernel
theorem dX5_tellStale_151 : decode cX5_tellStale 151 = .ok (.iinc 2 1, 3) := by decide +kernel
theorem dX5_tellStale_154 : decode cX5_tellStale 154 = .ok (.goto (-123), 3) := by decide +kernel
theorem dX5_tellStale_157 : decode cX5_tellStale 157 = .ok (.goto (-134), 3) := by decide +kernel
theorem dX5_tellStale_160 : decode cX5_tellStale 160 = .ok (.return_, 1) := by decide +kernel
theorem dX5_isFree_0 : decode cX5_isFree 0 = .ok (.iconst 1, 1) := by decide +kernel
theorem dX5_isFree_1 : decode cX5_isFree 1 = .ok (.istore_n 2, 1) := by decide +kernel
theorem dX5_isFree_2 : decode cX5_isFree 2 = .ok (.iconst 0, 1) := by decide +kernel
theorem dX5_isFree_3 : decode cX5_isFree 3 = .ok (.istore_n 3, 1) := by decide +kernel
theorem dX5_isFree_4 : decode cX5_isFree 4 = .ok (.iload_n 3, 1) := by decide +kernel
theorem dX5_isFree_5 : decode cX5_isFree 5 = .ok (.aload_n 0, 1) := by decide +kernel
theorem dX5_isFree_6 : decode cX5_isFree 6 = .ok (.getfield 8, 3) := by decide +kernel
theorem dX5_isFree_9 : decode cX5_isFree 9 = .ok (.iload_n 1, 1) := by decide +kernel
theorem dX5_isFree_10 : decode cX5_isFree 10 = .ok (.invokestatic 230, 3) := by decide +kernel
theorem dX5_isFree_13 : decode cX5_isFree 13 = .ok (.bipush 8, 2) := by decide +kernel
theorem dX5_isFree_15 : decode cX5_isFree 15 = .ok (.iadd, 1) := by decide +kernel
theorem dX5_isFree_16 : decode cX5_isFree 16 = .ok (.iaload, 1) := by decide +kernel
theorem dX5_isFree_17 : decode cX5_isFree 17 = .ok (.if_icmp .ge 88, 3) := by decide +kernel
theorem dX5_isFree_20 : decode cX5_isFree 20 = .ok (.aload_n 0, 1) := by decide +kernel
theorem dX5_isFree_21 : decode cX5_isFree 21 = .ok (.aload_n 0, 1) := by decide +kernel
theorem dX5_isFree_22 : decode cX5_isFree 22 = .ok (.getfield 8, 3) := by decide +kernel
theorem dX5_isFree_25 : decode cX5_isFree 25 = .ok (.aload_n 0, 1) := by decide +kernel
theorem dX5_isFree_26 : decode cX5_isFree 26 = .ok (.getfield 8, 3) := by decide +kernel
theorem dX5_isFree_29 : decode cX5_isFree 29 = .ok (.iload_n 1, 1) := by decide +kernel
theorem dX5_isFree_30 : decode cX5_isFree 30 = .ok (.invokestatic 230, 3) := by decide +kernel
theorem dX5_isFree_33 : decode cX5_isFree 33 = .ok (.bipush 10, 2) := by decide +kernel
theorem dX5_isFree_35 : decode cX5_isFree 35 = .ok (.iadd, 1) := by decide +kernel
theorem dX5_isFree_36 : decode cX5_isFree 36 = .ok (.iload_n 3, 1) := by decide +kernel
theorem dX5_isFree_37 : decode cX5_isFree 37 = .ok (.iadd, 1) := by decide +kernel
theorem dX5_isFree_38 : decode cX5_isFree 38 = .ok (.iaload, 1) := by decide +kernel
theorem dX5_isFree_39 : decode cX5_isFree 39 = .ok (.invokestatic 73, 3) := by decide +kernel
theorem dX5_isFree_42 : decode cX5_isFree 42 = .ok (.iconst 0, 1) := by decide +kernel
theorem dX5_isFree_43 : decode cX5_isFree 43 = .ok (.iadd, 1) := by decide +kernel
theorem dX5_isFree_44 : decode cX5_isFree 44 = .ok (.iaload, 1) := by decide +kernel
theorem dX5_isFree_45 : decode cX5_isFree 45 = .ok (.invokevirtual 97, 3) := by decide +kernel
theorem dX5_isFree_48 : decode cX5_isFree 48 = .ok (.istore 4, 2) := by decide +kernel
theorem dX5_isFree_50 : decode cX5_isFree 50 = .ok (.iload_n 2, 1) := by decide +kernel
theorem dX5_isFree_51 : decode cX5_isFree 51 = .ok (.iload 4, 2) := by decide +kernel
theorem dX5_isFree_53 : decode cX5_isFree 53 = .ok (.ifCond .lt 39, 3) := by decide +kernel
theorem dX5_isFree_56 : decode cX5_isFree 56 = .ok (.aload_n 0, 1) := by decide +kernel
theorem dX5_isFree_57 : decode cX5_isFree 57 = .ok (.getfield 8, 3) := by decide +kernel
theorem dX5_isFree_60 : decode cX5_isFree 60 = .ok (.iload 4, 2) := by decide +kernel
theorem dX5_isFree_62 : decode cX5_isFree 62 = .ok (.invokestatic 73, 3) := by decide +kernel
theorem dX5_isFree_65 : decode cX5_isFree 65 = .ok (.iconst 2, 1) := by decide +kernel
theorem dX5_isFree_66 : decode cX5_isFree 66 = .ok (.iadd, 1) := by decide +kernel
theorem dX5_isFree_67 : decode cX5_isFree 67 = .ok (.iaload, 1) := by decide +kernel
theorem dX5_isFree_68 : decode cX5_isFree 68 = .ok (.iload_n 1, 1) := by decide +kernel
theorem dX5_isFree_69 : decode cX5_isFree 69 = .ok (.if_icmp .eq 23, 3) := by decide +kernel
theorem dX5_isFree_72 : decode cX5_isFree 72 = .ok (.aload_n 0, 1) := by decide +kernel
theorem dX5_isFree_73 : decode cX5_isFree 73 = .ok (.getfield 66, 3) := by decide +kernel
theorem dX5_isFree_76 : decode cX5_isFree 76 = .ok (.aload_n 0, 1) := by decide +kernel
theorem dX5_isFree_77 : decode cX5_isFree 77 = .ok (.getfield 8, 3) := by decide +kernel
theorem dX5_isFree_80 : decode cX5_isFree 80 = .ok (.iload 4, 2) := by decide +kernel
theorem dX5_isFree_82 : decode cX5_isFree 82 = .ok (.invokestatic 73, 3) := by decide +kernel
theorem dX5_isFree_85 : decode cX5_isFree 85 = .ok (.iconst 2, 1) := by decide +kernel
theorem dX5_isFree_86 : decode cX5_isFree 86 = .ok (.iadd, 1) := by decide +kernel
theorem dX5_isFree_87 : decode cX5_isFree 87 = .ok (.iaload, 1) := by decide +kernel
theorem dX5_isFree_88 : decode cX5_isFree 88 = .ok (.baload, 1) := by decide +kernel
theorem dX5_isFree_89 : decode cX5_isFree 89 = .ok (.ifCond .ne 7, 3) := by decide +kernel
theorem dX5_isFree_92 : decode cX5_isFree 92 = .ok (.iconst 1, 1) := by decide +kernel
theorem dX5_isFree_93 : decode cX5_isFree 93 = .ok (.goto 4, 3) := by decide +kernel
theorem dX5_isFree_96 : decode cX5_isFree 96 = .ok (.iconst 0, 1) := by decide +kernel
theorem dX5_isFree_97 : decode cX5_isFree 97 = .ok (.iand, 1) := by decide +kernel
theorem dX5_isFree_98 : decode cX5_isFree 98 = .ok (.istore_n 2, 1) := by decide +kernel
theorem dX5_isFree_99 : decode cX5_isFree 99 = .ok (.iinc 3 1, 3) := by decide +kernel
theorem dX5_isFree_102 : decode cX5_isFree 102 = .ok (.goto (-98), 3) := by decide +kernel
theorem dX5_isFree_105 : decode cX5_isFree 105 = .ok (.iload_n 2, 1) := by decide +kernel
theorem dX5_isFree_106 : decode cX5_isFree 106 = .ok (.ireturn, 1) := by decide +kernel
theorem dX5_rerunStale_0 : decode cX5_rerunStale 0 = .ok (.aload_n 0, 1) := by decide +kernel
theorem dX5_rerunStale_1 : decode cX5_rerunStale 1 = .ok (.invokevirtual 257, 3) := by decide +kernel
theorem dX5_rerunStale_4 : decode cX5_rerunStale 4 = .ok (.iconst 0, 1) := by decide +kernel
theorem dX5_rerunStale_5 : decode cX5_rerunStale 5 = .ok (.istore_n 1, 1) := by decide +kernel
theorem dX5_rerunStale_6 : decode cX5_rerunStale 6 = .ok (.iconst 0, 1) := by decide +kernel
theorem dX5_rerunStale_7 : decode cX5_rerunStale 7 = .ok (.istore_n 2, 1) := by decide +kernel
theorem dX5_rerunStale_8 : decode cX5_rerunStale 8 = .ok (.iload_n 2, 1) := by decide +kernel
theorem dX5_rerunStale_9 : decode cX5_rerunStale 9 = .ok (.aload_n 0, 1) := by decide +kernel
theorem dX5_rerunStale_10 : decode cX5_rerunStale 10 = .ok (.getfield 8, 3) := by decide +kernel
theorem dX5_rerunStale_13 : decode cX5_rerunStale 13 = .ok (.iconst 0, 1) := by decide +kernel
theorem dX5_rerunStale_14 : decode cX5_rerunStale 14 = .ok (.iaload, 1) := by decide +kernel
theorem dX5_rerunStale_15 : decode cX5_rerunStale 15 = .ok (.if_icmp .ge 38, 3) := by decide +kernel
theorem dX5_rerunStale_18 : decode cX5_rerunStale 18 = .ok (.aload_n 0, 1) := by decide +kernel
theorem dX5_rerunStale_19 : decode cX5_rerunStale 19 = .ok (.getfield 66, 3) := by decide +kernel
theorem dX5_rerunStale_22 : decode cX5_rerunStale 22 = .ok (.iload_n 2, 1) := by decide +kernel
theorem dX5_rerunStale_23 : decode cX5_rerunStale 23 = .ok (.aload_n 0, 1) := by decide +kernel
theorem dX5_rerunStale_24 : decode cX5_rerunStale 24 = .ok (.getfield 63, 3) := by decide +kernel
theorem dX5_rerunStale_27 : decode cX5_rerunStale 27 = .ok (.iload_n 2, 1) := by decide +kernel
theorem dX5_rerunStale_28 : decode cX5_rerunStale 28 = .ok (.baload, 1) := by decide +kernel
theorem dX5_rerunStale_29 : decode cX5_rerunStale 29 = .ok (.bastore, 1) := by decide +kernel
theorem dX5_rerunStale_30 : decode cX5_rerunStale 30 = .ok (.iload_n 1, 1) := by decide +kernel
theorem dX5_rerunStale_31 : decode cX5_rerunStale 31 = .ok (.aload_n 0, 1) := by decide +kernel
theorem dX5_rerunStale_32 : decode cX5_rerunStale 32 = .ok (.getfield 63, 3) := by decide +kernel
theorem dX5_rerunStale_35 : decode cX5_rerunStale 35 = .ok (.iload_n 2, 1) := by decide +kernel
theorem dX5_rerunStale_36 : decode cX5_rerunStale 36 = .ok (.baload, 1) := by decide +kernel
theorem dX5_rerunStale_37 : decode cX5_rerunStale 37 = .ok (.ifCond .eq 7, 3) := by decide +kernel
theorem dX5_rerunStale_40 : decode cX5_rerunStale 40 = .ok (.iconst 1, 1) := by decide +kernel
theorem dX5_rerunStale_41 : decode cX5_rerunStale 41 = .ok (.goto 4, 3) := by decide +kernel
theorem dX5_rerunStale_44 : decode cX5_rerunStale 44 = .ok (.iconst 0, 1) := by decide +kernel
theorem dX5_rerunStale_45 : decode cX5_rerunStale 45 = .ok (.iadd, 1) := by decide +kernel
theorem dX5_rerunStale_46 : decode cX5_rerunStale 46 = .ok (.istore_n 1, 1) := by decide +kernel
theorem dX5_rerunStale_47 : decode cX5_rerunStale 47 = .ok (.iinc 2 1, 3) := by decide +kernel
theorem dX5_rerunStale_50 : decode cX5_rerunStale 50 = .ok (.goto (-42), 3) := by decide +kernel
theorem dX5_rerunStale_53 : decode cX5_rerunStale 53 = .ok (.aload_n 0, 1) := by decide +kernel
theorem dX5_rerunStale_54 : decode cX5_rerunStale 54 = .ok (.getfield 8, 3) := by decide +kernel
theorem dX5_rerunStale_57 : decode cX5_rerunStale 57 = .ok (.iconst 1, 1) := by decide +kernel
theorem dX5_rerunStale_58 : decode cX5_rerunStale 58 = .ok (.iaload, 1) := by decide +kernel
theorem dX5_rerunStale_59 : decode cX5_rerunStale 59 = .ok (.iload_n 1, 1) := by decide +kernel
theorem dX5_rerunStale_60 : decode cX5_rerunStale 60 = .ok (.iadd, 1) := by decide +kernel
theorem dX5_rerunStale_61 : decode cX5_rerunStale 61 = .ok (.sipush 150, 3) := by decide +kernel
theorem dX5_rerunStale_64 : decode cX5_rerunStale 64 = .ok (.if_icmp .le 6, 3) := by decide +kernel
theorem dX5_rerunStale_67 : decode cX5_rerunStale 67 = .ok (.bipush (-2), 2) := by decide +kernel
theorem dX5_rerunStale_69 : decode cX5_rerunStale 69 = .ok (.ireturn, 1) := by decide +kernel
theorem dX5_rerunStale_70 : decode cX5_rerunStale 70 = .ok (.iconst 0, 1) := by decide +kernel
theorem dX5_rerunStale_71 : decode cX5_rerunStale 71 = .ok (.istore_n 2, 1) := by decide +kernel
theorem dX5_rerunStale_72 : decode cX5_rerunStale 72 = .ok (.iconst 0, 1) := by decide +kernel
theorem dX5_rerunStale_73 : decode cX5_rerunStale 73 = .ok (.istore_n 3, 1) := by decide +kernel
theorem dX5_rerunStale_74 : decode cX5_rerunStale 74 = .ok (.iload_n 3, 1) := by decide +kernel
theorem dX5_rerunStale_75 : decode cX5_rerunStale 75 = .ok (.iload_n 1, 1) := by decide +kernel
theorem dX5_rerunStale_76 : decode cX5_rerunStale 76 = .ok (.if_icmp .ge 125, 3) := by decide +kernel
theorem dX5_rerunStale_79 : decode cX5_rerunStale 79 = .ok (.iconst (-1), 1) := by decide +kernel
theorem dX5_rerunStale_80 : decode cX5_rerunStale 80 = .ok (.istore 4, 2) := by decide +kernel
theorem dX5_rerunStale_82 : decode cX5_rerunStale 82 = .ok (.iconst (-1), 1) := by decide +kernel
theorem dX5_rerunStale_83 : decode cX5_rerunStale 83 = .ok (.istore 5, 2) := by decide +kernel
theorem dX5_rerunStale_85 : decode cX5_rerunStale 85 = .ok (.aload_n 0, 1) := by decide +kernel
theorem dX5_rerunStale_86 : decode cX5_rerunStale 86 = .ok (.getfield 8, 3) := by decide +kernel
theorem dX5_rerunStale_89 : decode cX5_rerunStale 89 = .ok (.iconst 0, 1) := by decide +kernel
theorem dX5_rerunStale_90 : decode cX5_rerunStale 90 = .ok (.iaload, 1) := by decide +kernel
theorem dX5_rerunStale_91 : decode cX5_rerunStale 91 = .ok (.iconst 1, 1) := by decide +kernel
theorem dX5_rerunStale_92 : decode cX5_rerunStale 92 = .ok (.isub, 1) := by decide +kernel
theorem dX5_rerunStale_93 : decode cX5_rerunStale 93 = .ok (.istore 6, 2) := by decide +kernel
theorem dX5_rerunStale_95 : decode cX5_rerunStale 95 = .ok (.iload 6, 2) := by decide +kernel
theorem dX5_rerunStale_97 : decode cX5_rerunStale 97 = .ok (.ifCond .lt 56, 3) := by decide +kernel
theorem dX5_rerunStale_100 : decode cX5_rerunStale 100 = .ok (.aload_n 0, 1) := by decide +kernel
theorem dX5_rerunStale_101 : decode cX5_rerunStale 101 = .ok (.getfield 66, 3) := by decide +kernel
theorem dX5_rerunStale_104 : decode cX5_rerunStale 104 = .ok (.iload 6, 2) := by decide +kernel
theorem dX5_rerunStale_106 : decode cX5_rerunStale 106 = .ok (.baload, 1) := by decide +kernel
theorem dX5_rerunStale_107 : decode cX5_rerunStale 107 = .ok (.ifCond .eq 8, 3) := by decide +kernel
theorem dX5_rerunStale_110 : decode cX5_rerunStale 110 = .ok (.iload 6, 2) := by decide +kernel
theorem dX5_rerunStale_112 : decode cX5_rerunStale 112 = .ok (.goto 5, 3) := by decide +kernel
theorem dX5_rerunStale_115 : decode cX5_rerunStale 115 = .ok (.iload 5, 2) := by decide +kernel
theorem dX5_rerunStale_117 : decode cX5_rerunStale 117 = .ok (.istore 5, 2) := by decide +kernel
theorem dX5_rerunStale_119 : decode cX5_rerunStale 119 = .ok (.aload_n 0, 1) := by decide +kernel
theorem dX5_rerunStale_120 : decode cX5_rerunStale 120 = .ok (.getfield 66, 3) := by decide +kernel
theorem dX5_rerunStale_123 : decode cX5_rerunStale 123 = .ok (.iload 6, 2) := by decide +kernel
theorem dX5_rerunStale_125 : decode cX5_rerunStale 125 = .ok (.baload, 1) := by decide +kernel
theorem dX5_rerunStale_126 : decode cX5_rerunStale 126 = .ok (.ifCond .eq 17, 3) := by decide +kernel
theorem dX5_rerunStale_129 : decode cX5_rerunStale 129 = .ok (.aload_n 0, 1) := by decide +kernel
theorem dX5_rerunStale_130 : decode cX5_rerunStale 130 = .ok (.iload 6, 2) := by decide +kernel
theorem dX5_rerunStale_132 : decode cX5_rerunStale 132 = .ok (.invokevirtual 260, 3) := by decide +kernel
theorem dX5_rerunStale_135 : decode cX5_rerunStale 135 = .ok (.ifCond .eq 8, 3) := by decide +kernel
theorem dX5_rerunStale_138 : decode cX5_rerunStale 138 = .ok (.iload 6, 2) := by decide +kernel
theorem dX5_rerunStale_140 : decode cX5_rerunStale 140 = .ok (.goto 5, 3) := by decide +kernel
theorem dX5_rerunStale_143 : decode cX5_rerunStale 143 = .ok (.iload 4, 2) := by decide +kernel
theorem dX5_rerunStale_145 : decode cX5_rerunStale 145 = .ok (.istore 4, 2) := by decide +kernel
theorem dX5_rerunStale_147 : decode cX5_rerunStale 147 = .ok (.iinc 6 (-1), 3) := by decide +kernel
theorem dX5_rerunStale_150 : decode cX5_rerunStale 150 = .ok (.goto (-55), 3) := by decide +kernel
theorem dX5_rerunStale_153 : decode cX5_rerunStale 153 = .ok (.iload 4, 2) := by decide +kernel
theorem dX5_rerunStale_155 : decode cX5_rerunStale 155 = .ok (.ifCond .ge 8, 3) := by decide +kernel
theorem dX5_rerunStale_158 : decode cX5_rerunStale 158 = .ok (.iload 5, 2) := by decide +kernel
theorem dX5_rerunStale_160 : decode cX5_rerunStale 160 = .ok (.goto 5, 3) := by decide +kernel
theorem dX5_rerunStale_163 : decode cX5_rerunStale 163 = .ok (.iload 4, 2) := by decide +kernel
theorem dX5_rerunStale_165 : decode cX5_rerunStale 165 = .ok (.istore 4, 2) := by decide +kernel
theorem dX5_rerunStale_167 : decode cX5_rerunStale 167 = .ok (.aload_n 0, 1) := by decide +kernel
theorem dX5_rerunStale_168 : decode cX5_rerunStale 168 = .ok (.getfield 66, 3) := by decide +kernel
theorem dX5_rerunStale_171 : decode cX5_rerunStale 171 = .ok (.iload 4, 2) := by decide +kernel
theorem dX5_rerunStale_173 : decode cX5_rerunStale 173 = .ok (.iconst 0, 1) := by decide +kernel
theorem dX5_rerunStale_174 : decode cX5_rerunStale 174 = .ok (.bastore, 1) := by decide +kernel
theorem dX5_rerunStale_175 : decode cX5_rerunStale 175 = .ok (.aload_n 0, 1) := by decide +kernel
theorem dX5_rerunStale_176 : decode cX5_rerunStale 176 = .ok (.iload 4, 2) := by decide +kernel
theorem dX5_rerunStale_178 : decode cX5_rerunStale 178 = .ok (.invokevirtual 254, 3) := by decide +kernel
theorem dX5_rerunStale_181 : decode cX5_rerunStale 181 = .ok (.ifCond .ge 14, 3) := by decide +kernel
theorem dX5_rerunStale_184 : decode cX5_rerunStale 184 = .ok (.aload_n 0, 1) := by decide +kernel
theorem dX5_rerunStale_185 : decode cX5_rerunStale 185 = .ok (.iload 4, 2) := by decide +kernel
theorem dX5_rerunStale_187 : decode cX5_rerunStale 187 = .ok (.invokevirtual 248, 3) := by decide +kernel
theorem dX5_rerunStale_190 : decode cX5_rerunStale 190 = .ok (.istore 6, 2) := by decide +kernel
theorem dX5_rerunStale_192 : decode cX5_rerunStale 192 = .ok (.iinc 2 1, 3) := by decide +kernel
theorem dX5_rerunStale_195 : decode cX5_rerunStale 195 = .ok (.iinc 3 1, 3) := by decide +kernel
theorem dX5_rerunStale_198 : decode cX5_rerunStale 198 = .ok (.goto (-124), 3) := by decide +kernel
theorem dX5_rerunStale_201 : decode cX5_rerunStale 201 = .ok (.iload_n 2, 1) := by decide +kernel
theorem dX5_rerunStale_202 : decode cX5_rerunStale 202 = .ok (.ireturn, 1) := by decide +kernel
theorem dX5_forget_0 : decode cX5_forget 0 = .ok (.iload_n 1, 1) := by decide +kernel
theorem dX5_forget_1 : decode cX5_forget 1 = .ok (.invokestatic 77, 3) := by decide +kernel
theorem dX5_forget_4 : decode cX5_forget 4 = .ok (.ifCond .ne 5, 3) := by decide +kernel
theorem dX5_forget_7 : decode cX5_forget 7 = .ok (.iconst (-1), 1) := by decide +kernel
theorem dX5_forget_8 : decode cX5_forget 8 = .ok (.ireturn, 1) := by decide +kernel
theorem dX5_forget_9 : decode cX5_forget 9 = .ok (.aload_n 0, 1) := by decide +kernel
theorem dX5_forget_10 : decode cX5_forget 10 = .ok (.iload_n 1, 1) := by decide +kernel
theorem dX5_forget_11 : decode cX5_forget 11 = .ok (.invokevirtual 97, 3) := by decide +kernel
theorem dX5_forget_14 : decode cX5_forget 14 = .ok (.ifCond .ge 7, 3) := by decide +kernel
theorem dX5_forget_17 : decode cX5_forget 17 = .ok (.iconst 0, 1) := by decide +kernel
theorem dX5_forget_18 : decode cX5_forget 18 = .ok (.goto 4, 3) := by decide +kernel
theorem dX5_forget_21 : decode cX5_forget 21 = .ok (.iconst 1, 1) := by decide +kernel
theorem dX5_forget_22 : decode cX5_forget 22 = .ok (.istore_n 2, 1) := by decide +kernel
theorem dX5_forget_23 : decode cX5_forget 23 = .ok (.aload_n 0, 1) := by decide +kernel
theorem dX5_forget_24 : decode cX5_forget 24 = .ok (.getfield 8, 3) := by decide +kernel
theorem dX5_forget_27 : decode cX5_forget 27 = .ok (.iconst 4, 1) := by decide +kernel
theorem dX5_forget_28 : decode cX5_forget 28 = .ok (.iload_n 1, 1) := by decide +kernel
theorem dX5_forget_29 : decode cX5_forget 29 = .ok (.iadd, 1) := by decide +kernel
theorem dX5_forget_30 : decode cX5_forget 30 = .ok (.iconst 0, 1) := by decide +kernel
theorem dX5_forget_31 : decode cX5_forget 31 = .ok (.iastore, 1) := by decide +kernel
theorem dX5_forget_32 : decode cX5_forget 32 = .ok (.iload_n 2, 1) := by decide +kernel
theorem dX5_forget_33 : decode cX5_forget 33 = .ok (.ireturn, 1) := by decide +kernel
theorem dX5_of_0 : decode cX5_of 0 = .ok (.aload_n 0, 1) := by decide +kernel
theorem dX5_of_1 : decode cX5_of 1 = .ok (.iload_n 1, 1) := by decide +kernel
theorem dX5_of_2 : decode cX5_of 2 = .ok (.invokevirtual 251, 3) := by decide +kernel
theorem dX5_of_5 : decode cX5_of 5 = .ok (.ifCond .ne 6, 3) := by decide +kernel
theorem dX5_of_8 : decode cX5_of 8 = .ok (.bipush (-3), 2) := by decide +kernel
theorem dX5_of_10 : decode cX5_of 10 = .ok (.ireturn, 1) := by decide +kernel
theorem dX5_of_11 : decode cX5_of 11 = .ok (.iload_n 1, 1) := by decide +kernel
theorem dX5_of_12 : decode cX5_of 12 = .ok (.invokestatic 230, 3) := by decide +kernel
theorem dX5_of_15 : decode cX5_of 15 = .ok (.istore_n 3, 1) := by decide +kernel
theorem dX5_of_16 : decode cX5_of 16 = .ok (.iload_n 2, 1) := by decide +kernel
theorem dX5_of_17 : decode cX5_of 17 = .ok (.tableswitch 137 0 8 #[51, 60, 69, 78, 88, 100, 109, 118, 128], 51) := by decide +kernel
theorem dX5_of_68 : decode cX5_of 68 = .ok (.aload_n 0, 1) := by decide +kernel
theorem dX5_of_69 : decode cX5_of 69 = .ok (.getfield 8, 3) := by decide +kernel
theorem dX5_of_72 : decode cX5_of 72 = .ok (.iload_n 3, 1) := by decide +kernel
theorem dX5_of_73 : decode cX5_of 73 = .ok (.iconst 3, 1) := by decide +kernel
theorem dX5_of_74 : decode cX5_of 74 = .ok (.iadd, 1) := by decide +kernel
theorem dX5_of_75 : decode cX5_of 75 = .ok (.iaload, 1) := by decide +kernel
theorem dX5_of_76 : decode cX5_of 76 = .ok (.ireturn, 1) := by decide +kernel
theorem dX5_of_77 : decode cX5_of 77 = .ok (.aload_n 0, 1) := by decide +kernel
theorem dX5_of_78 : decode cX5_of 78 = .ok (.getfield 8, 3) := by decide +kernel
theorem dX5_of_81 : decode cX5_of 81 = .ok (.iload_n 3, 1) := by decide +kernel
theorem dX5_of_82 : decode cX5_of 82 = .ok (.iconst 4, 1) := by decide +kernel
theorem dX5_of_83 : decode cX5_of 83 = .ok (.iadd, 1) := by decide +kernel
theorem dX5_of_84 : decode cX5_of 84 = .ok (.iaload, 1) := by decide +kernel
theorem dX5_of_85 : decode cX5_of 85 = .ok (.ireturn, 1) := by decide +kernel
theorem dX5_of_86 : decode cX5_of 86 = .ok (.aload_n 0, 1) := by decide +kernel
theorem dX5_of_87 : decode cX5_of 87 = .ok (.getfield 8, 3) := by decide +kernel
theorem dX5_of_90 : decode cX5_of 90 = .ok (.iload_n 3, 1) := by decide +kernel
theorem dX5_of_91 : decode cX5_of 91 = .ok (.iconst 5, 1) := by decide +kernel
theorem dX5_of_92 : decode cX5_of 92 = .ok (.iadd, 1) := by decide +kernel
theorem dX5_of_93 : decode cX5_of 93 = .ok (.iaload, 1) := by decide +kernel
theorem dX5_of_94 : decode cX5_of 94 = .ok (.ireturn, 1) := by decide +kernel
theorem dX5_of_95 : decode cX5_of 95 = .ok (.aload_n 0, 1) := by decide +kernel
theorem dX5_of_96 : decode cX5_of 96 = .ok (.getfield 8, 3) := by decide +kernel
theorem dX5_of_99 : decode cX5_of 99 = .ok (.iload_n 3, 1) := by decide +kernel
theorem dX5_of_100 : decode cX5_of 100 = .ok (.bipush 6, 2) := by decide +kernel
theorem dX5_of_102 : decode cX5_of 102 = .ok (.iadd, 1) := by decide +kernel
theorem dX5_of_103 : decode cX5_of 103 = .ok (.iaload, 1) := by decide +kernel
theorem dX5_of_104 : decode cX5_of 104 = .ok (.ireturn, 1) := by decide +kernel
theorem dX5_of_105 : decode cX5_of 105 = .ok (.aload_n 0, 1) := by decide +kernel
theorem dX5_of_106 : decode cX5_of 106 = .ok (.getfield 8, 3) := by decide +kernel
theorem dX5_of_109 : decode cX5_of 109 = .ok (.iload_n 3, 1) := by decide +kernel
theorem dX5_of_110 : decode cX5_of 110 = .ok (.bipush 7, 2) := by decide +kernel
theorem dX5_of_112 : decode cX5_of 112 = .ok (.iadd, 1) := by decide +kernel
theorem dX5_of_113 : decode cX5_of 113 = .ok (.iaload, 1) := by decide +kernel
theorem dX5_of_114 : decode cX5_of 114 = .ok (.iconst 1, 1) := by decide +kernel
theorem dX5_of_115 : decode cX5_of 115 = .ok (.isub, 1) := by decide +kernel
theorem dX5_of_116 : decode cX5_of 116 = .ok (.ireturn, 1) := by decide +kernel
theorem dX5_of_117 : decode cX5_of 117 = .ok (.aload_n 0, 1) := by decide +kernel
theorem dX5_of_118 : decode cX5_of 118 = .ok (.getfield 8, 3) := by decide +kernel
theorem dX5_of_121 : decode cX5_of 121 = .ok (.iload_n 3, 1) := by decide +kernel
theorem dX5_of_122 : decode cX5_of 122 = .ok (.iconst 0, 1) := by decide +kernel
theorem dX5_of_123 : decode cX5_of 123 = .ok (.iadd, 1) := by decide +kernel
theorem dX5_of_124 : decode cX5_of 124 = .ok (.iaload, 1) := by decide +kernel
theorem dX5_of_125 : decode cX5_of 125 = .ok (.ireturn, 1) := by decide +kernel
theorem dX5_of_126 : decode cX5_of 126 = .ok (.aload_n 0, 1) := by decide +kernel
theorem dX5_of_127 : decode cX5_of 127 = .ok (.getfield 8, 3) := by decide +kernel
theorem dX5_of_130 : decode cX5_of 130 = .ok (.iload_n 3, 1) := by decide +kernel
theorem dX5_of_131 : decode cX5_of 131 = .ok (.iconst 1, 1) := by decide +kernel
theorem dX5_of_132 : decode cX5_of 132 = .ok (.iadd, 1) := by decide +kernel
theorem dX5_of_133 : decode cX5_of 133 = .ok (.iaload, 1) := by decide +kernel
theorem dX5_of_134 : decode cX5_of 134 = .ok (.ireturn, 1) := by decide +kernel
theorem dX5_of_135 : decode cX5_of 135 = .ok (.aload_n 0, 1) := by decide +kernel
theorem dX5_of_136 : decode cX5_of 136 = .ok (.getfield 8, 3) := by decide +kernel
theorem dX5_of_139 : decode cX5_of 139 = .ok (.iload_n 3, 1) := by decide +kernel
theorem dX5_of_140 : decode cX5_of 140 = .ok (.bipush 8, 2) := by decide +kernel
theorem dX5_of_142 : decode cX5_of 142 = .ok (.iadd, 1) := by decide +kernel
theorem dX5_of_143 : decode cX5_of 143 = .ok (.iaload, 1) := by decide +kernel
theorem dX5_of_144 : decode cX5_of 144 = .ok (.ireturn, 1) := by decide +kernel
theorem dX5_of_145 : decode cX5_of 145 = .ok (.aload_n 0, 1) := by decide +kernel
theorem dX5_of_146 : decode cX5_of 146 = .ok (.getfield 8, 3) := by decide +kernel
theorem dX5_of_149 : decode cX5_of 149 = .ok (.iload_n 3, 1) := by decide +kernel
theorem dX5_of_150 : decode cX5_of 150 = .ok (.iconst 2, 1) := by decide +kernel
theorem dX5_of_151 : decode cX5_of 151 = .ok (.iadd, 1) := by decide +kernel
theorem dX5_of_152 : decode cX5_of 152 = .ok (.iaload, 1) := by decide +kernel
theorem dX5_of_153 : decode cX5_of 153 = .ok (.ireturn, 1) := by decide +kernel
theorem dX5_of_154 : decode cX5_of 154 = .ok (.bipush (-3), 2) := by decide +kernel
theorem dX5_of_156 : decode cX5_of 156 = .ok (.ireturn, 1) := by decide +kernel
theorem dX5_leans_0 : decode cX5_leans 0 = .ok (.aload_n 0, 1) := by decide +kernel
theorem dX5_leans_1 : decode cX5_leans 1 = .ok (.iload_n 1, 1) := by decide +kernel
theorem dX5_leans_2 : decode cX5_leans 2 = .ok (.invokevirtual 251, 3) := by decide +kernel
theorem dX5_leans_5 : decode cX5_leans 5 = .ok (.ifCond .eq 23, 3) := by decide +kernel
theorem dX5_leans_8 : decode cX5_leans 8 = .ok (.iload_n 2, 1) := by decide +kernel
theorem dX5_leans_9 : decode cX5_leans 9 = .ok (.ifCond .lt 19, 3) := by decide +kernel
theorem dX5_leans_12 : decode cX5_leans 12 = .ok (.iload_n 2, 1) := by decide +kernel
theorem dX5_leans_13 : decode cX5_leans 13 = .ok (.aload_n 0, 1) := by decide +kernel
theorem dX5_leans_14 : decode cX5_leans 14 = .ok (.getfield 8, 3) := by decide +kernel
theorem dX5_leans_17 : decode cX5_leans 17 = .ok (.iload_n 1, 1) := by decide +kernel
theorem dX5_leans_18 : decode cX5_leans 18 = .ok (.invokestatic 230, 3) := by decide +kernel
theorem dX5_leans_21 : decode cX5_leans 21 = .ok (.bipush 8, 2) := by decide +kernel
theorem dX5_leans_23 : decode cX5_leans 23 = .ok (.iadd, 1) := by decide +kernel
theorem dX5_leans_24 : decode cX5_leans 24 = .ok (.iaload, 1) := by decide +kernel
theorem dX5_leans_25 : decode cX5_leans 25 = .ok (.if_icmp .lt 7, 3) := by decide +kernel
theorem dX5_leans_28 : decode cX5_leans 28 = .ok (.iconst (-1), 1) := by decide +kernel
theorem dX5_leans_29 : decode cX5_leans 29 = .ok (.goto 17, 3) := by decide +kernel
theorem dX5_leans_32 : decode cX5_leans 32 = .ok (.aload_n 0, 1) := by decide +kernel
theorem dX5_leans_33 : decode cX5_leans 33 = .ok (.getfield 8, 3) := by decide +kernel
theorem dX5_leans_36 : decode cX5_leans 36 = .ok (.iload_n 1, 1) := by decide +kernel
theorem dX5_leans_37 : decode cX5_leans 37 = .ok (.invokestatic 230, 3) := by decide +kernel
theorem dX5_leans_40 : decode cX5_leans 40 = .ok (.bipush 10, 2) := by decide +kernel
theorem dX5_leans_42 : decode cX5_leans 42 = .ok (.iadd, 1) := by decide +kernel
theorem dX5_leans_43 : decode cX5_leans 43 = .ok (.iload_n 2, 1) := by decide +kernel
theorem dX5_leans_44 : decode cX5_leans 44 = .ok (.iadd, 1) := by decide +kernel
theorem dX5_leans_45 : decode cX5_leans 45 = .ok (.iaload, 1) := by decide +kernel
theorem dX5_leans_46 : decode cX5_leans 46 = .ok (.ireturn, 1) := by decide +kernel
theorem dX5_stale_0 : decode cX5_stale 0 = .ok (.aload_n 0, 1) := by decide +kernel
theorem dX5_stale_1 : decode cX5_stale 1 = .ok (.invokevirtual 257, 3) := by decide +kernel
theorem dX5_stale_4 : decode cX5_stale 4 = .ok (.aload_n 0, 1) := by decide +kernel
theorem dX5_stale_5 : decode cX5_stale 5 = .ok (.iload_n 1, 1) := by decide +kernel
theorem dX5_stale_6 : decode cX5_stale 6 = .ok (.invokevirtual 251, 3) := by decide +kernel
theorem dX5_stale_9 : decode cX5_stale 9 = .ok (.ifCond .eq 16, 3) := by decide +kernel
theorem dX5_stale_12 : decode cX5_stale 12 = .ok (.aload_n 0, 1) := by decide +kernel
theorem dX5_stale_13 : decode cX5_stale 13 = .ok (.getfield 63, 3) := by decide +kernel
theorem dX5_stale_16 : decode cX5_stale 16 = .ok (.iload_n 1, 1) := by decide +kernel
theorem dX5_stale_17 : decode cX5_stale 17 = .ok (.baload, 1) := by decide +kernel
theorem dX5_stale_18 : decode cX5_stale 18 = .ok (.ifCond .eq 7, 3) := by decide +kernel
theorem dX5_stale_21 : decode cX5_stale 21 = .ok (.iconst 1, 1) := by decide +kernel
theorem dX5_stale_22 : decode cX5_stale 22 = .ok (.goto 4, 3) := by decide +kernel
theorem dX5_stale_25 : decode cX5_stale 25 = .ok (.iconst 0, 1) := by decide +kernel
theorem dX5_stale_26 : decode cX5_stale 26 = .ok (.ireturn, 1) := by decide +kernel
section RM
variable {ρ : Type} {p : Program} {l : Launch} {e : Env} {R : Room} {s : State} {m : MethodId} {args : Array Value} {below : List Frame} {meth : Method} {c : Code}
variable {cc : ByteArray} {nL : Nat} {rt : Option FieldType} {D : va_G} {cI cZ : ClassId} {q : Nat → Nat} {QQ : ρ → State → Prop} {pc : Nat} {lv : List (Nat × Value)}

-- rerun
def fR_rerun (n : Nat) (x1 : Int32) (M : MR) : Option (Int32 × MR) :=
    bnd (fR_isCell n x1 M) fun v1 M1 =>
    if v1 = 0 then
      (some ((-1 : Int32), M1))
    else
      (rd M1 0 62610 (1 : Int32) fun v2 =>
      if v2 = (150 : Int32) then
        (some ((-2 : Int32), M1))
      else
        (bnd (fR_lookAtCell n x1 M1) fun v3 M3 =>
        if v3 < 0 then
          (bnd (fR_run n x1 M3) fun v4 M4 =>
          some (v4, M4))
        else
          (some (((-100 : Int32) - v3), M3))))
theorem c_rerun (l : Launch) (D : va_G) (cI cZ : ClassId) (q : Nat → Nat) (n : Nat) (x1 : Int32) (M : MR) : MetR l D cI cZ q yX5_rerun cX5_rerun 3 (some .int) 10 231 QI [.ref (q 34), .int x1] M (fR_rerun n x1 M) := by
  refine MetR.of (by decide) rfl (Nat.le_of_ble_eq_true rfl) ?_
  intro p e s m args below meth c X
  unfold fR_rerun
  refine g_pick (lv' := [(0, .ref (q 34)), (1, .int x1)]) [0, 1] rfl ?_
  refine g_aload_n X dX5_rerun_0 rfl rfl ?_
  refine g_iload_n X dX5_rerun_1 rfl rfl ?_
  refine k_isCell X ⟨Nat.le_of_ble_eq_true rfl, Nat.le_of_ble_eq_true rfl⟩ (Nat.le_of_ble_eq_true rfl) dX5_rerun_2 ?_
  intro v1 M1
  refine g_if_ne (tgt := 10) X dX5_rerun_5 (by decide) ?_ ?_
  · refine g_aload_n X dX5_rerun_10 rfl rfl ?_
    refine r_g_m X dX5_rerun_11 ?_
    refine g_iconst (v := (1 : Int32)) X dX5_rerun_14 (by decide) ?_
    refine r_l_m X dX5_rerun_15 ?_
    intro v2
    refine g_sipush (v := (150 : Int32)) X dX5_rerun_16 (by decide) ?_
    refine g_icmp_ne (tgt := 25) X dX5_rerun_19 (by decide) ?_ ?_
    · refine g_aload_n X dX5_rerun_25 rfl rfl ?_
      refine g_iload_n X dX5_rerun_26 rfl rfl ?_
      refine k_lookAtCell X ⟨Nat.le_of_ble_eq_true rfl, Nat.le_of_ble_eq_true rfl⟩ (Nat.le_of_ble_eq_true rfl) dX5_rerun_27 ?_
      intro v3 M3
      refine g_istore_n (lv' := [(2, .int v3), (0, .ref (q 34)), (1, .int x1)]) X dX5_rerun_30 rfl (by decide) rfl ?_
      refine g_iload_n X dX5_rerun_31 rfl rfl ?_
      refine g_if_lt (tgt := 42) X dX5_rerun_32 (by decide) ?_ ?_
      · refine g_aload_n X dX5_rerun_42 rfl rfl ?_
        refine g_iload_n X dX5_rerun_43 rfl rfl ?_
        refine k_run X ⟨Nat.le_of_ble_eq_true rfl, Nat.le_of_ble_eq_true rfl⟩ (Nat.le_of_ble_eq_true rfl) dX5_rerun_44 ?_
        intro v4 M4
        exact r_iret X dX5_rerun_47
      · refine g_bipush (v := (-100 : Int32)) X dX5_rerun_35 (by decide) ?_
        refine g_iload_n X dX5_rerun_37 rfl rfl ?_
        refine g_isub X dX5_rerun_38 ?_
        refine g_goto (tgt := 47) X dX5_rerun_39 (by decide) ?_
        exact r_iret X dX5_rerun_47
    · refine g_bipush (v := (-2 : Int32)) X dX5_rerun_22 (by decide) ?_
      exact r_iret X dX5_rerun_24
  · refine g_iconst (v := (-1 : Int32)) X dX5_rerun_8 (by decide) ?_
    exact r_iret X dX5_rerun_9
-- tellStale
def fR_tellStale_b135 (n : Nat) (k23 : Int32 → MR → Option (Int32 × MR)) (k31 : Int32 → Int32 → MR → Option (Int32 × MR)) (k43 : Int32 → Int32 → Int32 → MR → Option (Int32 × MR)) (x1 : Int32) (x2 : Int32) (x3 : Int32) (s0 : Int32) (s1 : Int32) (M : MR) : Option (Int32 × MR) :=
    wz M 28 40 s0 s1 fun M1 =>
    rd M1 28 40 x2 fun v2 =>
    k43 (x1 ||| v2) x2 (x3 + (1 : Int32)) M1
theorem wR_tellStale_b135 (X : gX p s m args meth c cX5_tellStale 5 RX5 none D (tyR cI cZ)) (n : Nat) (k23 : Int32 → MR → Option (Int32 × MR)) (k31 : Int32 → Int32 → MR → Option (Int32 × MR)) (k43 : Int32 → Int32 → Int32 → MR → Option (Int32 × MR)) (hk23 : ∀ (x1 : Int32) (M : MR), gG p l e (rmR 2 41) s m args below meth c 5 (ZR D cI cZ q (AR q s.heap.size) s.heap M) 0 0 (fun r => MQ below (QV D cI cZ q s.heap.size r) args s 0 0 (AR q s.heap.size)) 23 [(0, .ref (q 34)), (1, .int x1)] [] (k23 x1 M)) (hk31 : ∀ (x1 : Int32) (x2 : Int32) (M : MR), gG p l e (rmR 2 41) s m args below meth c 5 (ZR D cI cZ q (AR q s.heap.size) s.heap M) 0 0 (fun r => MQ below (QV D cI cZ q s.heap.size r) args s 0 0 (AR q s.heap.size)) 31 [(0, .ref (q 34)), (1, .int x1), (2, .int x2)] [] (k31 x1 x2 M)) (hk43 : ∀ (x1 : Int32) (x2 : Int32) (x3 : Int32) (M : MR), gG p l e (rmR 2 41) s m args below meth c 5 (ZR D cI cZ q (AR q s.heap.size) s.heap M) 0 0 (fun r => MQ below (QV D cI cZ q s.heap.size r) args s 0 0 (AR q s.heap.size)) 43 [(0, .ref (q 34)), (1, .int x1), (2, .int x2), (3, .int x3)] [] (k43 x1 x2 x3 M)) (x1 : Int32) (x2 : Int32) (x3 : Int32) (s0 : Int32) (s1 : Int32) (M : MR) : gG p l e (rmR 2 41) s m args below meth c 5 (ZR D cI cZ q (AR q s.heap.size) s.heap M) 0 0 (fun r => MQ below (QV D cI cZ q s.heap.size r) args s 0 0 (AR q s.heap.size)) 135 [(0, .ref (q 34)), (1, .int x1), (2, .int x2), (3, .int x3)] [.int s1, .int s0, .ref (q 28)] (fR_tellStale_b135 n k23 k31 k43 x1 x2 x3 s0 s1 M) := by
  unfold fR_tellStale_b135
  refine r_s_isStale X dX5_tellStale_135 ?_
  intro M1
  refine g_iload_n X dX5_tellStale_136 rfl rfl ?_
  refine g_aload_n X dX5_tellStale_137 rfl rfl ?_
  refine r_g_isStale X dX5_tellStale_138 ?_
  refine g_iload_n X dX5_tellStale_141 rfl rfl ?_
  refine r_l_isStale X dX5_tellStale_142 ?_
  intro v2
  refine g_ior X dX5_tellStale_143 ?_
  refine g_istore_n (lv' := [(1, .int (x1 ||| v2)), (0, .ref (q 34)), (2, .int x2), (3, .int x3)]) X dX5_tellStale_144 rfl (by decide) rfl ?_
  refine g_iinc (v := (1 : Int32)) (lv' := [(3, .int (x3 + (1 : Int32))), (1, .int (x1 ||| v2)), (0, .ref (q 34)), (2, .int x2)]) X dX5_tellStale_145 rfl (by decide) (by decide) rfl ?_
  refine g_goto (tgt := 43) X dX5_tellStale_148 (by decide) ?_
  exact g_pick [2, 1, 3, 0] rfl (hk43 (x1 ||| v2) x2 (x3 + (1 : Int32)) M1)
def fR_tellStale_b130 (n : Nat) (k23 : Int32 → MR → Option (Int32 × MR)) (k31 : Int32 → Int32 → MR → Option (Int32 × MR)) (k43 : Int32 → Int32 → Int32 → MR → Option (Int32 × MR)) (x1 : Int32) (x2 : Int32) (x3 : Int32) (s0 : Int32) (M : MR) : Option (Int32 × MR) :=
    fR_tellStale_b135 n k23 k31 k43 x1 x2 x3 s0 (1 : Int32) M
theorem wR_tellStale_b130 (X : gX p s m args meth c cX5_tellStale 5 RX5 none D (tyR cI cZ)) (n : Nat) (k23 : Int32 → MR → Option (Int32 × MR)) (k31 : Int32 → Int32 → MR → Option (Int32 × MR)) (k43 : Int32 → Int32 → Int32 → MR → Option (Int32 × MR)) (hk23 : ∀ (x1 : Int32) (M : MR), gG p l e (rmR 2 41) s m args below meth c 5 (ZR D cI cZ q (AR q s.heap.size) s.heap M) 0 0 (fun r => MQ below (QV D cI cZ q s.heap.size r) args s 0 0 (AR q s.heap.size)) 23 [(0, .ref (q 34)), (1, .int x1)] [] (k23 x1 M)) (hk31 : ∀ (x1 : Int32) (x2 : Int32) (M : MR), gG p l e (rmR 2 41) s m args below meth c 5 (ZR D cI cZ q (AR q s.heap.size) s.heap M) 0 0 (fun r => MQ below (QV D cI cZ q s.heap.size r) args s 0 0 (AR q s.heap.size)) 31 [(0, .ref (q 34)), (1, .int x1), (2, .int x2)] [] (k31 x1 x2 M)) (hk43 : ∀ (x1 : Int32) (x2 : Int32) (x3 : Int32) (M : MR), gG p l e (rmR 2 41) s m args below meth c 5 (ZR D cI cZ q (AR q s.heap.size) s.heap M) 0 0 (fun r => MQ below (QV D cI cZ q s.heap.size r) args s 0 0 (AR q s.heap.size)) 43 [(0, .ref (q 34)), (1, .int x1), (2, .int x2), (3, .int x3)] [] (k43 x1 x2 x3 M)) (x1 : Int32) (x2 : Int32) (x3 : Int32) (s0 : Int32) (M : MR) : gG p l e (rmR 2 41) s m args below meth c 5 (ZR D cI cZ q (AR q s.heap.size) s.heap M) 0 0 (fun r => MQ below (QV D cI cZ q s.heap.size r) args s 0 0 (AR q s.heap.size)) 130 [(0, .ref (q 34)), (1, .int x1), (2, .int x2), (3, .int x3)] [.int s0, .ref (q 28)] (fR_tellStale_b130 n k23 k31 k43 x1 x2 x3 s0 M) := by
  unfold fR_tellStale_b130
  refine g_iconst (v := (1 : Int32)) X dX5_tellStale_130 (by decide) ?_
  refine g_goto (tgt := 135) X dX5_tellStale_131 (by decide) ?_
  exact g_pick [0, 1, 2, 3] rfl (wR_tellStale_b135 X n k23 k31 k43 hk23 hk31 hk43 x1 x2 x3 s0 (1 : Int32) M)
def fR_tellStale_b151 (n : Nat) (k23 : Int32 → MR → Option (Int32 × MR)) (k31 : Int32 → Int32 → MR → Option (Int32 × MR)) (x1 : Int32) (x2 : Int32) (M : MR) : Option (Int32 × MR) :=
    k31 x1 (x2 + (1 : Int32)) M
theorem wR_tellStale_b151 (X : gX p s m args meth c cX5_tellStale 5 RX5 none D (tyR cI cZ)) (n : Nat) (k23 : Int32 → MR → Option (Int32 × MR)) (k31 : Int32 → Int32 → MR → Option (Int32 × MR)) (hk23 : ∀ (x1 : Int32) (M : MR), gG p l e (rmR 2 41) s m args below meth c 5 (ZR D cI cZ q (AR q s.heap.size) s.heap M) 0 0 (fun r => MQ below (QV D cI cZ q s.heap.size r) args s 0 0 (AR q s.heap.size)) 23 [(0, .ref (q 34)), (1, .int x1)] [] (k23 x1 M)) (hk31 : ∀ (x1 : Int32) (x2 : Int32) (M : MR), gG p l e (rmR 2 41) s m args below meth c 5 (ZR D cI cZ q (AR q s.heap.size) s.heap M) 0 0 (fun r => MQ below (QV D cI cZ q s.heap.size r) args s 0 0 (AR q s.heap.size)) 31 [(0, .ref (q 34)), (1, .int x1), (2, .int x2)] [] (k31 x1 x2 M)) (x1 : Int32) (x2 : Int32) (M : MR) : gG p l e (rmR 2 41) s m args below meth c 5 (ZR D cI cZ q (AR q s.heap.size) s.heap M) 0 0 (fun r => MQ below (QV D cI cZ q s.heap.size r) args s 0 0 (AR q s.heap.size)) 151 [(0, .ref (q 34)), (1, .int x1), (2, .int x2)] [] (fR_tellStale_b151 n k23 k31 x1 x2 M) := by
  unfold fR_tellStale_b151
  refine g_iinc (v := (1 : Int32)) (lv' := [(2, .int (x2 + (1 : Int32))), (0, .ref (q 34)), (1, .int x1)]) X dX5_tellStale_151 rfl (by decide) (by decide) rfl ?_
  refine g_goto (tgt := 31) X dX5_tellStale_154 (by decide) ?_
  exact g_pick [1, 2, 0] rfl (hk31 x1 (x2 + (1 : Int32)) M)
def fR_tellStale_l43 (n : Nat) (k23 : Int32 → MR → Option (Int32 × MR)) (k31 : Int32 → Int32 → MR → Option (Int32 × MR)) : Nat → Int32 → Int32 → Int32 → MR → Option (Int32 × MR)
  | 0, _, _, _, _ => none
  | k + 1, x1, x2, x3, M => bnd (fR_cellAt n x2 M) fun v1 M1 =>
    rd M1 0 62610 (v1 + (8 : Int32)) fun v2 =>
    if v2 ≤ x3 then
      (fR_tellStale_b151 n k23 k31 x1 x2 M1)
    else
      (rd M1 28 40 x2 fun v3 =>
      if v3 = 0 then
        (bnd (fR_cellAt n x2 M1) fun v4 M4 =>
        rd M4 0 62610 ((v4 + (10 : Int32)) + x3) fun v5 =>
        bnd (fR_editAt n v5 M4) fun v6 M6 =>
        rd M6 0 62610 (v6 + (0 : Int32)) fun v7 =>
        bnd (fR_newest n v7 M6) fun v8 M8 =>
        if v8 = v5 then
          (bnd (fR_editAt n v5 M8) fun v9 M9 =>
          rd M9 0 62610 (v9 + (2 : Int32)) fun v10 =>
          rd M9 28 40 v10 fun v11 =>
          if v11 = 0 then
            (fR_tellStale_b135 n k23 k31 (fR_tellStale_l43 n k23 k31 k) x1 x2 x3 x2 (0 : Int32) M9)
          else
            (fR_tellStale_b130 n k23 k31 (fR_tellStale_l43 n k23 k31 k) x1 x2 x3 x2 M9))
        else
          (fR_tellStale_b130 n k23 k31 (fR_tellStale_l43 n k23 k31 k) x1 x2 x3 x2 M8))
      else
        (fR_tellStale_b151 n k23 k31 x1 x2 M1))
theorem wR_tellStale_l43 (X : gX p s m args meth c cX5_tellStale 5 RX5 none D (tyR cI cZ)) (n : Nat) (k23 : Int32 → MR → Option (Int32 × MR)) (k31 : Int32 → Int32 → MR → Option (Int32 × MR)) (hk23 : ∀ (x1 : Int32) (M : MR), gG p l e (rmR 2 41) s m args below meth c 5 (ZR D cI cZ q (AR q s.heap.size) s.heap M) 0 0 (fun r => MQ below (QV D cI cZ q s.heap.size r) args s 0 0 (AR q s.heap.size)) 23 [(0, .ref (q 34)), (1, .int x1)] [] (k23 x1 M)) (hk31 : ∀ (x1 : Int32) (x2 : Int32) (M : MR), gG p l e (rmR 2 41) s m args below meth c 5 (ZR D cI cZ q (AR q s.heap.size) s.heap M) 0 0 (fun r => MQ below (QV D cI cZ q s.heap.size r) args s 0 0 (AR q s.heap.size)) 31 [(0, .ref (q 34)), (1, .int x1), (2, .int x2)] [] (k31 x1 x2 M)) : ∀ (k : Nat) (x1 : Int32) (x2 : Int32) (x3 : Int32) (M : MR), gG p l e (rmR 2 41) s m args below meth c 5 (ZR D cI cZ q (AR q s.heap.size) s.heap M) 0 0 (fun r => MQ below (QV D cI cZ q s.heap.size r) args s 0 0 (AR q s.heap.size)) 43 [(0, .ref (q 34)), (1, .int x1), (2, .int x2), (3, .int x3)] [] (fR_tellStale_l43 n k23 k31 k x1 x2 x3 M) := by
  intro k
  induction k with
  | zero =>
    intro x1 x2 x3 M
    exact g_none
  | succ k ih =>
    intro x1 x2 x3 M
    rw [fR_tellStale_l43]
    refine g_iload_n X dX5_tellStale_43 rfl rfl ?_
    refine g_aload_n X dX5_tellStale_44 rfl rfl ?_
    refine r_g_m X dX5_tellStale_45 ?_
    refine g_iload_n X dX5_tellStale_48 rfl rfl ?_
    refine k_cellAt X ⟨Nat.le_of_ble_eq_true rfl, Nat.le_of_ble_eq_true rfl⟩ (Nat.le_of_ble_eq_true rfl) dX5_tellStale_49 ?_
    intro v1 M1
    refine g_bipush (v := (8 : Int32)) X dX5_tellStale_52 (by decide) ?_
    refine g_iadd X dX5_tellStale_54 ?_
    refine r_l_m X dX5_tellStale_55 ?_
    intro v2
    refine g_icmp_ge (tgt := 151) X dX5_tellStale_56 (by decide) ?_ ?_
    · exact g_pick [0, 1, 2] rfl (wR_tellStale_b151 X n k23 k31 hk23 hk31 x1 x2 M1)
    · refine g_aload_n X dX5_tellStale_59 rfl rfl ?_
      refine r_g_isStale X dX5_tellStale_60 ?_
      refine g_iload_n X dX5_tellStale_63 rfl rfl ?_
      refine r_l_isStale X dX5_tellStale_64 ?_
      intro v3
      refine g_if_ne (tgt := 151) X dX5_tellStale_65 (by decide) ?_ ?_
      · exact g_pick [0, 1, 2] rfl (wR_tellStale_b151 X n k23 k31 hk23 hk31 x1 x2 M1)
      · refine g_aload_n X dX5_tellStale_68 rfl rfl ?_
        refine r_g_m X dX5_tellStale_69 ?_
        refine g_iload_n X dX5_tellStale_72 rfl rfl ?_
        refine k_cellAt X ⟨Nat.le_of_ble_eq_true rfl, Nat.le_of_ble_eq_true rfl⟩ (Nat.le_of_ble_eq_true rfl) dX5_tellStale_73 ?_
        intro v4 M4
        refine g_bipush (v := (10 : Int32)) X dX5_tellStale_76 (by decide) ?_
        refine g_iadd X dX5_tellStale_78 ?_
        refine g_iload_n X dX5_tellStale_79 rfl rfl ?_
        refine g_iadd X dX5_tellStale_80 ?_
        refine r_l_m X dX5_tellStale_81 ?_
        intro v5
        refine g_istore (lv' := [(4, .int v5), (0, .ref (q 34)), (1, .int x1), (2, .int x2), (3, .int x3)]) X dX5_tellStale_82 (by decide) rfl ?_
        refine g_aload_n X dX5_tellStale_84 rfl rfl ?_
        refine r_g_isStale X dX5_tellStale_85 ?_
        refine g_iload_n X dX5_tellStale_88 rfl rfl ?_
        refine g_aload_n X dX5_tellStale_89 rfl rfl ?_
        refine g_aload_n X dX5_tellStale_90 rfl rfl ?_
        refine r_g_m X dX5_tellStale_91 ?_
        refine g_iload X dX5_tellStale_94 rfl ?_
        refine k_editAt X ⟨Nat.le_of_ble_eq_true rfl, Nat.le_of_ble_eq_true rfl⟩ (Nat.le_of_ble_eq_true rfl) dX5_tellStale_96 ?_
        intro v6 M6
        refine g_iconst (v := (0 : Int32)) X dX5_tellStale_99 (by decide) ?_
        refine g_iadd X dX5_tellStale_100 ?_
        refine r_l_m X dX5_tellStale_101 ?_
        intro v7
        refine k_newest X ⟨Nat.le_of_ble_eq_true rfl, Nat.le_of_ble_eq_true rfl⟩ (Nat.le_of_ble_eq_true rfl) dX5_tellStale_102 ?_
        intro v8 M8
        refine g_iload X dX5_tellStale_105 rfl ?_
        refine g_icmp_ne (tgt := 130) X dX5_tellStale_107 (by decide) ?_ ?_
        · exact g_pick [1, 2, 3, 4] rfl (wR_tellStale_b130 X n k23 k31 (fR_tellStale_l43 n k23 k31 k) hk23 hk31 ih x1 x2 x3 x2 M8)
        · refine g_aload_n X dX5_tellStale_110 rfl rfl ?_
          refine r_g_isStale X dX5_tellStale_111 ?_
          refine g_aload_n X dX5_tellStale_114 rfl rfl ?_
          refine r_g_m X dX5_tellStale_115 ?_
          refine g_iload X dX5_tellStale_118 rfl ?_
          refine k_editAt X ⟨Nat.le_of_ble_eq_true rfl, Nat.le_of_ble_eq_true rfl⟩ (Nat.le_of_ble_eq_true rfl) dX5_tellStale_120 ?_
          intro v9 M9
          refine g_iconst (v := (2 : Int32)) X dX5_tellStale_123 (by decide) ?_
          refine g_iadd X dX5_tellStale_124 ?_
          refine r_l_m X dX5_tellStale_125 ?_
          intro v10
          refine r_l_isStale X dX5_tellStale_126 ?_
          intro v11
          refine g_if_eq (tgt := 134) X dX5_tellStale_127 (by decide) ?_ ?_
          · refine g_iconst (v := (0 : Int32)) X dX5_tellStale_134 (by decide) ?_
            exact g_pick [1, 2, 3, 4] rfl (wR_tellStale_b135 X n k23 k31 (fR_tellStale_l43 n k23 k31 k) hk23 hk31 ih x1 x2 x3 x2 (0 : Int32) M9)
          · exact g_pick [1, 2, 3, 4] rfl (wR_tellStale_b130 X n k23 k31 (fR_tellStale_l43 n k23 k31 k) hk23 hk31 ih x1 x2 x3 x2 M9)
def fR_tellStale_l31 (n : Nat) (k23 : Int32 → MR → Option (Int32 × MR)) : Nat → Int32 → Int32 → MR → Option (Int32 × MR)
  | 0, _, _, _ => none
  | k + 1, x1, x2, M => rd M 0 62610 (0 : Int32) fun v1 =>
    if v1 ≤ x2 then (k23 x1 M) else (fR_tellStale_l43 n k23 (fR_tellStale_l31 n k23 k) n x1 x2 (0 : Int32) M)
theorem wR_tellStale_l31 (X : gX p s m args meth c cX5_tellStale 5 RX5 none D (tyR cI cZ)) (n : Nat) (k23 : Int32 → MR → Option (Int32 × MR)) (hk23 : ∀ (x1 : Int32) (M : MR), gG p l e (rmR 2 41) s m args below meth c 5 (ZR D cI cZ q (AR q s.heap.size) s.heap M) 0 0 (fun r => MQ below (QV D cI cZ q s.heap.size r) args s 0 0 (AR q s.heap.size)) 23 [(0, .ref (q 34)), (1, .int x1)] [] (k23 x1 M)) : ∀ (k : Nat) (x1 : Int32) (x2 : Int32) (M : MR), gG p l e (rmR 2 41) s m args below meth c 5 (ZR D cI cZ q (AR q s.heap.size) s.heap M) 0 0 (fun r => MQ below (QV D cI cZ q s.heap.size r) args s 0 0 (AR q s.heap.size)) 31 [(0, .ref (q 34)), (1, .int x1), (2, .int x2)] [] (fR_tellStale_l31 n k23 k x1 x2 M) := by
  intro k
  induction k with
  | zero =>
    intro x1 x2 M
    exact g_none
  | succ k ih =>
    intro x1 x2 M
    rw [fR_tellStale_l31]
    refine g_iload_n X dX5_tellStale_31 rfl rfl ?_
    refine g_aload_n X dX5_tellStale_32 rfl rfl ?_
    refine r_g_m X dX5_tellStale_33 ?_
    refine g_iconst (v := (0 : Int32)) X dX5_tellStale_36 (by decide) ?_
    refine r_l_m X dX5_tellStale_37 ?_
    intro v1
    refine g_icmp_ge (tgt := 157) X dX5_tellStale_38 (by decide) ?_ ?_
    · refine g_goto (tgt := 23) X dX5_tellStale_157 (by decide) ?_
      exact g_pick [0, 1] rfl (hk23 x1 M)
    · refine g_iconst (v := (0 : Int32)) X dX5_tellStale_41 (by decide) ?_
      refine g_istore_n (lv' := [(3, .int (0 : Int32)), (0, .ref (q 34)), (1, .int x1), (2, .int x2)]) X dX5_tellStale_42 rfl (by decide) rfl ?_
      exact g_pick [1, 2, 3, 0] rfl (wR_tellStale_l43 X n k23 (fR_tellStale_l31 n k23 k) hk23 ih n x1 x2 (0 : Int32) M)
def fR_tellStale_l23 (n : Nat) : Nat → Int32 → MR → Option (Int32 × MR)
  | 0, _, _ => none
  | k + 1, x1, M => if x1 = 0 then
      (some (0, M))
    else
      (fR_tellStale_l31 n (fR_tellStale_l23 n k) n (0 : Int32) (0 : Int32) M)
theorem wR_tellStale_l23 (X : gX p s m args meth c cX5_tellStale 5 RX5 none D (tyR cI cZ)) (n : Nat) : ∀ (k : Nat) (x1 : Int32) (M : MR), gG p l e (rmR 2 41) s m args below meth c 5 (ZR D cI cZ q (AR q s.heap.size) s.heap M) 0 0 (fun r => MQ below (QV D cI cZ q s.heap.size r) args s 0 0 (AR q s.heap.size)) 23 [(0, .ref (q 34)), (1, .int x1)] [] (fR_tellStale_l23 n k x1 M) := by
  intro k
  induction k with
  | zero =>
    intro x1 M
    exact g_none
  | succ k ih =>
    intro x1 M
    rw [fR_tellStale_l23]
    refine g_iload_n X dX5_tellStale_23 rfl rfl ?_
    refine g_if_eq (tgt := 160) X dX5_tellStale_24 (by decide) ?_ ?_
    · exact r_vret X dX5_tellStale_160
    · refine g_iconst (v := (0 : Int32)) X dX5_tellStale_27 (by decide) ?_
      refine g_istore_n (lv' := [(1, .int (0 : Int32)), (0, .ref (q 34))]) X dX5_tellStale_28 rfl (by decide) rfl ?_
      refine g_iconst (v := (0 : Int32)) X dX5_tellStale_29 (by decide) ?_
      refine g_istore_n (lv' := [(2, .int (0 : Int32)), (1, .int (0 : Int32)), (0, .ref (q 34))]) X dX5_tellStale_30 rfl (by decide) rfl ?_
      exact g_pick [2, 1, 0] rfl (wR_tellStale_l31 X n (fR_tellStale_l23 n k) ih n (0 : Int32) (0 : Int32) M)
def fR_tellStale_l2 (n : Nat) : Nat → Int32 → MR → Option (Int32 × MR)
  | 0, _, _ => none
  | k + 1, x1, M => if (40 : Int32) ≤ x1 then
      (fR_tellStale_l23 n n (1 : Int32) M)
    else
      (wz M 28 40 x1 (0 : Int32) fun M1 =>
      (fR_tellStale_l2 n k) (x1 + (1 : Int32)) M1)
theorem wR_tellStale_l2 (X : gX p s m args meth c cX5_tellStale 5 RX5 none D (tyR cI cZ)) (n : Nat) : ∀ (k : Nat) (x1 : Int32) (M : MR), gG p l e (rmR 2 41) s m args below meth c 5 (ZR D cI cZ q (AR q s.heap.size) s.heap M) 0 0 (fun r => MQ below (QV D cI cZ q s.heap.size r) args s 0 0 (AR q s.heap.size)) 2 [(0, .ref (q 34)), (1, .int x1)] [] (fR_tellStale_l2 n k x1 M) := by
  intro k
  induction k with
  | zero =>
    intro x1 M
    exact g_none
  | succ k ih =>
    intro x1 M
    rw [fR_tellStale_l2]
    refine g_iload_n X dX5_tellStale_2 rfl rfl ?_
    refine g_bipush (v := (40 : Int32)) X dX5_tellStale_3 (by decide) ?_
    refine g_icmp_ge (tgt := 21) X dX5_tellStale_5 (by decide) ?_ ?_
    · refine g_iconst (v := (1 : Int32)) X dX5_tellStale_21 (by decide) ?_
      refine g_istore_n (lv' := [(1, .int (1 : Int32)), (0, .ref (q 34))]) X dX5_tellStale_22 rfl (by decide) rfl ?_
      exact g_pick [1, 0] rfl (wR_tellStale_l23 X n n (1 : Int32) M)
    · refine g_aload_n X dX5_tellStale_8 rfl rfl ?_
      refine r_g_isStale X dX5_tellStale_9 ?_
      refine g_iload_n X dX5_tellStale_12 rfl rfl ?_
      refine g_iconst (v := (0 : Int32)) X dX5_tellStale_13 (by decide) ?_
      refine r_s_isStale X dX5_tellStale_14 ?_
      intro M1
      refine g_iinc (v := (1 : Int32)) (lv' := [(1, .int (x1 + (1 : Int32))), (0, .ref (q 34))]) X dX5_tellStale_15 rfl (by decide) (by decide) rfl ?_
      refine g_goto (tgt := 2) X dX5_tellStale_18 (by decide) ?_
      exact g_pick [1, 0] rfl (ih (x1 + (1 : Int32)) M1)
def fR_tellStale (n : Nat) (M : MR) : Option (Int32 × MR) :=
    fR_tellStale_l2 n n (0 : Int32) M
theorem c_tellStale (l : Launch) (D : va_G) (cI cZ : ClassId) (q : Nat → Nat) (n : Nat) (M : MR) : MetR l D cI cZ q yX5_tellStale cX5_tellStale 5 none 2 41 QV [.ref (q 34)] M (fR_tellStale n M) := by
  refine MetR.of (by decide) rfl (Nat.le_of_ble_eq_true rfl) ?_
  intro p e s m args below meth c X
  unfold fR_tellStale
  refine g_pick (lv' := [(0, .ref (q 34))]) [0] rfl ?_
  refine g_iconst (v := (0 : Int32)) X dX5_tellStale_0 (by decide) ?_
  refine g_istore_n (lv' := [(1, .int (0 : Int32)), (0, .ref (q 34))]) X dX5_tellStale_1 rfl (by decide) rfl ?_
  exact g_pick [1, 0] rfl (wR_tellStale_l2 X n n (0 : Int32) M)
theorem tc_tellStale : Cond.code yX5_tellStale cX5_tellStale 5 none ∈ tt := tt_in (List.mem_of_getElem? (i := 1079) (by decide +kernel)) (by decide +kernel)
theorem tl_tellStale : Cond.methodLink RX5 257 yX5_tellStale ∈ tt := tt_in (List.mem_of_getElem? (i := 1076) (by decide +kernel)) (by decide +kernel)
theorem ti_tellStale : Cond.instanceMethod yX5_tellStale ∈ tt := tt_in (List.mem_of_getElem? (i := 1078) (by decide +kernel)) (by decide +kernel)
theorem te_tellStale : Cond.selects RX5 yX5_tellStale yX5_tellStale ∈ tt := tt_in (List.mem_of_getElem? (i := 77) (by decide +kernel)) (by decide +kernel)
theorem k_tellStale (X : gX p s m args meth c cc nL RX5 rt D (tyR cI cZ)) {n : Nat} {M : MR} {rest : List Value} {K : Int32 → MR → Option ρ} (hR : 2 + 1 ≤ R.frames ∧ 8 + (5 + 11) + 41 ≤ R.locals) (hcat : (rest.map fun v => v.category).sum ≤ 8) (d : decode cc pc = .ok (.invokevirtual 257, 3)) (kk : ∀ v M1, gG p l e R s m args below meth c nL (ZR D cI cZ q (AR q s.heap.size) s.heap M1) 0 0 QQ (pc + 3) lv (rest) (K v M1)) : gG p l e R s m args below meth c nL (ZR D cI cZ q (AR q s.heap.size) s.heap M) 0 0 QQ pc lv (.ref (q 34) :: rest) (bnd (fR_tellStale n M) K) := r_callVv (As := []) X (c_tellStale l D cI cZ q n M) (cwVR (k := 0) X.2.2.2.2.1 tl_tellStale ti_tellStale te_tellStale tc_tellStale ini5 (by decide +kernel) hR) rfl rfl hcat d kk
-- isFree
def fR_isFree_b97 (n : Nat) (k4 : Int32 → Int32 → Int32 → MR → Option (Int32 × MR)) (x1 : Int32) (x3 : Int32) (s0 : Int32) (s1 : Int32) (M : MR) : Option (Int32 × MR) :=
    k4 x1 (s0 &&& s1) (x3 + (1 : Int32)) M
theorem wR_isFree_b97 (X : gX p s m args meth c cX5_isFree 5 RX5 (some .boolean) D (tyR cI cZ)) (n : Nat) (k4 : Int32 → Int32 → Int32 → MR → Option (Int32 × MR)) (hk4 : ∀ (x1 : Int32) (x2 : Int32) (x3 : Int32) (M : MR), gG p l e (rmR 2 41) s m args below meth c 5 (ZR D cI cZ q (AR q s.heap.size) s.heap M) 0 0 (fun r => MQ below (QI D cI cZ q s.heap.size r) args s 0 0 (AR q s.heap.size)) 4 [(0, .ref (q 34)), (1, .int x1), (2, .int x2), (3, .int x3)] [] (k4 x1 x2 x3 M)) (x1 : Int32) (x3 : Int32) (s0 : Int32) (s1 : Int32) (M : MR) : gG p l e (rmR 2 41) s m args below meth c 5 (ZR D cI cZ q (AR q s.heap.size) s.heap M) 0 0 (fun r => MQ below (QI D cI cZ q s.heap.size r) args s 0 0 (AR q s.heap.size)) 97 [(0, .ref (q 34)), (1, .int x1), (3, .int x3)] [.int s1, .int s0] (fR_isFree_b97 n k4 x1 x3 s0 s1 M) := by
  unfold fR_isFree_b97
  refine g_iand X dX5_isFree_97 ?_
  refine g_istore_n (lv' := [(2, .int (s0 &&& s1)), (0, .ref (q 34)), (1, .int x1), (3, .int x3)]) X dX5_isFree_98 rfl (by decide) rfl ?_
  refine g_iinc (v := (1 : Int32)) (lv' := [(3, .int (x3 + (1 : Int32))), (2, .int (s0 &&& s1)), (0, .ref (q 34)), (1, .int x1)]) X dX5_isFree_99 rfl (by decide) (by decide) rfl ?_
  refine g_goto (tgt := 4) X dX5_isFree_102 (by decide) ?_
  exact g_pick [2, 3, 1, 0] rfl (hk4 x1 (s0 &&& s1) (x3 + (1 : Int32)) M)
def fR_isFree_b92 (n : Nat) (k4 : Int32 → Int32 → Int32 → MR → Option (Int32 × MR)) (x1 : Int32) (x3 : Int32) (s0 : Int32) (M : MR) : Option (Int32 × MR) :=
    fR_isFree_b97 n k4 x1 x3 s0 (1 : Int32) M
theorem wR_isFree_b92 (X : gX p s m args meth c cX5_isFree 5 RX5 (some .boolean) D (tyR cI cZ)) (n : Nat) (k4 : Int32 → Int32 → Int32 → MR → Option (Int32 × MR)) (hk4 : ∀ (x1 : Int32) (x2 : Int32) (x3 : Int32) (M : MR), gG p l e (rmR 2 41) s m args below meth c 5 (ZR D cI cZ q (AR q s.heap.size) s.heap M) 0 0 (fun r => MQ below (QI D cI cZ q s.heap.size r) args s 0 0 (AR q s.heap.size)) 4 [(0, .ref (q 34)), (1, .int x1), (2, .int x2), (3, .int x3)] [] (k4 x1 x2 x3 M)) (x1 : Int32) (x3 : Int32) (s0 : Int32) (M : MR) : gG p l e (rmR 2 41) s m args below meth c 5 (ZR D cI cZ q (AR q s.heap.size) s.heap M) 0 0 (fun r => MQ below (QI D cI cZ q s.heap.size r) args s 0 0 (AR q s.heap.size)) 92 [(0, .ref (q 34)), (1, .int x1), (3, .int x3)] [.int s0] (fR_isFree_b92 n k4 x1 x3 s0 M) := by
  unfold fR_isFree_b92
  refine g_iconst (v := (1 : Int32)) X dX5_isFree_92 (by decide) ?_
  refine g_goto (tgt := 97) X dX5_isFree_93 (by decide) ?_
  exact g_pick [0, 1, 2] rfl (wR_isFree_b97 X n k4 hk4 x1 x3 s0 (1 : Int32) M)
def fR_isFree_l4 (n : Nat) : Nat → Int32 → Int32 → Int32 → MR → Option (Int32 × MR)
  | 0, _, _, _, _ => none
  | k + 1, x1, x2, x3, M => bnd (fR_cellAt n x1 M) fun v1 M1 =>
    rd M1 0 62610 (v1 + (8 : Int32)) fun v2 =>
    if v2 ≤ x3 then
      (zt x2 (some (x2, M1)))
    else
      (bnd (fR_cellAt n x1 M1) fun v3 M3 =>
      rd M3 0 62610 ((v3 + (10 : Int32)) + x3) fun v4 =>
      bnd (fR_editAt n v4 M3) fun v5 M5 =>
      rd M5 0 62610 (v5 + (0 : Int32)) fun v6 =>
      bnd (fR_newest n v6 M5) fun v7 M7 =>
      if v7 < 0 then
        (fR_isFree_b92 n (fR_isFree_l4 n k) x1 x3 x2 M7)
      else
        (bnd (fR_editAt n v7 M7) fun v8 M8 =>
        rd M8 0 62610 (v8 + (2 : Int32)) fun v9 =>
        if v9 = x1 then
          (fR_isFree_b92 n (fR_isFree_l4 n k) x1 x3 x2 M8)
        else
          (bnd (fR_editAt n v7 M8) fun v10 M10 =>
          rd M10 0 62610 (v10 + (2 : Int32)) fun v11 =>
          rd M10 29 40 v11 fun v12 =>
          if v12 = 0 then
            (fR_isFree_b92 n (fR_isFree_l4 n k) x1 x3 x2 M10)
          else
            (fR_isFree_b97 n (fR_isFree_l4 n k) x1 x3 x2 (0 : Int32) M10))))
theorem wR_isFree_l4 (X : gX p s m args meth c cX5_isFree 5 RX5 (some .boolean) D (tyR cI cZ)) (n : Nat) : ∀ (k : Nat) (x1 : Int32) (x2 : Int32) (x3 : Int32) (M : MR), gG p l e (rmR 2 41) s m args below meth c 5 (ZR D cI cZ q (AR q s.heap.size) s.heap M) 0 0 (fun r => MQ below (QI D cI cZ q s.heap.size r) args s 0 0 (AR q s.heap.size)) 4 [(0, .ref (q 34)), (1, .int x1), (2, .int x2), (3, .int x3)] [] (fR_isFree_l4 n k x1 x2 x3 M) := by
  intro k
  induction k with
  | zero =>
    intro x1 x2 x3 M
    exact g_none
  | succ k ih =>
    intro x1 x2 x3 M
    rw [fR_isFree_l4]
    refine g_iload_n X dX5_isFree_4 rfl rfl ?_
    refine g_aload_n X dX5_isFree_5 rfl rfl ?_
    refine r_g_m X dX5_isFree_6 ?_
    refine g_iload_n X dX5_isFree_9 rfl rfl ?_
    refine k_cellAt X ⟨Nat.le_of_ble_eq_true rfl, Nat.le_of_ble_eq_true rfl⟩ (Nat.le_of_ble_eq_true rfl) dX5_isFree_10 ?_
    intro v1 M1
    refine g_bipush (v := (8 : Int32)) X dX5_isFree_13 (by decide) ?_
    refine g_iadd X dX5_isFree_15 ?_
    refine r_l_m X dX5_isFree_16 ?_
    intro v2
    refine g_icmp_ge (tgt := 105) X dX5_isFree_17 (by decide) ?_ ?_
    · refine g_iload_n X dX5_isFree_105 rfl rfl ?_
      exact r_zret X dX5_isFree_106
    · refine g_aload_n X dX5_isFree_20 rfl rfl ?_
      refine g_aload_n X dX5_isFree_21 rfl rfl ?_
      refine r_g_m X dX5_isFree_22 ?_
      refine g_aload_n X dX5_isFree_25 rfl rfl ?_
      refine r_g_m X dX5_isFree_26 ?_
      refine g_iload_n X dX5_isFree_29 rfl rfl ?_
      refine k_cellAt X ⟨Nat.le_of_ble_eq_true rfl, Nat.le_of_ble_eq_true rfl⟩ (Nat.le_of_ble_eq_true rfl) dX5_isFree_30 ?_
      intro v3 M3
      refine g_bipush (v := (10 : Int32)) X dX5_isFree_33 (by decide) ?_
      refine g_iadd X dX5_isFree_35 ?_
      refine g_iload_n X dX5_isFree_36 rfl rfl ?_
      refine g_iadd X dX5_isFree_37 ?_
      refine r_l_m X dX5_isFree_38 ?_
      intro v4
      refine k_editAt X ⟨Nat.le_of_ble_eq_true rfl, Nat.le_of_ble_eq_true rfl⟩ (Nat.le_of_ble_eq_true rfl) dX5_isFree_39 ?_
      intro v5 M5
      refine g_iconst (v := (0 : Int32)) X dX5_isFree_42 (by decide) ?_
      refine g_iadd X dX5_isFree_43 ?_
      refine r_l_m X dX5_isFree_44 ?_
      intro v6
      refine k_newest X ⟨Nat.le_of_ble_eq_true rfl, Nat.le_of_ble_eq_true rfl⟩ (Nat.le_of_ble_eq_true rfl) dX5_isFree_45 ?_
      intro v7 M7
      refine g_istore (lv' := [(4, .int v7), (0, .ref (q 34)), (1, .int x1), (2, .int x2), (3, .int x3)]) X dX5_isFree_48 (by decide) rfl ?_
      refine g_iload_n X dX5_isFree_50 rfl rfl ?_
      refine g_iload X dX5_isFree_51 rfl ?_
      refine g_if_lt (tgt := 92) X dX5_isFree_53 (by decide) ?_ ?_
      · exact g_pick [1, 2, 4] rfl (wR_isFree_b92 X n (fR_isFree_l4 n k) ih x1 x3 x2 M7)
      · refine g_aload_n X dX5_isFree_56 rfl rfl ?_
        refine r_g_m X dX5_isFree_57 ?_
        refine g_iload X dX5_isFree_60 rfl ?_
        refine k_editAt X ⟨Nat.le_of_ble_eq_true rfl, Nat.le_of_ble_eq_true rfl⟩ (Nat.le_of_ble_eq_true rfl) dX5_isFree_62 ?_
        intro v8 M8
        refine g_iconst (v := (2 : Int32)) X dX5_isFree_65 (by decide) ?_
        refine g_iadd X dX5_isFree_66 ?_
        refine r_l_m X dX5_isFree_67 ?_
        intro v9
        refine g_iload_n X dX5_isFree_68 rfl rfl ?_
        refine g_icmp_eq (tgt := 92) X dX5_isFree_69 (by decide) ?_ ?_
        · exact g_pick [1, 2, 4] rfl (wR_isFree_b92 X n (fR_isFree_l4 n k) ih x1 x3 x2 M8)
        · refine g_aload_n X dX5_isFree_72 rfl rfl ?_
          refine r_g_waits X dX5_isFree_73 ?_
          refine g_aload_n X dX5_isFree_76 rfl rfl ?_
          refine r_g_m X dX5_isFree_77 ?_
          refine g_iload X dX5_isFree_80 rfl ?_
          refine k_editAt X ⟨Nat.le_of_ble_eq_true rfl, Nat.le_of_ble_eq_true rfl⟩ (Nat.le_of_ble_eq_true rfl) dX5_isFree_82 ?_
          intro v10 M10
          refine g_iconst (v := (2 : Int32)) X dX5_isFree_85 (by decide) ?_
          refine g_iadd X dX5_isFree_86 ?_
          refine r_l_m X dX5_isFree_87 ?_
          intro v11
          refine r_l_waits X dX5_isFree_88 ?_
          intro v12
          refine g_if_ne (tgt := 96) X dX5_isFree_89 (by decide) ?_ ?_
          · refine g_iconst (v := (0 : Int32)) X dX5_isFree_96 (by decide) ?_
            exact g_pick [1, 2, 4] rfl (wR_isFree_b97 X n (fR_isFree_l4 n k) ih x1 x3 x2 (0 : Int32) M10)
          · exact g_pick [1, 2, 4] rfl (wR_isFree_b92 X n (fR_isFree_l4 n k) ih x1 x3 x2 M10)
def fR_isFree (n : Nat) (x1 : Int32) (M : MR) : Option (Int32 × MR) :=
    fR_isFree_l4 n n x1 (1 : Int32) (0 : Int32) M
theorem c_isFree (l : Launch) (D : va_G) (cI cZ : ClassId) (q : Nat → Nat) (n : Nat) (x1 : Int32) (M : MR) : MetR l D cI cZ q yX5_isFree cX5_isFree 5 (some .boolean) 2 41 QI [.ref (q 34), .int x1] M (fR_isFree n x1 M) := by
  refine MetR.of (by decide) rfl (Nat.le_of_ble_eq_true rfl) ?_
  intro p e s m args below meth c X
  unfold fR_isFree
  refine g_pick (lv' := [(0, .ref (q 34)), (1, .int x1)]) [0, 1] rfl ?_
  refine g_iconst (v := (1 : Int32)) X dX5_isFree_0 (by decide) ?_
  refine g_istore_n (lv' := [(2, .int (1 : Int32)), (0, .ref (q 34)), (1, .int x1)]) X dX5_isFree_1 rfl (by decide) rfl ?_
  refine g_iconst (v := (0 : Int32)) X dX5_isFree_2 (by decide) ?_
  refine g_istore_n (lv' := [(3, .int (0 : Int32)), (2, .int (1 : Int32)), (0, .ref (q 34)), (1, .int x1)]) X dX5_isFree_3 rfl (by decide) rfl ?_
  exact g_pick [2, 3, 1, 0] rfl (wR_isFree_l4 X n n x1 (1 : Int32) (0 : Int32) M)
theorem tc_isFree : Cond.code yX5_isFree cX5_isFree 5 (some .boolean) ∈ tt := tt_in (List.mem_of_getElem? (i := 1083) (by decide +kernel)) (by decide +kernel)
theorem tl_isFree : Cond.methodLink RX5 260 yX5_isFree ∈ tt := tt_in (List.mem_of_getElem? (i := 1080) (by decide +kernel)) (by decide +kernel)
theorem ti_isFree : Cond.instanceMethod yX5_isFree ∈ tt := tt_in (List.mem_of_getElem? (i := 1082) (by decide +kernel)) (by decide +kernel)
theorem te_isFree : Cond.selects RX5 yX5_isFree yX5_isFree ∈ tt := tt_in (List.mem_of_getElem? (i := 78) (by decide +kernel)) (by decide +kernel)
theorem k_isFree (X : gX p s m args meth c cc nL RX5 rt D (tyR cI cZ)) {n : Nat} {x1 : Int32} {M : MR} {rest : List Value} {K : Int32 → MR → Option ρ} (hR : 2 + 1 ≤ R.frames ∧ 8 + (5 + 11) + 41 ≤ R.locals) (hcat : (rest.map fun v => v.category).sum ≤ 8) (d : decode cc pc = .ok (.invokevirtual 260, 3)) (kk : ∀ v M1, gG p l e R s m args below meth c nL (ZR D cI cZ q (AR q s.heap.size) s.heap M1) 0 0 QQ (pc + 3) lv (.int v :: rest) (K v M1)) : gG p l e R s m args below meth c nL (ZR D cI cZ q (AR q s.heap.size) s.heap M) 0 0 QQ pc lv (.int x1 :: .ref (q 34) :: rest) (bnd (fR_isFree n x1 M) K) := r_callVi (As := [.int x1]) X (c_isFree l D cI cZ q n x1 M) (cwVR (k := 1) X.2.2.2.2.1 tl_isFree ti_isFree te_isFree tc_isFree ini5 (by decide +kernel) hR) rfl rfl hcat d kk
-- rerunStale
def fR_rerunStale_b45 (n : Nat) (k8 : Int32 → Int32 → MR → Option (Int32 × MR)) (x2 : Int32) (s0 : Int32) (s1 : Int32) (M : MR) : Option (Int32 × MR) :=
    k8 (s0 + s1) (x2 + (1 : Int32)) M
theorem wR_rerunStale_b45 (X : gX p s m args meth c cX5_rerunStale 7 RX5 (some .int) D (tyR cI cZ)) (n : Nat) (k8 : Int32 → Int32 → MR → Option (Int32 × MR)) (hk8 : ∀ (x1 : Int32) (x2 : Int32) (M : MR), gG p l e (rmR 10 231) s m args below meth c 7 (ZR D cI cZ q (AR q s.heap.size) s.heap M) 0 0 (fun r => MQ below (QI D cI cZ q s.heap.size r) args s 0 0 (AR q s.heap.size)) 8 [(0, .ref (q 34)), (1, .int x1), (2, .int x2)] [] (k8 x1 x2 M)) (x2 : Int32) (s0 : Int32) (s1 : Int32) (M : MR) : gG p l e (rmR 10 231) s m args below meth c 7 (ZR D cI cZ q (AR q s.heap.size) s.heap M) 0 0 (fun r => MQ below (QI D cI cZ q s.heap.size r) args s 0 0 (AR q s.heap.size)) 45 [(0, .ref (q 34)), (2, .int x2)] [.int s1, .int s0] (fR_rerunStale_b45 n k8 x2 s0 s1 M) := by
  unfold fR_rerunStale_b45
  refine g_iadd X dX5_rerunStale_45 ?_
  refine g_istore_n (lv' := [(1, .int (s0 + s1)), (0, .ref (q 34)), (2, .int x2)]) X dX5_rerunStale_46 rfl (by decide) rfl ?_
  refine g_iinc (v := (1 : Int32)) (lv' := [(2, .int (x2 + (1 : Int32))), (1, .int (s0 + s1)), (0, .ref (q 34))]) X dX5_rerunStale_47 rfl (by decide) (by decide) rfl ?_
  refine g_goto (tgt := 8) X dX5_rerunStale_50 (by decide) ?_
  exact g_pick [2, 1, 0] rfl (hk8 (s0 + s1) (x2 + (1 : Int32)) M)
def fR_rerunStale_b145 (n : Nat) (k74 : Int32 → Int32 → Int32 → MR → Option (Int32 × MR)) (k95 : Int32 → Int32 → Int32 → Int32 → Int32 → Int32 → MR → Option (Int32 × MR)) (x1 : Int32) (x2 : Int32) (x3 : Int32) (x5 : Int32) (x6 : Int32) (s0 : Int32) (M : MR) : Option (Int32 × MR) :=
    k95 x1 x2 x3 s0 x5 (x6 + (-1 : Int32)) M
theorem wR_rerunStale_b145 (X : gX p s m args meth c cX5_rerunStale 7 RX5 (some .int) D (tyR cI cZ)) (n : Nat) (k74 : Int32 → Int32 → Int32 → MR → Option (Int32 × MR)) (k95 : Int32 → Int32 → Int32 → Int32 → Int32 → Int32 → MR → Option (Int32 × MR)) (hk74 : ∀ (x1 : Int32) (x2 : Int32) (x3 : Int32) (M : MR), gG p l e (rmR 10 231) s m args below meth c 7 (ZR D cI cZ q (AR q s.heap.size) s.heap M) 0 0 (fun r => MQ below (QI D cI cZ q s.heap.size r) args s 0 0 (AR q s.heap.size)) 74 [(0, .ref (q 34)), (1, .int x1), (2, .int x2), (3, .int x3)] [] (k74 x1 x2 x3 M)) (hk95 : ∀ (x1 : Int32) (x2 : Int32) (x3 : Int32) (x4 : Int32) (x5 : Int32) (x6 : Int32) (M : MR), gG p l e (rmR 10 231) s m args below meth c 7 (ZR D cI cZ q (AR q s.heap.size) s.heap M) 0 0 (fun r => MQ below (QI D cI cZ q s.heap.size r) args s 0 0 (AR q s.heap.size)) 95 [(0, .ref (q 34)), (1, .int x1), (2, .int x2), (3, .int x3), (4, .int x4), (5, .int x5), (6, .int x6)] [] (k95 x1 x2 x3 x4 x5 x6 M)) (x1 : Int32) (x2 : Int32) (x3 : Int32) (x5 : Int32) (x6 : Int32) (s0 : Int32) (M : MR) : gG p l e (rmR 10 231) s m args below meth c 7 (ZR D cI cZ q (AR q s.heap.size) s.heap M) 0 0 (fun r => MQ below (QI D cI cZ q s.heap.size r) args s 0 0 (AR q s.heap.size)) 145 [(0, .ref (q 34)), (1, .int x1), (2, .int x2), (3, .int x3), (5, .int x5), (6, .int x6)] [.int s0] (fR_rerunStale_b145 n k74 k95 x1 x2 x3 x5 x6 s0 M) := by
  unfold fR_rerunStale_b145
  refine g_istore (lv' := [(4, .int s0), (0, .ref (q 34)), (1, .int x1), (2, .int x2), (3, .int x3), (5, .int x5), (6, .int x6)]) X dX5_rerunStale_145 (by decide) rfl ?_
  refine g_iinc (v := (-1 : Int32)) (lv' := [(6, .int (x6 + (-1 : Int32))), (4, .int s0), (0, .ref (q 34)), (1, .int x1), (2, .int x2), (3, .int x3), (5, .int x5)]) X dX5_rerunStale_147 rfl (by decide) (by decide) rfl ?_
  refine g_goto (tgt := 95) X dX5_rerunStale_150 (by decide) ?_
  exact g_pick [2, 3, 4, 5, 1, 6, 0] rfl (hk95 x1 x2 x3 s0 x5 (x6 + (-1 : Int32)) M)
def fR_rerunStale_b143 (n : Nat) (k74 : Int32 → Int32 → Int32 → MR → Option (Int32 × MR)) (k95 : Int32 → Int32 → Int32 → Int32 → Int32 → Int32 → MR → Option (Int32 × MR)) (x1 : Int32) (x2 : Int32) (x3 : Int32) (x4 : Int32) (x5 : Int32) (x6 : Int32) (M : MR) : Option (Int32 × MR) :=
    fR_rerunStale_b145 n k74 k95 x1 x2 x3 x5 x6 x4 M
theorem wR_rerunStale_b143 (X : gX p s m args meth c cX5_rerunStale 7 RX5 (some .int) D (tyR cI cZ)) (n : Nat) (k74 : Int32 → Int32 → Int32 → MR → Option (Int32 × MR)) (k95 : Int32 → Int32 → Int32 → Int32 → Int32 → Int32 → MR → Option (Int32 × MR)) (hk74 : ∀ (x1 : Int32) (x2 : Int32) (x3 : Int32) (M : MR), gG p l e (rmR 10 231) s m args below meth c 7 (ZR D cI cZ q (AR q s.heap.size) s.heap M) 0 0 (fun r => MQ below (QI D cI cZ q s.heap.size r) args s 0 0 (AR q s.heap.size)) 74 [(0, .ref (q 34)), (1, .int x1), (2, .int x2), (3, .int x3)] [] (k74 x1 x2 x3 M)) (hk95 : ∀ (x1 : Int32) (x2 : Int32) (x3 : Int32) (x4 : Int32) (x5 : Int32) (x6 : Int32) (M : MR), gG p l e (rmR 10 231) s m args below meth c 7 (ZR D cI cZ q (AR q s.heap.size) s.heap M) 0 0 (fun r => MQ below (QI D cI cZ q s.heap.size r) args s 0 0 (AR q s.heap.size)) 95 [(0, .ref (q 34)), (1, .int x1), (2, .int x2), (3, .int x3), (4, .int x4), (5, .int x5), (6, .int x6)] [] (k95 x1 x2 x3 x4 x5 x6 M)) (x1 : Int32) (x2 : Int32) (x3 : Int32) (x4 : Int32) (x5 : Int32) (x6 : Int32) (M : MR) : gG p l e (rmR 10 231) s m args below meth c 7 (ZR D cI cZ q (AR q s.heap.size) s.heap M) 0 0 (fun r => MQ below (QI D cI cZ q s.heap.size r) args s 0 0 (AR q s.heap.size)) 143 [(0, .ref (q 34)), (1, .int x1), (2, .int x2), (3, .int x3), (4, .int x4), (5, .int x5), (6, .int x6)] [] (fR_rerunStale_b143 n k74 k95 x1 x2 x3 x4 x5 x6 M) := by
  unfold fR_rerunStale_b143
  refine g_iload X dX5_rerunStale_143 rfl ?_
  exact g_pick [0, 1, 2, 3, 5, 6] rfl (wR_rerunStale_b145 X n k74 k95 hk74 hk95 x1 x2 x3 x5 x6 x4 M)
def fR_rerunStale_b117 (n : Nat) (k74 : Int32 → Int32 → Int32 → MR → Option (Int32 × MR)) (k95 : Int32 → Int32 → Int32 → Int32 → Int32 → Int32 → MR → Option (Int32 × MR)) (x1 : Int32) (x2 : Int32) (x3 : Int32) (x4 : Int32) (x6 : Int32) (s0 : Int32) (M : MR) : Option (Int32 × MR) :=
    rd M 29 40 x6 fun v1 =>
    if v1 = 0 then
      (fR_rerunStale_b143 n k74 k95 x1 x2 x3 x4 s0 x6 M)
    else
      (bnd (fR_isFree n x6 M) fun v2 M2 =>
      if v2 = 0 then
        (fR_rerunStale_b143 n k74 k95 x1 x2 x3 x4 s0 x6 M2)
      else
        (fR_rerunStale_b145 n k74 k95 x1 x2 x3 s0 x6 x6 M2))
theorem wR_rerunStale_b117 (X : gX p s m args meth c cX5_rerunStale 7 RX5 (some .int) D (tyR cI cZ)) (n : Nat) (k74 : Int32 → Int32 → Int32 → MR → Option (Int32 × MR)) (k95 : Int32 → Int32 → Int32 → Int32 → Int32 → Int32 → MR → Option (Int32 × MR)) (hk74 : ∀ (x1 : Int32) (x2 : Int32) (x3 : Int32) (M : MR), gG p l e (rmR 10 231) s m args below meth c 7 (ZR D cI cZ q (AR q s.heap.size) s.heap M) 0 0 (fun r => MQ below (QI D cI cZ q s.heap.size r) args s 0 0 (AR q s.heap.size)) 74 [(0, .ref (q 34)), (1, .int x1), (2, .int x2), (3, .int x3)] [] (k74 x1 x2 x3 M)) (hk95 : ∀ (x1 : Int32) (x2 : Int32) (x3 : Int32) (x4 : Int32) (x5 : Int32) (x6 : Int32) (M : MR), gG p l e (rmR 10 231) s m args below meth c 7 (ZR D cI cZ q (AR q s.heap.size) s.heap M) 0 0 (fun r => MQ below (QI D cI cZ q s.heap.size r) args s 0 0 (AR q s.heap.size)) 95 [(0, .ref (q 34)), (1, .int x1), (2, .int x2), (3, .int x3), (4, .int x4), (5, .int x5), (6, .int x6)] [] (k95 x1 x2 x3 x4 x5 x6 M)) (x1 : Int32) (x2 : Int32) (x3 : Int32) (x4 : Int32) (x6 : Int32) (s0 : Int32) (M : MR) : gG p l e (rmR 10 231) s m args below meth c 7 (ZR D cI cZ q (AR q s.heap.size) s.heap M) 0 0 (fun r => MQ below (QI D cI cZ q s.heap.size r) args s 0 0 (AR q s.heap.size)) 117 [(0, .ref (q 34)), (1, .int x1), (2, .int x2), (3, .int x3), (4, .int x4), (6, .int x6)] [.int s0] (fR_rerunStale_b117 n k74 k95 x1 x2 x3 x4 x6 s0 M) := by
  unfold fR_rerunStale_b117
  refine g_istore (lv' := [(5, .int s0), (0, .ref (q 34)), (1, .int x1), (2, .int x2), (3, .int x3), (4, .int x4), (6, .int x6)]) X dX5_rerunStale_117 (by decide) rfl ?_
  refine g_aload_n X dX5_rerunStale_119 rfl rfl ?_
  refine r_g_waits X dX5_rerunStale_120 ?_
  refine g_iload X dX5_rerunStale_123 rfl ?_
  refine r_l_waits X dX5_rerunStale_125 ?_
  intro v1
  refine g_if_eq (tgt := 143) X dX5_rerunStale_126 (by decide) ?_ ?_
  · exact g_pick [1, 2, 3, 4, 5, 0, 6] rfl (wR_rerunStale_b143 X n k74 k95 hk74 hk95 x1 x2 x3 x4 s0 x6 M)
  · refine g_aload_n X dX5_rerunStale_129 rfl rfl ?_
    refine g_iload X dX5_rerunStale_130 rfl ?_
    refine k_isFree X ⟨Nat.le_of_ble_eq_true rfl, Nat.le_of_ble_eq_true rfl⟩ (Nat.le_of_ble_eq_true rfl) dX5_rerunStale_132 ?_
    intro v2 M2
    refine g_if_eq (tgt := 143) X dX5_rerunStale_135 (by decide) ?_ ?_
    · exact g_pick [1, 2, 3, 4, 5, 0, 6] rfl (wR_rerunStale_b143 X n k74 k95 hk74 hk95 x1 x2 x3 x4 s0 x6 M2)
    · refine g_iload X dX5_rerunStale_138 rfl ?_
      refine g_goto (tgt := 145) X dX5_rerunStale_140 (by decide) ?_
      exact g_pick [1, 2, 3, 4, 0, 6] rfl (wR_rerunStale_b145 X n k74 k95 hk74 hk95 x1 x2 x3 s0 x6 x6 M2)
def fR_rerunStale_b195 (n : Nat) (k74 : Int32 → Int32 → Int32 → MR → Option (Int32 × MR)) (x1 : Int32) (x2 : Int32) (x3 : Int32) (M : MR) : Option (Int32 × MR) :=
    k74 x1 x2 (x3 + (1 : Int32)) M
theorem wR_rerunStale_b195 (X : gX p s m args meth c cX5_rerunStale 7 RX5 (some .int) D (tyR cI cZ)) (n : Nat) (k74 : Int32 → Int32 → Int32 → MR → Option (Int32 × MR)) (hk74 : ∀ (x1 : Int32) (x2 : Int32) (x3 : Int32) (M : MR), gG p l e (rmR 10 231) s m args below meth c 7 (ZR D cI cZ q (AR q s.heap.size) s.heap M) 0 0 (fun r => MQ below (QI D cI cZ q s.heap.size r) args s 0 0 (AR q s.heap.size)) 74 [(0, .ref (q 34)), (1, .int x1), (2, .int x2), (3, .int x3)] [] (k74 x1 x2 x3 M)) (x1 : Int32) (x2 : Int32) (x3 : Int32) (M : MR) : gG p l e (rmR 10 231) s m args below meth c 7 (ZR D cI cZ q (AR q s.heap.size) s.heap M) 0 0 (fun r => MQ below (QI D cI cZ q s.heap.size r) args s 0 0 (AR q s.heap.size)) 195 [(0, .ref (q 34)), (1, .int x1), (2, .int x2), (3, .int x3)] [] (fR_rerunStale_b195 n k74 x1 x2 x3 M) := by
  unfold fR_rerunStale_b195
  refine g_iinc (v := (1 : Int32)) (lv' := [(3, .int (x3 + (1 : Int32))), (0, .ref (q 34)), (1, .int x1), (2, .int x2)]) X dX5_rerunStale_195 rfl (by decide) (by decide) rfl ?_
  refine g_goto (tgt := 74) X dX5_rerunStale_198 (by decide) ?_
  exact g_pick [1, 2, 3, 0] rfl (hk74 x1 x2 (x3 + (1 : Int32)) M)
def fR_rerunStale_b165 (n : Nat) (k74 : Int32 → Int32 → Int32 → MR → Option (Int32 × MR)) (x1 : Int32) (x2 : Int32) (x3 : Int32) (s0 : Int32) (M : MR) : Option (Int32 × MR) :=
    wz M 29 40 s0 (0 : Int32) fun M1 =>
    bnd (fR_lookAtCell n s0 M1) fun v2 M2 =>
    if 0 ≤ v2 then
      (fR_rerunStale_b195 n k74 x1 x2 x3 M2)
    else
      (bnd (fR_run n s0 M2) fun v3 M3 =>
      fR_rerunStale_b195 n k74 x1 (x2 + (1 : Int32)) x3 M3)
theorem wR_rerunStale_b165 (X : gX p s m args meth c cX5_rerunStale 7 RX5 (some .int) D (tyR cI cZ)) (n : Nat) (k74 : Int32 → Int32 → Int32 → MR → Option (Int32 × MR)) (hk74 : ∀ (x1 : Int32) (x2 : Int32) (x3 : Int32) (M : MR), gG p l e (rmR 10 231) s m args below meth c 7 (ZR D cI cZ q (AR q s.heap.size) s.heap M) 0 0 (fun r => MQ below (QI D cI cZ q s.heap.size r) args s 0 0 (AR q s.heap.size)) 74 [(0, .ref (q 34)), (1, .int x1), (2, .int x2), (3, .int x3)] [] (k74 x1 x2 x3 M)) (x1 : Int32) (x2 : Int32) (x3 : Int32) (s0 : Int32) (M : MR) : gG p l e (rmR 10 231) s m args below meth c 7 (ZR D cI cZ q (AR q s.heap.size) s.heap M) 0 0 (fun r => MQ below (QI D cI cZ q s.heap.size r) args s 0 0 (AR q s.heap.size)) 165 [(0, .ref (q 34)), (1, .int x1), (2, .int x2), (3, .int x3)] [.int s0] (fR_rerunStale_b165 n k74 x1 x2 x3 s0 M) := by
  unfold fR_rerunStale_b165
  refine g_istore (lv' := [(4, .int s0), (0, .ref (q 34)), (1, .int x1), (2, .int x2), (3, .int x3)]) X dX5_rerunStale_165 (by decide) rfl ?_
  refine g_aload_n X dX5_rerunStale_167 rfl rfl ?_
  refine r_g_waits X dX5_rerunStale_168 ?_
  refine g_iload X dX5_rerunStale_171 rfl ?_
  refine g_iconst (v := (0 : Int32)) X dX5_rerunStale_173 (by decide) ?_
  refine r_s_waits X dX5_rerunStale_174 ?_
  intro M1
  refine g_aload_n X dX5_rerunStale_175 rfl rfl ?_
  refine g_iload X dX5_rerunStale_176 rfl ?_
  refine k_lookAtCell X ⟨Nat.le_of_ble_eq_true rfl, Nat.le_of_ble_eq_true rfl⟩ (Nat.le_of_ble_eq_true rfl) dX5_rerunStale_178 ?_
  intro v2 M2
  refine g_if_ge (tgt := 195) X dX5_rerunStale_181 (by decide) ?_ ?_
  · exact g_pick [1, 2, 3, 4] rfl (wR_rerunStale_b195 X n k74 hk74 x1 x2 x3 M2)
  · refine g_aload_n X dX5_rerunStale_184 rfl rfl ?_
    refine g_iload X dX5_rerunStale_185 rfl ?_
    refine k_run X ⟨Nat.le_of_ble_eq_true rfl, Nat.le_of_ble_eq_true rfl⟩ (Nat.le_of_ble_eq_true rfl) dX5_rerunStale_187 ?_
    intro v3 M3
    refine g_istore (lv' := [(6, .int v3), (4, .int s0), (0, .ref (q 34)), (1, .int x1), (2, .int x2), (3, .int x3)]) X dX5_rerunStale_190 (by decide) rfl ?_
    refine g_iinc (v := (1 : Int32)) (lv' := [(2, .int (x2 + (1 : Int32))), (6, .int v3), (4, .int s0), (0, .ref (q 34)), (1, .int x1), (3, .int x3)]) X dX5_rerunStale_192 rfl (by decide) (by decide) rfl ?_
    exact g_pick [3, 4, 0, 5] rfl (wR_rerunStale_b195 X n k74 hk74 x1 (x2 + (1 : Int32)) x3 M3)
def fR_rerunStale_l95 (n : Nat) (k74 : Int32 → Int32 → Int32 → MR → Option (Int32 × MR)) : Nat → Int32 → Int32 → Int32 → Int32 → Int32 → Int32 → MR → Option (Int32 × MR)
  | 0, _, _, _, _, _, _, _ => none
  | k + 1, x1, x2, x3, x4, x5, x6, M => if x6 < 0 then
      (if 0 ≤ x4 then (fR_rerunStale_b165 n k74 x1 x2 x3 x4 M) else (fR_rerunStale_b165 n k74 x1 x2 x3 x5 M))
    else
      (rd M 29 40 x6 fun v1 =>
      if v1 = 0 then
        (fR_rerunStale_b117 n k74 (fR_rerunStale_l95 n k74 k) x1 x2 x3 x4 x6 x5 M)
      else
        (fR_rerunStale_b117 n k74 (fR_rerunStale_l95 n k74 k) x1 x2 x3 x4 x6 x6 M))
theorem wR_rerunStale_l95 (X : gX p s m args meth c cX5_rerunStale 7 RX5 (some .int) D (tyR cI cZ)) (n : Nat) (k74 : Int32 → Int32 → Int32 → MR → Option (Int32 × MR)) (hk74 : ∀ (x1 : Int32) (x2 : Int32) (x3 : Int32) (M : MR), gG p l e (rmR 10 231) s m args below meth c 7 (ZR D cI cZ q (AR q s.heap.size) s.heap M) 0 0 (fun r => MQ below (QI D cI cZ q s.heap.size r) args s 0 0 (AR q s.heap.size)) 74 [(0, .ref (q 34)), (1, .int x1), (2, .int x2), (3, .int x3)] [] (k74 x1 x2 x3 M)) : ∀ (k : Nat) (x1 : Int32) (x2 : Int32) (x3 : Int32) (x4 : Int32) (x5 : Int32) (x6 : Int32) (M : MR), gG p l e (rmR 10 231) s m args below meth c 7 (ZR D cI cZ q (AR q s.heap.size) s.heap M) 0 0 (fun r => MQ below (QI D cI cZ q s.heap.size r) args s 0 0 (AR q s.heap.size)) 95 [(0, .ref (q 34)), (1, .int x1), (2, .int x2), (3, .int x3), (4, .int x4), (5, .int x5), (6, .int x6)] [] (fR_rerunStale_l95 n k74 k x1 x2 x3 x4 x5 x6 M) := by
  intro k
  induction k with
  | zero =>
    intro x1 x2 x3 x4 x5 x6 M
    exact g_none
  | succ k ih =>
    intro x1 x2 x3 x4 x5 x6 M
    rw [fR_rerunStale_l95]
    refine g_iload X dX5_rerunStale_95 rfl ?_
    refine g_if_lt (tgt := 153) X dX5_rerunStale_97 (by decide) ?_ ?_
    · refine g_iload X dX5_rerunStale_153 rfl ?_
      refine g_if_ge (tgt := 163) X dX5_rerunStale_155 (by decide) ?_ ?_
      · refine g_iload X dX5_rerunStale_163 rfl ?_
        exact g_pick [0, 1, 2, 3] rfl (wR_rerunStale_b165 X n k74 hk74 x1 x2 x3 x4 M)
      · refine g_iload X dX5_rerunStale_158 rfl ?_
        refine g_goto (tgt := 165) X dX5_rerunStale_160 (by decide) ?_
        exact g_pick [0, 1, 2, 3] rfl (wR_rerunStale_b165 X n k74 hk74 x1 x2 x3 x5 M)
    · refine g_aload_n X dX5_rerunStale_100 rfl rfl ?_
      refine r_g_waits X dX5_rerunStale_101 ?_
      refine g_iload X dX5_rerunStale_104 rfl ?_
      refine r_l_waits X dX5_rerunStale_106 ?_
      intro v1
      refine g_if_eq (tgt := 115) X dX5_rerunStale_107 (by decide) ?_ ?_
      · refine g_iload X dX5_rerunStale_115 rfl ?_
        exact g_pick [0, 1, 2, 3, 4, 6] rfl (wR_rerunStale_b117 X n k74 (fR_rerunStale_l95 n k74 k) hk74 ih x1 x2 x3 x4 x6 x5 M)
      · refine g_iload X dX5_rerunStale_110 rfl ?_
        refine g_goto (tgt := 117) X dX5_rerunStale_112 (by decide) ?_
        exact g_pick [0, 1, 2, 3, 4, 6] rfl (wR_rerunStale_b117 X n k74 (fR_rerunStale_l95 n k74 k) hk74 ih x1 x2 x3 x4 x6 x6 M)
def fR_rerunStale_l74 (n : Nat) : Nat → Int32 → Int32 → Int32 → MR → Option (Int32 × MR)
  | 0, _, _, _, _ => none
  | k + 1, x1, x2, x3, M => if x1 ≤ x3 then
      (some (x2, M))
    else
      (rd M 0 62610 (0 : Int32) fun v1 =>
      fR_rerunStale_l95 n (fR_rerunStale_l74 n k) n x1 x2 x3 (-1 : Int32) (-1 : Int32) (v1 - (1 : Int32)) M)
theorem wR_rerunStale_l74 (X : gX p s m args meth c cX5_rerunStale 7 RX5 (some .int) D (tyR cI cZ)) (n : Nat) : ∀ (k : Nat) (x1 : Int32) (x2 : Int32) (x3 : Int32) (M : MR), gG p l e (rmR 10 231) s m args below meth c 7 (ZR D cI cZ q (AR q s.heap.size) s.heap M) 0 0 (fun r => MQ below (QI D cI cZ q s.heap.size r) args s 0 0 (AR q s.heap.size)) 74 [(0, .ref (q 34)), (1, .int x1), (2, .int x2), (3, .int x3)] [] (fR_rerunStale_l74 n k x1 x2 x3 M) := by
  intro k
  induction k with
  | zero =>
    intro x1 x2 x3 M
    exact g_none
  | succ k ih =>
    intro x1 x2 x3 M
    rw [fR_rerunStale_l74]
    refine g_iload_n X dX5_rerunStale_74 rfl rfl ?_
    refine g_iload_n X dX5_rerunStale_75 rfl rfl ?_
    refine g_icmp_ge (tgt := 201) X dX5_rerunStale_76 (by decide) ?_ ?_
    · refine g_iload_n X dX5_rerunStale_201 rfl rfl ?_
      exact r_iret X dX5_rerunStale_202
    · refine g_iconst (v := (-1 : Int32)) X dX5_rerunStale_79 (by decide) ?_
      refine g_istore (lv' := [(4, .int (-1 : Int32)), (0, .ref (q 34)), (1, .int x1), (2, .int x2), (3, .int x3)]) X dX5_rerunStale_80 (by decide) rfl ?_
      refine g_iconst (v := (-1 : Int32)) X dX5_rerunStale_82 (by decide) ?_
      refine g_istore (lv' := [(5, .int (-1 : Int32)), (4, .int (-1 : Int32)), (0, .ref (q 34)), (1, .int x1), (2, .int x2), (3, .int x3)]) X dX5_rerunStale_83 (by decide) rfl ?_
      refine g_aload_n X dX5_rerunStale_85 rfl rfl ?_
      refine r_g_m X dX5_rerunStale_86 ?_
      refine g_iconst (v := (0 : Int32)) X dX5_rerunStale_89 (by decide) ?_
      refine r_l_m X dX5_rerunStale_90 ?_
      intro v1
      refine g_iconst (v := (1 : Int32)) X dX5_rerunStale_91 (by decide) ?_
      refine g_isub X dX5_rerunStale_92 ?_
      refine g_istore (lv' := [(6, .int (v1 - (1 : Int32))), (5, .int (-1 : Int32)), (4, .int (-1 : Int32)), (0, .ref (q 34)), (1, .int x1), (2, .int x2), (3, .int x3)]) X dX5_rerunStale_93 (by decide) rfl ?_
      exact g_pick [3, 4, 5, 6, 2, 1, 0] rfl (wR_rerunStale_l95 X n (fR_rerunStale_l74 n k) ih n x1 x2 x3 (-1 : Int32) (-1 : Int32) (v1 - (1 : Int32)) M)
def fR_rerunStale_l8 (n : Nat) : Nat → Int32 → Int32 → MR → Option (Int32 × MR)
  | 0, _, _, _ => none
  | k + 1, x1, x2, M => rd M 0 62610 (0 : Int32) fun v1 =>
    if v1 ≤ x2 then
      (rd M 0 62610 (1 : Int32) fun v2 =>
      if (v2 + x1) ≤ (150 : Int32) then (fR_rerunStale_l74 n n x1 (0 : Int32) (0 : Int32) M) else (some ((-2 : Int32), M)))
    else
      (rd M 28 40 x2 fun v3 =>
      wz M 29 40 x2 v3 fun M4 =>
      rd M4 28 40 x2 fun v5 =>
      if v5 = 0 then
        (fR_rerunStale_b45 n (fR_rerunStale_l8 n k) x2 x1 (0 : Int32) M4)
      else
        (fR_rerunStale_b45 n (fR_rerunStale_l8 n k) x2 x1 (1 : Int32) M4))
theorem wR_rerunStale_l8 (X : gX p s m args meth c cX5_rerunStale 7 RX5 (some .int) D (tyR cI cZ)) (n : Nat) : ∀ (k : Nat) (x1 : Int32) (x2 : Int32) (M : MR), gG p l e (rmR 10 231) s m args below meth c 7 (ZR D cI cZ q (AR q s.heap.size) s.heap M) 0 0 (fun r => MQ below (QI D cI cZ q s.heap.size r) args s 0 0 (AR q s.heap.size)) 8 [(0, .ref (q 34)), (1, .int x1), (2, .int x2)] [] (fR_rerunStale_l8 n k x1 x2 M) := by
  intro k
  induction k with
  | zero =>
    intro x1 x2 M
    exact g_none
  | succ k ih =>
    intro x1 x2 M
    rw [fR_rerunStale_l8]
    refine g_iload_n X dX5_rerunStale_8 rfl rfl ?_
    refine g_aload_n X dX5_rerunStale_9 rfl rfl ?_
    refine r_g_m X dX5_rerunStale_10 ?_
    refine g_iconst (v := (0 : Int32)) X dX5_rerunStale_13 (by decide) ?_
    refine r_l_m X dX5_rerunStale_14 ?_
    intro v1
    refine g_icmp_ge (tgt := 53) X dX5_rerunStale_15 (by decide) ?_ ?_
    · refine g_aload_n X dX5_rerunStale_53 rfl rfl ?_
      refine r_g_m X dX5_rerunStale_54 ?_
      refine g_iconst (v := (1 : Int32)) X dX5_rerunStale_57 (by decide) ?_
      refine r_l_m X dX5_rerunStale_58 ?_
      intro v2
      refine g_iload_n X dX5_rerunStale_59 rfl rfl ?_
      refine g_iadd X dX5_rerunStale_60 ?_
      refine g_sipush (v := (150 : Int32)) X dX5_rerunStale_61 (by decide) ?_
      refine g_icmp_le (tgt := 70) X dX5_rerunStale_64 (by decide) ?_ ?_
      · refine g_iconst (v := (0 : Int32)) X dX5_rerunStale_70 (by decide) ?_
        refine g_istore_n (lv' := [(2, .int (0 : Int32)), (0, .ref (q 34)), (1, .int x1)]) X dX5_rerunStale_71 rfl (by decide) rfl ?_
        refine g_iconst (v := (0 : Int32)) X dX5_rerunStale_72 (by decide) ?_
        refine g_istore_n (lv' := [(3, .int (0 : Int32)), (2, .int (0 : Int32)), (0, .ref (q 34)), (1, .int x1)]) X dX5_rerunStale_73 rfl (by decide) rfl ?_
        exact g_pick [2, 3, 1, 0] rfl (wR_rerunStale_l74 X n n x1 (0 : Int32) (0 : Int32) M)
      · refine g_bipush (v := (-2 : Int32)) X dX5_rerunStale_67 (by decide) ?_
        exact r_iret X dX5_rerunStale_69
    · refine g_aload_n X dX5_rerunStale_18 rfl rfl ?_
      refine r_g_waits X dX5_rerunStale_19 ?_
      refine g_iload_n X dX5_rerunStale_22 rfl rfl ?_
      refine g_aload_n X dX5_rerunStale_23 rfl rfl ?_
      refine r_g_isStale X dX5_rerunStale_24 ?_
      refine g_iload_n X dX5_rerunStale_27 rfl rfl ?_
      refine r_l_isStale X dX5_rerunStale_28 ?_
      intro v3
      refine r_s_waits X dX5_rerunStale_29 ?_
      intro M4
      refine g_iload_n X dX5_rerunStale_30 rfl rfl ?_
      refine g_aload_n X dX5_rerunStale_31 rfl rfl ?_
      refine r_g_isStale X dX5_rerunStale_32 ?_
      refine g_iload_n X dX5_rerunStale_35 rfl rfl ?_
      refine r_l_isStale X dX5_rerunStale_36 ?_
      intro v5
      refine g_if_eq (tgt := 44) X dX5_rerunStale_37 (by decide) ?_ ?_
      · refine g_iconst (v := (0 : Int32)) X dX5_rerunStale_44 (by decide) ?_
        exact g_pick [0, 2] rfl (wR_rerunStale_b45 X n (fR_rerunStale_l8 n k) ih x2 x1 (0 : Int32) M4)
      · refine g_iconst (v := (1 : Int32)) X dX5_rerunStale_40 (by decide) ?_
        refine g_goto (tgt := 45) X dX5_rerunStale_41 (by decide) ?_
        exact g_pick [0, 2] rfl (wR_rerunStale_b45 X n (fR_rerunStale_l8 n k) ih x2 x1 (1 : Int32) M4)
def fR_rerunStale (n : Nat) (M : MR) : Option (Int32 × MR) :=
    bnd (fR_tellStale n M) fun _ M1 =>
    fR_rerunStale_l8 n n (0 : Int32) (0 : Int32) M1
theorem c_rerunStale (l : Launch) (D : va_G) (cI cZ : ClassId) (q : Nat → Nat) (n : Nat) (M : MR) : MetR l D cI cZ q yX5_rerunStale cX5_rerunStale 7 (some .int) 10 231 QI [.ref (q 34)] M (fR_rerunStale n M) := by
  refine MetR.of (by decide) rfl (Nat.le_of_ble_eq_true rfl) ?_
  intro p e s m args below meth c X
  unfold fR_rerunStale
  refine g_pick (lv' := [(0, .ref (q 34))]) [0] rfl ?_
  refine g_aload_n X dX5_rerunStale_0 rfl rfl ?_
  refine k_tellStale X ⟨Nat.le_of_ble_eq_true rfl, Nat.le_of_ble_eq_true rfl⟩ (Nat.le_of_ble_eq_true rfl) dX5_rerunStale_1 ?_
  intro v1 M1
  refine g_iconst (v := (0 : Int32)) X dX5_rerunStale_4 (by decide) ?_
  refine g_istore_n (lv' := [(1, .int (0 : Int32)), (0, .ref (q 34))]) X dX5_rerunStale_5 rfl (by decide) rfl ?_
  refine g_iconst (v := (0 : Int32)) X dX5_rerunStale_6 (by decide) ?_
  refine g_istore_n (lv' := [(2, .int (0 : Int32)), (1, .int (0 : Int32)), (0, .ref (q 34))]) X dX5_rerunStale_7 rfl (by decide) rfl ?_
  exact g_pick [2, 1, 0] rfl (wR_rerunStale_l8 X n n (0 : Int32) (0 : Int32) M1)
-- forget
def fR_forget_b22 (n : Nat) (x1 : Int32) (s0 : Int32) (M : MR) : Option (Int32 × MR) :=
    wr M 0 62610 ((4 : Int32) + x1) (0 : Int32) fun M1 =>
    some (s0, M1)
theorem wR_forget_b22 (X : gX p s m args meth c cX5_forget 3 RX5 (some .int) D (tyR cI cZ)) (n : Nat) (x1 : Int32) (s0 : Int32) (M : MR) : gG p l e (rmR 2 41) s m args below meth c 3 (ZR D cI cZ q (AR q s.heap.size) s.heap M) 0 0 (fun r => MQ below (QI D cI cZ q s.heap.size r) args s 0 0 (AR q s.heap.size)) 22 [(0, .ref (q 34)), (1, .int x1)] [.int s0] (fR_forget_b22 n x1 s0 M) := by
  unfold fR_forget_b22
  refine g_istore_n (lv' := [(2, .int s0), (0, .ref (q 34)), (1, .int x1)]) X dX5_forget_22 rfl (by decide) rfl ?_
  refine g_aload_n X dX5_forget_23 rfl rfl ?_
  refine r_g_m X dX5_forget_24 ?_
  refine g_iconst (v := (4 : Int32)) X dX5_forget_27 (by decide) ?_
  refine g_iload_n X dX5_forget_28 rfl rfl ?_
  refine g_iadd X dX5_forget_29 ?_
  refine g_iconst (v := (0 : Int32)) X dX5_forget_30 (by decide) ?_
  refine r_s_m X dX5_forget_31 ?_
  intro M1
  refine g_iload_n X dX5_forget_32 rfl rfl ?_
  exact r_iret X dX5_forget_33
def fR_forget (n : Nat) (x1 : Int32) (M : MR) : Option (Int32 × MR) :=
    bnd (fR_isName n x1 M) fun v1 M1 =>
    if v1 = 0 then
      (some ((-1 : Int32), M1))
    else
      (bnd (fR_newest n x1 M1) fun v2 M2 =>
      if 0 ≤ v2 then (fR_forget_b22 n x1 (1 : Int32) M2) else (fR_forget_b22 n x1 (0 : Int32) M2))
theorem c_forget (l : Launch) (D : va_G) (cI cZ : ClassId) (q : Nat → Nat) (n : Nat) (x1 : Int32) (M : MR) : MetR l D cI cZ q yX5_forget cX5_forget 3 (some .int) 2 41 QI [.ref (q 34), .int x1] M (fR_forget n x1 M) := by
  refine MetR.of (by decide) rfl (Nat.le_of_ble_eq_true rfl) ?_
  intro p e s m args below meth c X
  unfold fR_forget
  refine g_pick (lv' := [(0, .ref (q 34)), (1, .int x1)]) [0, 1] rfl ?_
  refine g_iload_n X dX5_forget_0 rfl rfl ?_
  refine k_isName X ⟨Nat.le_of_ble_eq_true rfl, Nat.le_of_ble_eq_true rfl⟩ (Nat.le_of_ble_eq_true rfl) dX5_forget_1 ?_
  intro v1 M1
  refine g_if_ne (tgt := 9) X dX5_forget_4 (by decide) ?_ ?_
  · refine g_aload_n X dX5_forget_9 rfl rfl ?_
    refine g_iload_n X dX5_forget_10 rfl rfl ?_
    refine k_newest X ⟨Nat.le_of_ble_eq_true rfl, Nat.le_of_ble_eq_true rfl⟩ (Nat.le_of_ble_eq_true rfl) dX5_forget_11 ?_
    intro v2 M2
    refine g_if_ge (tgt := 21) X dX5_forget_14 (by decide) ?_ ?_
    · refine g_iconst (v := (1 : Int32)) X dX5_forget_21 (by decide) ?_
      exact g_pick [0, 1] rfl (wR_forget_b22 X n x1 (1 : Int32) M2)
    · refine g_iconst (v := (0 : Int32)) X dX5_forget_17 (by decide) ?_
      refine g_goto (tgt := 22) X dX5_forget_18 (by decide) ?_
      exact g_pick [0, 1] rfl (wR_forget_b22 X n x1 (0 : Int32) M2)
  · refine g_iconst (v := (-1 : Int32)) X dX5_forget_7 (by decide) ?_
    exact r_iret X dX5_forget_8
-- of
def fR_of (n : Nat) (x1 : Int32) (x2 : Int32) (M : MR) : Option (Int32 × MR) :=
    bnd (fR_isCell n x1 M) fun v1 M1 =>
    if v1 = 0 then
      (some ((-3 : Int32), M1))
    else
      (bnd (fR_cellAt n x1 M1) fun v2 M2 =>
      if x2 = (0 : Int32) then
        (rd M2 0 62610 (v2 + (3 : Int32)) fun v4 =>
        some (v4, M2))
      else if x2 = (1 : Int32) then
        (rd M2 0 62610 (v2 + (4 : Int32)) fun v6 =>
        some (v6, M2))
      else if x2 = (2 : Int32) then
        (rd M2 0 62610 (v2 + (5 : Int32)) fun v8 =>
        some (v8, M2))
      else if x2 = (3 : Int32) then
        (rd M2 0 62610 (v2 + (6 : Int32)) fun v10 =>
        some (v10, M2))
      else if x2 = (4 : Int32) then
        (rd M2 0 62610 (v2 + (7 : Int32)) fun v12 =>
        some ((v12 - (1 : Int32)), M2))
      else if x2 = (5 : Int32) then
        (rd M2 0 62610 (v2 + (0 : Int32)) fun v14 =>
        some (v14, M2))
      else if x2 = (6 : Int32) then
        (rd M2 0 62610 (v2 + (1 : Int32)) fun v16 =>
        some (v16, M2))
      else if x2 = (7 : Int32) then
        (rd M2 0 62610 (v2 + (8 : Int32)) fun v18 =>
        some (v18, M2))
      else if x2 = (8 : Int32) then
        (rd M2 0 62610 (v2 + (2 : Int32)) fun v20 =>
        some (v20, M2))
      else (some ((-3 : Int32), M2)))
theorem c_of (l : Launch) (D : va_G) (cI cZ : ClassId) (q : Nat → Nat) (n : Nat) (x1 : Int32) (x2 : Int32) (M : MR) : MetR l D cI cZ q yX5_of cX5_of 4 (some .int) 1 21 QI [.ref (q 34), .int x1, .int x2] M (fR_of n x1 x2 M) := by
  refine MetR.of (by decide) rfl (Nat.le_of_ble_eq_true rfl) ?_
  intro p e s m args below meth c X
  unfold fR_of
  refine g_pick (lv' := [(0, .ref (q 34)), (1, .int x1), (2, .int x2)]) [0, 1, 2] rfl ?_
  refine g_aload_n X dX5_of_0 rfl rfl ?_
  refine g_iload_n X dX5_of_1 rfl rfl ?_
  refine k_isCell X ⟨Nat.le_of_ble_eq_true rfl, Nat.le_of_ble_eq_true rfl⟩ (Nat.le_of_ble_eq_true rfl) dX5_of_2 ?_
  intro v1 M1
  refine g_if_ne (tgt := 11) X dX5_of_5 (by decide) ?_ ?_
  · refine g_iload_n X dX5_of_11 rfl rfl ?_
    refine k_cellAt X ⟨Nat.le_of_ble_eq_true rfl, Nat.le_of_ble_eq_true rfl⟩ (Nat.le_of_ble_eq_true rfl) dX5_of_12 ?_
    intro v2 M2
    refine g_istore_n (lv' := [(3, .int v2), (0, .ref (q 34)), (1, .int x1), (2, .int x2)]) X dX5_of_15 rfl (by decide) rfl ?_
    refine g_iload_n X dX5_of_16 rfl rfl ?_
    refine g_ite (fun h3 => ?_) (fun h3 => ?_)
    · refine g_tIn (off := 51) (tgt := 68) X dX5_of_17 (by rw [h3]; decide) (by rw [h3]; decide) (by rw [h3]; rfl) (by decide) ?_
      refine g_aload_n X dX5_of_68 rfl rfl ?_
      refine r_g_m X dX5_of_69 ?_
      refine g_iload_n X dX5_of_72 rfl rfl ?_
      refine g_iconst (v := (3 : Int32)) X dX5_of_73 (by decide) ?_
      refine g_iadd X dX5_of_74 ?_
      refine r_l_m X dX5_of_75 ?_
      intro v4
      exact r_iret X dX5_of_76
    have eh3 := tn_i (n := 0) h3 (by decide)
    refine g_ite (fun h5 => ?_) (fun h5 => ?_)
    · refine g_tIn (off := 60) (tgt := 77) X dX5_of_17 (by rw [h5]; decide) (by rw [h5]; decide) (by rw [h5]; rfl) (by decide) ?_
      refine g_aload_n X dX5_of_77 rfl rfl ?_
      refine r_g_m X dX5_of_78 ?_
      refine g_iload_n X dX5_of_81 rfl rfl ?_
      refine g_iconst (v := (4 : Int32)) X dX5_of_82 (by decide) ?_
      refine g_iadd X dX5_of_83 ?_
      refine r_l_m X dX5_of_84 ?_
      intro v6
      exact r_iret X dX5_of_85
    have eh5 := tn_i (n := 1) h5 (by decide)
    refine g_ite (fun h7 => ?_) (fun h7 => ?_)
    · refine g_tIn (off := 69) (tgt := 86) X dX5_of_17 (by rw [h7]; decide) (by rw [h7]; decide) (by rw [h7]; rfl) (by decide) ?_
      refine g_aload_n X dX5_of_86 rfl rfl ?_
      refine r_g_m X dX5_of_87 ?_
      refine g_iload_n X dX5_of_90 rfl rfl ?_
      refine g_iconst (v := (5 : Int32)) X dX5_of_91 (by decide) ?_
      refine g_iadd X dX5_of_92 ?_
      refine r_l_m X dX5_of_93 ?_
      intro v8
      exact r_iret X dX5_of_94
    have eh7 := tn_i (n := 2) h7 (by decide)
    refine g_ite (fun h9 => ?_) (fun h9 => ?_)
    · refine g_tIn (off := 78) (tgt := 95) X dX5_of_17 (by rw [h9]; decide) (by rw [h9]; decide) (by rw [h9]; rfl) (by decide) ?_
      refine g_aload_n X dX5_of_95 rfl rfl ?_
      refine r_g_m X dX5_of_96 ?_
      refine g_iload_n X dX5_of_99 rfl rfl ?_
      refine g_bipush (v := (6 : Int32)) X dX5_of_100 (by decide) ?_
      refine g_iadd X dX5_of_102 ?_
      refine r_l_m X dX5_of_103 ?_
      intro v10
      exact r_iret X dX5_of_104
    have eh9 := tn_i (n := 3) h9 (by decide)
    refine g_ite (fun h11 => ?_) (fun h11 => ?_)
    · refine g_tIn (off := 88) (tgt := 105) X dX5_of_17 (by rw [h11]; decide) (by rw [h11]; decide) (by rw [h11]; rfl) (by decide) ?_
      refine g_aload_n X dX5_of_105 rfl rfl ?_
      refine r_g_m X dX5_of_106 ?_
      refine g_iload_n X dX5_of_109 rfl rfl ?_
      refine g_bipush (v := (7 : Int32)) X dX5_of_110 (by decide) ?_
      refine g_iadd X dX5_of_112 ?_
      refine r_l_m X dX5_of_113 ?_
      intro v12
      refine g_iconst (v := (1 : Int32)) X dX5_of_114 (by decide) ?_
      refine g_isub X dX5_of_115 ?_
      exact r_iret X dX5_of_116
    have eh11 := tn_i (n := 4) h11 (by decide)
    refine g_ite (fun h13 => ?_) (fun h13 => ?_)
    · refine g_tIn (off := 100) (tgt := 117) X dX5_of_17 (by rw [h13]; decide) (by rw [h13]; decide) (by rw [h13]; rfl) (by decide) ?_
      refine g_aload_n X dX5_of_117 rfl rfl ?_
      refine r_g_m X dX5_of_118 ?_
      refine g_iload_n X dX5_of_121 rfl rfl ?_
      refine g_iconst (v := (0 : Int32)) X dX5_of_122 (by decide) ?_
      refine g_iadd X dX5_of_123 ?_
      refine r_l_m X dX5_of_124 ?_
      intro v14
      exact r_iret X dX5_of_125
    have eh13 := tn_i (n := 5) h13 (by decide)
    refine g_ite (fun h15 => ?_) (fun h15 => ?_)
    · refine g_tIn (off := 109) (tgt := 126) X dX5_of_17 (by rw [h15]; decide) (by rw [h15]; decide) (by rw [h15]; rfl) (by decide) ?_
      refine g_aload_n X dX5_of_126 rfl rfl ?_
      refine r_g_m X dX5_of_127 ?_
      refine g_iload_n X dX5_of_130 rfl rfl ?_
      refine g_iconst (v := (1 : Int32)) X dX5_of_131 (by decide) ?_
      refine g_iadd X dX5_of_132 ?_
      refine r_l_m X dX5_of_133 ?_
      intro v16
      exact r_iret X dX5_of_134
    have eh15 := tn_i (n := 6) h15 (by decide)
    refine g_ite (fun h17 => ?_) (fun h17 => ?_)
    · refine g_tIn (off := 118) (tgt := 135) X dX5_of_17 (by rw [h17]; decide) (by rw [h17]; decide) (by rw [h17]; rfl) (by decide) ?_
      refine g_aload_n X dX5_of_135 rfl rfl ?_
      refine r_g_m X dX5_of_136 ?_
      refine g_iload_n X dX5_of_139 rfl rfl ?_
      refine g_bipush (v := (8 : Int32)) X dX5_of_140 (by decide) ?_
      refine g_iadd X dX5_of_142 ?_
      refine r_l_m X dX5_of_143 ?_
      intro v18
      exact r_iret X dX5_of_144
    have eh17 := tn_i (n := 7) h17 (by decide)
    refine g_ite (fun h19 => ?_) (fun h19 => ?_)
    · refine g_tIn (off := 128) (tgt := 145) X dX5_of_17 (by rw [h19]; decide) (by rw [h19]; decide) (by rw [h19]; rfl) (by decide) ?_
      refine g_aload_n X dX5_of_145 rfl rfl ?_
      refine r_g_m X dX5_of_146 ?_
      refine g_iload_n X dX5_of_149 rfl rfl ?_
      refine g_iconst (v := (2 : Int32)) X dX5_of_150 (by decide) ?_
      refine g_iadd X dX5_of_151 ?_
      refine r_l_m X dX5_of_152 ?_
      intro v20
      exact r_iret X dX5_of_153
    have eh19 := tn_i (n := 8) h19 (by decide)
    refine g_tOut (tgt := 154) X dX5_of_17 (by omega) (by decide) ?_
    refine g_bipush (v := (-3 : Int32)) X dX5_of_154 (by decide) ?_
    exact r_iret X dX5_of_156
  · refine g_bipush (v := (-3 : Int32)) X dX5_of_8 (by decide) ?_
    exact r_iret X dX5_of_10
-- leans
def fR_leans (n : Nat) (x1 : Int32) (x2 : Int32) (M : MR) : Option (Int32 × MR) :=
    bnd (fR_isCell n x1 M) fun v1 M1 =>
    if v1 = 0 then
      (some ((-1 : Int32), M1))
    else
      (if x2 < 0 then
        (some ((-1 : Int32), M1))
      else
        (bnd (fR_cellAt n x1 M1) fun v2 M2 =>
        rd M2 0 62610 (v2 + (8 : Int32)) fun v3 =>
        if x2 < v3 then
          (bnd (fR_cellAt n x1 M2) fun v4 M4 =>
          rd M4 0 62610 ((v4 + (10 : Int32)) + x2) fun v5 =>
          some (v5, M4))
        else
          (some ((-1 : Int32), M2))))
theorem c_leans (l : Launch) (D : va_G) (cI cZ : ClassId) (q : Nat → Nat) (n : Nat) (x1 : Int32) (x2 : Int32) (M : MR) : MetR l D cI cZ q yX5_leans cX5_leans 3 (some .int) 1 21 QI [.ref (q 34), .int x1, .int x2] M (fR_leans n x1 x2 M) := by
  refine MetR.of (by decide) rfl (Nat.le_of_ble_eq_true rfl) ?_
  intro p e s m args below meth c X
  unfold fR_leans
  refine g_pick (lv' := [(0, .ref (q 34)), (1, .int x1), (2, .int x2)]) [0, 1, 2] rfl ?_
  refine g_aload_n X dX5_leans_0 rfl rfl ?_
  refine g_iload_n X dX5_leans_1 rfl rfl ?_
  refine k_isCell X ⟨Nat.le_of_ble_eq_true rfl, Nat.le_of_ble_eq_true rfl⟩ (Nat.le_of_ble_eq_true rfl) dX5_leans_2 ?_
  intro v1 M1
  refine g_if_eq (tgt := 28) X dX5_leans_5 (by decide) ?_ ?_
  · refine g_iconst (v := (-1 : Int32)) X dX5_leans_28 (by decide) ?_
    refine g_goto (tgt := 46) X dX5_leans_29 (by decide) ?_
    exact r_iret X dX5_leans_46
  · refine g_iload_n X dX5_leans_8 rfl rfl ?_
    refine g_if_lt (tgt := 28) X dX5_leans_9 (by decide) ?_ ?_
    · refine g_iconst (v := (-1 : Int32)) X dX5_leans_28 (by decide) ?_
      refine g_goto (tgt := 46) X dX5_leans_29 (by decide) ?_
      exact r_iret X dX5_leans_46
    · refine g_iload_n X dX5_leans_12 rfl rfl ?_
      refine g_aload_n X dX5_leans_13 rfl rfl ?_
      refine r_g_m X dX5_leans_14 ?_
      refine g_iload_n X dX5_leans_17 rfl rfl ?_
      refine k_cellAt X ⟨Nat.le_of_ble_eq_true rfl, Nat.le_of_ble_eq_true rfl⟩ (Nat.le_of_ble_eq_true rfl) dX5_leans_18 ?_
      intro v2 M2
      refine g_bipush (v := (8 : Int32)) X dX5_leans_21 (by decide) ?_
      refine g_iadd X dX5_leans_23 ?_
      refine r_l_m X dX5_leans_24 ?_
      intro v3
      refine g_icmp_lt (tgt := 32) X dX5_leans_25 (by decide) ?_ ?_
      · refine g_aload_n X dX5_leans_32 rfl rfl ?_
        refine r_g_m X dX5_leans_33 ?_
        refine g_iload_n X dX5_leans_36 rfl rfl ?_
        refine k_cellAt X ⟨Nat.le_of_ble_eq_true rfl, Nat.le_of_ble_eq_true rfl⟩ (Nat.le_of_ble_eq_true rfl) dX5_leans_37 ?_
        intro v4 M4
        refine g_bipush (v := (10 : Int32)) X dX5_leans_40 (by decide) ?_
        refine g_iadd X dX5_leans_42 ?_
        refine g_iload_n X dX5_leans_43 rfl rfl ?_
        refine g_iadd X dX5_leans_44 ?_
        refine r_l_m X dX5_leans_45 ?_
        intro v5
        exact r_iret X dX5_leans_46
      · refine g_iconst (v := (-1 : Int32)) X dX5_leans_28 (by decide) ?_
        refine g_goto (tgt := 46) X dX5_leans_29 (by decide) ?_
        exact r_iret X dX5_leans_46
-- stale
def fR_stale (n : Nat) (x1 : Int32) (M : MR) : Option (Int32 × MR) :=
    bnd (fR_tellStale n M) fun _ M1 =>
    bnd (fR_isCell n x1 M1) fun v2 M2 =>
    if v2 = 0 then
      (zt (0 : Int32) (some ((0 : Int32), M2)))
    else
      (rd M2 28 40 x1 fun v3 =>
      if v3 = 0 then (zt (0 : Int32) (some ((0 : Int32), M2))) else (zt (1 : Int32) (some ((1 : Int32), M2))))
theorem c_stale (l : Launch) (D : va_G) (cI cZ : ClassId) (q : Nat → Nat) (n : Nat) (x1 : Int32) (M : MR) : MetR l D cI cZ q yX5_stale cX5_stale 2 (some .boolean) 3 65 QI [.ref (q 34), .int x1] M (fR_stale n x1 M) := by
  refine MetR.of (by decide) rfl (Nat.le_of_ble_eq_true rfl) ?_
  intro p e s m args below meth c X
  unfold fR_stale
  refine g_pick (lv' := [(0, .ref (q 34)), (1, .int x1)]) [0, 1] rfl ?_
  refine g_aload_n X dX5_stale_0 rfl rfl ?_
  refine k_tellStale X ⟨Nat.le_of_ble_eq_true rfl, Nat.le_of_ble_eq_true rfl⟩ (Nat.le_of_ble_eq_true rfl) dX5_stale_1 ?_
  intro v1 M1
  refine g_aload_n X dX5_stale_4 rfl rfl ?_
  refine g_iload_n X dX5_stale_5 rfl rfl ?_
  refine k_isCell X ⟨Nat.le_of_ble_eq_true rfl, Nat.le_of_ble_eq_true rfl⟩ (Nat.le_of_ble_eq_true rfl) dX5_stale_6 ?_
  intro v2 M2
  refine g_if_eq (tgt := 25) X dX5_stale_9 (by decide) ?_ ?_
  · refine g_iconst (v := (0 : Int32)) X dX5_stale_25 (by decide) ?_
    exact r_zret X dX5_stale_26
  · refine g_aload_n X dX5_stale_12 rfl rfl ?_
    refine r_g_isStale X dX5_stale_13 ?_
    refine g_iload_n X dX5_stale_16 rfl rfl ?_
    refine r_l_isStale X dX5_stale_17 ?_
    intro v3
    refine g_if_eq (tgt := 25) X dX5_stale_18 (by decide) ?_ ?_
    · refine g_iconst (v := (0 : Int32)) X dX5_stale_25 (by decide) ?_
      exact r_zret X dX5_stale_26
    · refine g_iconst (v := (1 : Int32)) X dX5_stale_21 (by decide) ?_
      refine g_goto (tgt := 26) X dX5_stale_22 (by decide) ?_
      exact r_zret X dX5_stale_26
end RM
end
section
theorem dX5_written_0 : decode cX5_written 0 = .ok (.aload_n 0, 1) := by decide +kernel
theorem dX5_written_1 : decode cX5_written 1 = .ok (.iload_n 1, 1) := by decide +kernel
theorem dX5_written_2 : decode cX5_written 2 = .ok (.invokevirtual 251, 3) := by decide +kernel
theorem dX5_written_5 : decode cX5_written 5 = .ok (.ifCond .eq 38, 3) := by decide +kernel
theorem dX5_written_8 : decode cX5_written 8 = .ok (.iload_n 2, 1) := by decide +kernel
theorem dX5_written_9 : decode cX5_written 9 = .ok (.ifCond .lt 34, 3) := by decide +kernel
theorem dX5_written_12 : decode cX5_written 12 = .ok (.iload_n 2, 1) := by decide +kernel
theorem dX5_written_13 : decode cX5_written 13 = .ok (.bipush 20, 2) := by decide +kernel
theorem dX5_written_15 : decode cX5_written 15 = .ok (.if_icmp .ge 28, 3) := by decide +kernel
theorem dX5_written_18 : decode cX5_written 18 = .ok (.iload_n 2, 1) := by decide +kernel
theorem dX5_written_19 : decode cX5_written 19 = .ok (.aload_n 0, 1) := by decide +kernel
theorem dX5_written_20 : decode cX5_written 20 = .ok (.getfield 8, 3) := by decide +kernel
theorem dX5_written_23 : decode cX5_written 23 = .ok (.iload_n 1, 1) := by decide +kernel
theorem dX5_written_24 : decode cX5_written 24 = .ok (.invokestatic 230, 3) := by decide +kernel
theorem dX5_written_27 : decode cX5_written 27 = .ok (.bipush 6, 2) := by decide +kernel
theorem dX5_written_29 : decode cX5_written 29 = .ok (.iadd, 1) := by decide +kernel
theorem dX5_written_30 : decode cX5_written 30 = .ok (.iaload, 1) := by decide +kernel
theorem dX5_written_31 : decode cX5_written 31 = .ok (.if_icmp .ge 12, 3) := by decide +kernel
theorem dX5_written_34 : decode cX5_written 34 = .ok (.iload_n 3, 1) := by decide +kernel
theorem dX5_written_35 : decode cX5_written 35 = .ok (.ifCond .lt 8, 3) := by decide +kernel
theorem dX5_written_38 : decode cX5_written 38 = .ok (.iload_n 3, 1) := by decide +kernel
theorem dX5_written_39 : decode cX5_written 39 = .ok (.iconst 1, 1) := by decide +kernel
theorem dX5_written_40 : decode cX5_written 40 = .ok (.if_icmp .le 5, 3) := by decide +kernel
theorem dX5_written_43 : decode cX5_written 43 = .ok (.iconst 0, 1) := by decide +kernel
theorem dX5_written_44 : decode cX5_written 44 = .ok (.ireturn, 1) := by decide +kernel
theorem dX5_written_45 : decode cX5_written 45 = .ok (.aload_n 0, 1) := by decide +kernel
theorem dX5_written_46 : decode cX5_written 46 = .ok (.getfield 8, 3) := by decide +kernel
theorem dX5_written_49 : decode cX5_written 49 = .ok (.iload_n 1, 1) := by decide +kernel
theorem dX5_written_50 : decode cX5_written 50 = .ok (.invokestatic 230, 3) := by decide +kernel
theorem dX5_written_53 : decode cX5_written 53 = .ok (.bipush 71, 2) := by decide +kernel
theorem dX5_written_55 : decode cX5_written 55 = .ok (.iadd, 1) := by decide +kernel
theorem dX5_written_56 : decode cX5_written 56 = .ok (.iconst 2, 1) := by decide +kernel
theorem dX5_written_57 : decode cX5_written 57 = .ok (.iload_n 2, 1) := by decide +kernel
theorem dX5_written_58 : decode cX5_written 58 = .ok (.imul, 1) := by decide +kernel
theorem dX5_written_59 : decode cX5_written 59 = .ok (.iadd, 1) := by decide +kernel
theorem dX5_written_60 : decode cX5_written 60 = .ok (.iload_n 3, 1) := by decide +kernel
theorem dX5_written_61 : decode cX5_written 61 = .ok (.iadd, 1) := by decide +kernel
theorem dX5_written_62 : decode cX5_written 62 = .ok (.iaload, 1) := by decide +kernel
theorem dX5_written_63 : decode cX5_written 63 = .ok (.ireturn, 1) := by decide +kernel
theorem dX5_count_0 : decode cX5_count 0 = .ok (.iload_n 1, 1) := by decide +kernel
theorem dX5_count_1 : decode cX5_count 1 = .ok (.ifCond .ne 12, 3) := by decide +kernel
theorem dX5_count_4 : decode cX5_count 4 = .ok (.aload_n 0, 1) := by decide +kernel
theorem dX5_count_5 : decode cX5_count 5 = .ok (.getfield 8, 3) := by decide +kernel
theorem dX5_count_8 : decode cX5_count 8 = .ok (.iconst 1, 1) := by decide +kernel
theorem dX5_count_9 : decode cX5_count 9 = .ok (.iaload, 1) := by decide +kernel
theorem dX5_count_10 : decode cX5_count 10 = .ok (.goto 44, 3) := by decide +kernel
theorem dX5_count_13 : decode cX5_count 13 = .ok (.iload_n 1, 1) := by decide +kernel
theorem dX5_count_14 : decode cX5_count 14 = .ok (.iconst 1, 1) := by decide +kernel
theorem dX5_count_15 : decode cX5_count 15 = .ok (.if_icmp .ne 12, 3) := by decide +kernel
theorem dX5_count_18 : decode cX5_count 18 = .ok (.aload_n 0, 1) := by decide +kernel
theorem dX5_count_19 : decode cX5_count 19 = .ok (.getfield 8, 3) := by decide +kernel
theorem dX5_count_22 : decode cX5_count 22 = .ok (.iconst 2, 1) := by decide +kernel
theorem dX5_count_23 : decode cX5_count 23 = .ok (.iaload, 1) := by decide +kernel
theorem dX5_count_24 : decode cX5_count 24 = .ok (.goto 30, 3) := by decide +kernel
theorem dX5_count_27 : decode cX5_count 27 = .ok (.iload_n 1, 1) := by decide +kernel
theorem dX5_count_28 : decode cX5_count 28 = .ok (.iconst 2, 1) := by decide +kernel
theorem dX5_count_29 : decode cX5_count 29 = .ok (.if_icmp .ne 12, 3) := by decide +kernel
theorem dX5_count_32 : decode cX5_count 32 = .ok (.aload_n 0, 1) := by decide +kernel
theorem dX5_count_33 : decode cX5_count 33 = .ok (.getfield 8, 3) := by decide +kernel
theorem dX5_count_36 : decode cX5_count 36 = .ok (.iconst 0, 1) := by decide +kernel
theorem dX5_count_37 : decode cX5_count 37 = .ok (.iaload, 1) := by decide +kernel
theorem dX5_count_38 : decode cX5_count 38 = .ok (.goto 16, 3) := by decide +kernel
theorem dX5_count_41 : decode cX5_count 41 = .ok (.iload_n 1, 1) := by decide +kernel
theorem dX5_count_42 : decode cX5_count 42 = .ok (.iconst 3, 1) := by decide +kernel
theorem dX5_count_43 : decode cX5_count 43 = .ok (.if_icmp .ne 10, 3) := by decide +kernel
theorem dX5_count_46 : decode cX5_count 46 = .ok (.aload_n 0, 1) := by decide +kernel
theorem dX5_count_47 : decode cX5_count 47 = .ok (.getfield 80, 3) := by decide +kernel
theorem dX5_count_50 : decode cX5_count 50 = .ok (.goto 4, 3) := by decide +kernel
theorem dX5_count_53 : decode cX5_count 53 = .ok (.iconst (-1), 1) := by decide +kernel
theorem dX5_count_54 : decode cX5_count 54 = .ok (.ireturn, 1) := by decide +kernel
theorem dX5_edition_0 : decode cX5_edition 0 = .ok (.aload_n 0, 1) := by decide +kernel
theorem dX5_edition_1 : decode cX5_edition 1 = .ok (.iload_n 1, 1) := by decide +kernel
theorem dX5_edition_2 : decode cX5_edition 2 = .ok (.invokevirtual 69, 3) := by decide +kernel
theorem dX5_edition_5 : decode cX5_edition 5 = .ok (.ifCond .ne 6, 3) := by decide +kernel
theorem dX5_edition_8 : decode cX5_edition 8 = .ok (.bipush (-3), 2) := by decide +kernel
theorem dX5_edition_10 : decode cX5_edition 10 = .ok (.ireturn, 1) := by decide +kernel
theorem dX5_edition_11 : decode cX5_edition 11 = .ok (.iload_n 1, 1) := by decide +kernel
theorem dX5_edition_12 : decode cX5_edition 12 = .ok (.invokestatic 73, 3) := by decide +kernel
theorem dX5_edition_15 : decode cX5_edition 15 = .ok (.istore_n 3, 1) := by decide +kernel
theorem dX5_edition_16 : decode cX5_edition 16 = .ok (.aload_n 0, 1) := by decide +kernel
theorem dX5_edition_17 : decode cX5_edition 17 = .ok (.getfield 8, 3) := by decide +kernel
theorem dX5_edition_20 : decode cX5_edition 20 = .ok (.iload_n 3, 1) := by decide +kernel
theorem dX5_edition_21 : decode cX5_edition 21 = .ok (.iconst 1, 1) := by decide +kernel
theorem dX5_edition_22 : decode cX5_edition 22 = .ok (.iadd, 1) := by decide +kernel
theorem dX5_edition_23 : decode cX5_edition 23 = .ok (.iaload, 1) := by decide +kernel
theorem dX5_edition_24 : decode cX5_edition 24 = .ok (.iconst 1, 1) := by decide +kernel
theorem dX5_edition_25 : decode cX5_edition 25 = .ok (.if_icmp .ne 7, 3) := by decide +kernel
theorem dX5_edition_28 : decode cX5_edition 28 = .ok (.iconst 1, 1) := by decide +kernel
theorem dX5_edition_29 : decode cX5_edition 29 = .ok (.goto 4, 3) := by decide +kernel
theorem dX5_edition_32 : decode cX5_edition 32 = .ok (.iconst 0, 1) := by decide +kernel
theorem dX5_edition_33 : decode cX5_edition 33 = .ok (.istore 4, 2) := by decide +kernel
theorem dX5_edition_35 : decode cX5_edition 35 = .ok (.iconst 0, 1) := by decide +kernel
theorem dX5_edition_36 : decode cX5_edition 36 = .ok (.istore 5, 2) := by decide +kernel
theorem dX5_edition_38 : decode cX5_edition 38 = .ok (.iconst 0, 1) := by decide +kernel
theorem dX5_edition_39 : decode cX5_edition 39 = .ok (.istore 6, 2) := by decide +kernel
theorem dX5_edition_41 : decode cX5_edition 41 = .ok (.iload 6, 2) := by decide +kernel
theorem dX5_edition_43 : decode cX5_edition 43 = .ok (.iload_n 1, 1) := by decide +kernel
theorem dX5_edition_44 : decode cX5_edition 44 = .ok (.if_icmp .ge 42, 3) := by decide +kernel
theorem dX5_edition_47 : decode cX5_edition 47 = .ok (.iload 5, 2) := by decide +kernel
theorem dX5_edition_49 : decode cX5_edition 49 = .ok (.aload_n 0, 1) := by decide +kernel
theorem dX5_edition_50 : decode cX5_edition 50 = .ok (.getfield 8, 3) := by decide +kernel
theorem dX5_edition_53 : decode cX5_edition 53 = .ok (.iload 6, 2) := by decide +kernel
theorem dX5_edition_55 : decode cX5_edition 55 = .ok (.invokestatic 73, 3) := by decide +kernel
theorem dX5_edition_58 : decode cX5_edition 58 = .ok (.iconst 0, 1) := by decide +kernel
theorem dX5_edition_59 : decode cX5_edition 59 = .ok (.iadd, 1) := by decide +kernel
theorem dX5_edition_60 : decode cX5_edition 60 = .ok (.iaload, 1) := by decide +kernel
theorem dX5_edition_61 : decode cX5_edition 61 = .ok (.aload_n 0, 1) := by decide +kernel
theorem dX5_edition_62 : decode cX5_edition 62 = .ok (.getfield 8, 3) := by decide +kernel
theorem dX5_edition_65 : decode cX5_edition 65 = .ok (.iload_n 3, 1) := by decide +kernel
theorem dX5_edition_66 : decode cX5_edition 66 = .ok (.iconst 0, 1) := by decide +kernel
theorem dX5_edition_67 : decode cX5_edition 67 = .ok (.iadd, 1) := by decide +kernel
theorem dX5_edition_68 : decode cX5_edition 68 = .ok (.iaload, 1) := by decide +kernel
theorem dX5_edition_69 : decode cX5_edition 69 = .ok (.if_icmp .ne 7, 3) := by decide +kernel
theorem dX5_edition_72 : decode cX5_edition 72 = .ok (.iconst 1, 1) := by decide +kernel
theorem dX5_edition_73 : decode cX5_edition 73 = .ok (.goto 4, 3) := by decide +kernel
theorem dX5_edition_76 : decode cX5_edition 76 = .ok (.iconst 0, 1) := by decide +kernel
theorem dX5_edition_77 : decode cX5_edition 77 = .ok (.iadd, 1) := by decide +kernel
theorem dX5_edition_78 : decode cX5_edition 78 = .ok (.istore 5, 2) := by decide +kernel
theorem dX5_edition_80 : decode cX5_edition 80 = .ok (.iinc 6 1, 3) := by decide +kernel
theorem dX5_edition_83 : decode cX5_edition 83 = .ok (.goto (-42), 3) := by decide +kernel
theorem dX5_edition_86 : decode cX5_edition 86 = .ok (.iload_n 2, 1) := by decide +kernel
theorem dX5_edition_87 : decode cX5_edition 87 = .ok (.tableswitch 163 0 7 #[45, 54, 57, 66, 75, 97, 119, 144], 45) := by decide +kernel
theorem dX5_edition_132 : decode cX5_edition 132 = .ok (.aload_n 0, 1) := by decide +kernel
theorem dX5_edition_133 : decode cX5_edition 133 = .ok (.getfield 8, 3) := by decide +kernel
theorem dX5_edition_136 : decode cX5_edition 136 = .ok (.iload_n 3, 1) := by decide +kernel
theorem dX5_edition_137 : decode cX5_edition 137 = .ok (.iconst 0, 1) := by decide +kernel
theorem dX5_edition_138 : decode cX5_edition 138 = .ok (.iadd, 1) := by decide +kernel
theorem dX5_edition_139 : decode cX5_edition 139 = .ok (.iaload, 1) := by decide +kernel
theorem dX5_edition_140 : decode cX5_edition 140 = .ok (.ireturn, 1) := by decide +kernel
theorem dX5_edition_141 : decode cX5_edition 141 = .ok (.iload 5, 2) := by decide +kernel
theorem dX5_edition_143 : decode cX5_edition 143 = .ok (.ireturn, 1) := by decide +kernel
theorem dX5_edition_144 : decode cX5_edition 144 = .ok (.aload_n 0, 1) := by decide +kernel
theorem dX5_edition_145 : decode cX5_edition 145 = .ok (.getfield 8, 3) := by decide +kernel
theorem dX5_edition_148 : decode cX5_edition 148 = .ok (.iload_n 3, 1) := by decide +kernel
theorem dX5_edition_149 : decode cX5_edition 149 = .ok (.iconst 2, 1) := by decide +kernel
theorem dX5_edition_150 : decode cX5_edition 150 = .ok (.iadd, 1) := by decide +kernel
theorem dX5_edition_151 : decode cX5_edition 151 = .ok (.iaload, 1) := by decide +kernel
theorem dX5_edition_152 : decode cX5_edition 152 = .ok (.ireturn, 1) := by decide +kernel
theorem dX5_edition_153 : decode cX5_edition 153 = .ok (.aload_n 0, 1) := by decide +kernel
theorem dX5_edition_154 : decode cX5_edition 154 = .ok (.getfield 8, 3) := by decide +kernel
theorem dX5_edition_157 : decode cX5_edition 157 = .ok (.iload_n 3, 1) := by decide +kernel
theorem dX5_edition_158 : decode cX5_edition 158 = .ok (.iconst 1, 1) := by decide +kernel
theorem dX5_edition_159 : decode cX5_edition 159 = .ok (.iadd, 1) := by decide +kernel
theorem dX5_edition_160 : decode cX5_edition 160 = .ok (.iaload, 1) := by decide +kernel
theorem dX5_edition_161 : decode cX5_edition 161 = .ok (.ireturn, 1) := by decide +kernel
theorem dX5_edition_162 : decode cX5_edition 162 = .ok (.aload_n 0, 1) := by decide +kernel
theorem dX5_edition_163 : decode cX5_edition 163 = .ok (.aload_n 0, 1) := by decide +kernel
theorem dX5_edition_164 : decode cX5_edition 164 = .ok (.getfield 8, 3) := by decide +kernel
theorem dX5_edition_167 : decode cX5_edition 167 = .ok (.iload_n 3, 1) := by decide +kernel
theorem dX5_edition_168 : decode cX5_edition 168 = .ok (.iconst 0, 1) := by decide +kernel
theorem dX5_edition_169 : decode cX5_edition 169 = .ok (.iadd, 1) := by decide +kernel
theorem dX5_edition_170 : decode cX5_edition 170 = .ok (.iaload, 1) := by decide +kernel
theorem dX5_edition_171 : decode cX5_edition 171 = .ok (.invokevirtual 97, 3) := by decide +kernel
theorem dX5_edition_174 : decode cX5_edition 174 = .ok (.iload_n 1, 1) := by decide +kernel
theorem dX5_edition_175 : decode cX5_edition 175 = .ok (.if_icmp .ne 7, 3) := by decide +kernel
theorem dX5_edition_178 : decode cX5_edition 178 = .ok (.iconst 1, 1) := by decide +kernel
theorem dX5_edition_179 : decode cX5_edition 179 = .ok (.goto 4, 3) := by decide +kernel
theorem dX5_edition_182 : decode cX5_edition 182 = .ok (.iconst 0, 1) := by decide +kernel
theorem dX5_edition_183 : decode cX5_edition 183 = .ok (.ireturn, 1) := by decide +kernel
theorem dX5_edition_184 : decode cX5_edition 184 = .ok (.iload 4, 2) := by decide +kernel
theorem dX5_edition_186 : decode cX5_edition 186 = .ok (.ifCond .eq 11, 3) := by decide +kernel
theorem dX5_edition_189 : decode cX5_edition 189 = .ok (.aload_n 0, 1) := by decide +kernel
theorem dX5_edition_190 : decode cX5_edition 190 = .ok (.iload_n 1, 1) := by decide +kernel
theorem dX5_edition_191 : decode cX5_edition 191 = .ok (.invokevirtual 138, 3) := by decide +kernel
theorem dX5_edition_194 : decode cX5_edition 194 = .ok (.goto 11, 3) := by decide +kernel
theorem dX5_edition_197 : decode cX5_edition 197 = .ok (.aload_n 0, 1) := by decide +kernel
theorem dX5_edition_198 : decode cX5_edition 198 = .ok (.getfield 8, 3) := by decide +kernel
theorem dX5_edition_201 : decode cX5_edition 201 = .ok (.iload_n 3, 1) := by decide +kernel
theorem dX5_edition_202 : decode cX5_edition 202 = .ok (.iconst 3, 1) := by decide +kernel
theorem dX5_edition_203 : decode cX5_edition 203 = .ok (.iadd, 1) := by decide +kernel
theorem dX5_edition_204 : decode cX5_edition 204 = .ok (.iaload, 1) := by decide +kernel
theorem dX5_edition_205 : decode cX5_edition 205 = .ok (.ireturn, 1) := by decide +kernel
theorem dX5_edition_206 : decode cX5_edition 206 = .ok (.iload 4, 2) := by decide +kernel
theorem dX5_edition_208 : decode cX5_edition 208 = .ok (.ifCond .eq 14, 3) := by decide +kernel
theorem dX5_edition_211 : decode cX5_edition 211 = .ok (.aload_n 0, 1) := by decide +kernel
theorem dX5_edition_212 : decode cX5_edition 212 = .ok (.getfield 8, 3) := by decide +kernel
theorem dX5_edition_215 : decode cX5_edition 215 = .ok (.iload_n 3, 1) := by decide +kernel
theorem dX5_edition_216 : decode cX5_edition 216 = .ok (.iconst 5, 1) := by decide +kernel
theorem dX5_edition_217 : decode cX5_edition 217 = .ok (.iadd, 1) := by decide +kernel
theorem dX5_edition_218 : decode cX5_edition 218 = .ok (.iaload, 1) := by decide +kernel
theorem dX5_edition_219 : decode cX5_edition 219 = .ok (.goto 11, 3) := by decide +kernel
theorem dX5_edition_222 : decode cX5_edition 222 = .ok (.aload_n 0, 1) := by decide +kernel
theorem dX5_edition_223 : decode cX5_edition 223 = .ok (.getfield 8, 3) := by decide +kernel
theorem dX5_edition_226 : decode cX5_edition 226 = .ok (.iload_n 3, 1) := by decide +kernel
theorem dX5_edition_227 : decode cX5_edition 227 = .ok (.iconst 4, 1) := by decide +kernel
theorem dX5_edition_228 : decode cX5_edition 228 = .ok (.iadd, 1) := by decide +kernel
theorem dX5_edition_229 : decode cX5_edition 229 = .ok (.iaload, 1) := by decide +kernel
theorem dX5_edition_230 : decode cX5_edition 230 = .ok (.ireturn, 1) := by decide +kernel
theorem dX5_edition_231 : decode cX5_edition 231 = .ok (.iload 4, 2) := by decide +kernel
theorem dX5_edition_233 : decode cX5_edition 233 = .ok (.ifCond .eq 15, 3) := by decide +kernel
theorem dX5_edition_236 : decode cX5_edition 236 = .ok (.aload_n 0, 1) := by decide +kernel
theorem dX5_edition_237 : decode cX5_edition 237 = .ok (.getfield 8, 3) := by decide +kernel
theorem dX5_edition_240 : decode cX5_edition 240 = .ok (.iload_n 3, 1) := by decide +kernel
theorem dX5_edition_241 : decode cX5_edition 241 = .ok (.bipush 6, 2) := by decide +kernel
theorem dX5_edition_243 : decode cX5_edition 243 = .ok (.iadd, 1) := by decide +kernel
theorem dX5_edition_244 : decode cX5_edition 244 = .ok (.iaload, 1) := by decide +kernel
theorem dX5_edition_245 : decode cX5_edition 245 = .ok (.goto 4, 3) := by decide +kernel
theorem dX5_edition_248 : decode cX5_edition 248 = .ok (.iconst 0, 1) := by decide +kernel
theorem dX5_edition_249 : decode cX5_edition 249 = .ok (.ireturn, 1) := by decide +kernel
theorem dX5_edition_250 : decode cX5_edition 250 = .ok (.bipush (-3), 2) := by decide +kernel
theorem dX5_edition_252 : decode cX5_edition 252 = .ok (.ireturn, 1) := by decide +kernel
theorem dX5_classOf_0 : decode cX5_classOf 0 = .ok (.aload_n 0, 1) := by decide +kernel
theorem dX5_classOf_1 : decode cX5_classOf 1 = .ok (.iload_n 1, 1) := by decide +kernel
theorem dX5_classOf_2 : decode cX5_classOf 2 = .ok (.invokevirtual 263, 3) := by decide +kernel
theorem dX5_classOf_5 : decode cX5_classOf 5 = .ok (.ifCond .eq 15, 3) := by decide +kernel
theorem dX5_classOf_8 : decode cX5_classOf 8 = .ok (.aload_n 0, 1) := by decide +kernel
theorem dX5_classOf_9 : decode cX5_classOf 9 = .ok (.getfield 8, 3) := by decide +kernel
theorem dX5_classOf_12 : decode cX5_classOf 12 = .ok (.iload_n 1, 1) := by decide +kernel
theorem dX5_classOf_13 : decode cX5_classOf 13 = .ok (.invokestatic 141, 3) := by decide +kernel
theorem dX5_classOf_16 : decode cX5_classOf 16 = .ok (.iaload, 1) := by decide +kernel
theorem dX5_classOf_17 : decode cX5_classOf 17 = .ok (.goto 4, 3) := by decide +kernel
theorem dX5_classOf_20 : decode cX5_classOf 20 = .ok (.iconst (-1), 1) := by decide +kernel
theorem dX5_classOf_21 : decode cX5_classOf 21 = .ok (.ireturn, 1) := by decide +kernel
theorem dX5_field_0 : decode cX5_field 0 = .ok (.aload_n 0, 1) := by decide +kernel
theorem dX5_field_1 : decode cX5_field 1 = .ok (.iload_n 1, 1) := by decide +kernel
theorem dX5_field_2 : decode cX5_field 2 = .ok (.invokevirtual 263, 3) := by decide +kernel
theorem dX5_field_5 : decode cX5_field 5 = .ok (.ifCond .eq 33, 3) := by decide +kernel
theorem dX5_field_8 : decode cX5_field 8 = .ok (.iload_n 2, 1) := by decide +kernel
theorem dX5_field_9 : decode cX5_field 9 = .ok (.ifCond .lt 29, 3) := by decide +kernel
theorem dX5_field_12 : decode cX5_field 12 = .ok (.iload_n 2, 1) := by decide +kernel
theorem dX5_field_13 : decode cX5_field 13 = .ok (.bipush 9, 2) := by decide +kernel
theorem dX5_field_15 : decode cX5_field 15 = .ok (.if_icmp .gt 23, 3) := by decide +kernel
theorem dX5_field_18 : decode cX5_field 18 = .ok (.aload_n 0, 1) := by decide +kernel
theorem dX5_field_19 : decode cX5_field 19 = .ok (.getfield 8, 3) := by decide +kernel
theorem dX5_field_22 : decode cX5_field 22 = .ok (.iload_n 1, 1) := by decide +kernel
theorem dX5_field_23 : decode cX5_field 23 = .ok (.invokestatic 141, 3) := by decide +kernel
theorem dX5_field_26 : decode cX5_field 26 = .ok (.iconst 1, 1) := by decide +kernel
theorem dX5_field_27 : decode cX5_field 27 = .ok (.iadd, 1) := by decide +kernel
theorem dX5_field_28 : decode cX5_field 28 = .ok (.iload_n 2, 1) := by decide +kernel
theorem dX5_field_29 : decode cX5_field 29 = .ok (.iadd, 1) := by decide +kernel
theorem dX5_field_30 : decode cX5_field 30 = .ok (.iaload, 1) := by decide +kernel
theorem dX5_field_31 : decode cX5_field 31 = .ok (.ifCond .eq 7, 3) := by decide +kernel
theorem dX5_field_34 : decode cX5_field 34 = .ok (.iconst 1, 1) := by decide +kernel
theorem dX5_field_35 : decode cX5_field 35 = .ok (.goto 4, 3) := by decide +kernel
theorem dX5_field_38 : decode cX5_field 38 = .ok (.iconst 0, 1) := by decide +kernel
theorem dX5_field_39 : decode cX5_field 39 = .ok (.istore 4, 2) := by decide +kernel
theorem dX5_field_41 : decode cX5_field 41 = .ok (.iload_n 3, 1) := by decide +kernel
theorem dX5_field_42 : decode cX5_field 42 = .ok (.ifCond .ne 30, 3) := by decide +kernel
theorem dX5_field_45 : decode cX5_field 45 = .ok (.iload 4, 2) := by decide +kernel
theorem dX5_field_47 : decode cX5_field 47 = .ok (.ifCond .eq 21, 3) := by decide +kernel
theorem dX5_field_50 : decode cX5_field 50 = .ok (.aload_n 0, 1) := by decide +kernel
theorem dX5_field_51 : decode cX5_field 51 = .ok (.getfield 8, 3) := by decide +kernel
theorem dX5_field_54 : decode cX5_field 54 = .ok (.iload_n 1, 1) := by decide +kernel
theorem dX5_field_55 : decode cX5_field 55 = .ok (.invokestatic 141, 3) := by decide +kernel
theorem dX5_field_58 : decode cX5_field 58 = .ok (.iconst 1, 1) := by decide +kernel
theorem dX5_field_59 : decode cX5_field 59 = .ok (.iadd, 1) := by decide +kernel
theorem dX5_field_60 : decode cX5_field 60 = .ok (.iload_n 2, 1) := by decide +kernel
theorem dX5_field_61 : decode cX5_field 61 = .ok (.iadd, 1) := by decide +kernel
theorem dX5_field_62 : decode cX5_field 62 = .ok (.iaload, 1) := by decide +kernel
theorem dX5_field_63 : decode cX5_field 63 = .ok (.iconst 1, 1) := by decide +kernel
theorem dX5_field_64 : decode cX5_field 64 = .ok (.isub, 1) := by decide +kernel
theorem dX5_field_65 : decode cX5_field 65 = .ok (.goto 35, 3) := by decide +kernel
theorem dX5_field_68 : decode cX5_field 68 = .ok (.iconst (-1), 1) := by decide +kernel
theorem dX5_field_69 : decode cX5_field 69 = .ok (.goto 31, 3) := by decide +kernel
theorem dX5_field_72 : decode cX5_field 72 = .ok (.iload_n 3, 1) := by decide +kernel
theorem dX5_field_73 : decode cX5_field 73 = .ok (.iconst 1, 1) := by decide +kernel
theorem dX5_field_74 : decode cX5_field 74 = .ok (.if_icmp .ne 25, 3) := by decide +kernel
theorem dX5_field_77 : decode cX5_field 77 = .ok (.iload 4, 2) := by decide +kernel
theorem dX5_field_79 : decode cX5_field 79 = .ok (.ifCond .eq 20, 3) := by decide +kernel
theorem dX5_field_82 : decode cX5_field 82 = .ok (.aload_n 0, 1) := by decide +kernel
theorem dX5_field_83 : decode cX5_field 83 = .ok (.getfield 8, 3) := by decide +kernel
theorem dX5_field_86 : decode cX5_field 86 = .ok (.iload_n 1, 1) := by decide +kernel
theorem dX5_field_87 : decode cX5_field 87 = .ok (.invokestatic 141, 3) := by decide +kernel
theorem dX5_field_90 : decode cX5_field 90 = .ok (.bipush 11, 2) := by decide +kernel
theorem dX5_field_92 : decode cX5_field 92 = .ok (.iadd, 1) := by decide +kernel
theorem dX5_field_93 : decode cX5_field 93 = .ok (.iload_n 2, 1) := by decide +kernel
theorem dX5_field_94 : decode cX5_field 94 = .ok (.iadd, 1) := by decide +kernel
theorem dX5_field_95 : decode cX5_field 95 = .ok (.iaload, 1) := by decide +kernel
theorem dX5_field_96 : decode cX5_field 96 = .ok (.goto 4, 3) := by decide +kernel
theorem dX5_field_99 : decode cX5_field 99 = .ok (.iconst 0, 1) := by decide +kernel
theorem dX5_field_100 : decode cX5_field 100 = .ok (.ireturn, 1) := by decide +kernel
theorem dX5_is_0 : decode cX5_is 0 = .ok (.aload_n 0, 1) := by decide +kernel
theorem dX5_is_1 : decode cX5_is 1 = .ok (.iload_n 1, 1) := by decide +kernel
theorem dX5_is_2 : decode cX5_is 2 = .ok (.invokevirtual 263, 3) := by decide +kernel
theorem dX5_is_5 : decode cX5_is 5 = .ok (.ifCond .eq 32, 3) := by decide +kernel
theorem dX5_is_8 : decode cX5_is 8 = .ok (.aload_n 0, 1) := by decide +kernel
theorem dX5_is_9 : decode cX5_is 9 = .ok (.iload_n 2, 1) := by decide +kernel
theorem dX5_is_10 : decode cX5_is 10 = .ok (.invokevirtual 266, 3) := by decide +kernel
theorem dX5_is_13 : decode cX5_is 13 = .ok (.ifCond .eq 24, 3) := by decide +kernel
theorem dX5_is_16 : decode cX5_is 16 = .ok (.aload_n 0, 1) := by decide +kernel
theorem dX5_is_17 : decode cX5_is 17 = .ok (.aload_n 0, 1) := by decide +kernel
theorem dX5_is_18 : decode cX5_is 18 = .ok (.getfield 8, 3) := by decide +kernel
theorem dX5_is_21 : decode cX5_is 21 = .ok (.iload_n 1, 1) := by decide +kernel
theorem dX5_is_22 : decode cX5_is 22 = .ok (.invokestatic 141, 3) := by decide +kernel
theorem dX5_is_25 : decode cX5_is 25 = .ok (.iaload, 1) := by decide +kernel
theorem dX5_is_26 : decode cX5_is 26 = .ok (.iload_n 2, 1) := by decide +kernel
theorem dX5_is_27 : decode cX5_is 27 = .ok (.invokevirtual 201, 3) := by decide +kernel
theorem dX5_is_30 : decode cX5_is 30 = .ok (.ifCond .eq 7, 3) := by decide +kernel
theorem dX5_is_33 : decode cX5_is 33 = .ok (.iconst 1, 1) := by decide +kernel
theorem dX5_is_34 : decode cX5_is 34 = .ok (.goto 4, 3) := by decide +kernel
theorem dX5_is_37 : decode cX5_is 37 = .ok (.iconst 0, 1) := by decide +kernel
theorem dX5_is_38 : decode cX5_is 38 = .ok (.ireturn, 1) := by decide +kernel
theorem dX5_call_0 : decode cX5_call 0 = .ok (.aload_n 0, 1) := by decide +kernel
theorem dX5_call_1 : decode cX5_call 1 = .ok (.iload_n 1, 1) := by decide +kernel
theorem dX5_call_2 : decode cX5_call 2 = .ok (.invokevirtual 263, 3) := by decide +kernel
theorem dX5_call_5 : decode cX5_call 5 = .ok (.ifCond .eq 12, 3) := by decide +kernel
theorem dX5_call_8 : decode cX5_call 8 = .ok (.iload_n 2, 1) := by decide +kernel
theorem dX5_call_9 : decode cX5_call 9 = .ok (.ifCond .lt 8, 3) := by decide +kernel
theorem dX5_call_12 : decode cX5_call 12 = .ok (.iload_n 2, 1) := by decide +kernel
theorem dX5_call_13 : decode cX5_call 13 = .ok (.iconst 4, 1) := by decide +kernel
theorem dX5_call_14 : decode cX5_call 14 = .ok (.if_icmp .le 5, 3) := by decide +kernel
theorem dX5_call_17 : decode cX5_call 17 = .ok (.iconst (-1), 1) := by decide +kernel
theorem dX5_call_18 : decode cX5_call 18 = .ok (.ireturn, 1) := by decide +kernel
theorem dX5_call_19 : decode cX5_call 19 = .ok (.aload_n 0, 1) := by decide +kernel
theorem dX5_call_20 : decode cX5_call 20 = .ok (.iconst 0, 1) := by decide +kernel
theorem dX5_call_21 : decode cX5_call 21 = .ok (.putfield 147, 3) := by decide +kernel
theorem dX5_call_24 : decode cX5_call 24 = .ok (.aload_n 0, 1) := by decide +kernel
theorem dX5_call_25 : decode cX5_call 25 = .ok (.iconst 0, 1) := by decide +kernel
theorem dX5_call_26 : decode cX5_call 26 = .ok (.putfield 150, 3) := by decide +kernel
theorem dX5_call_29 : decode cX5_call 29 = .ok (.aload_n 0, 1) := by decide +kernel
theorem dX5_call_30 : decode cX5_call 30 = .ok (.iconst 0, 1) := by decide +kernel
theorem dX5_call_31 : decode cX5_call 31 = .ok (.putfield 153, 3) := by decide +kernel
theorem dX5_call_34 : decode cX5_call 34 = .ok (.aload_n 0, 1) := by decide +kernel
theorem dX5_call_35 : decode cX5_call 35 = .ok (.iconst 0, 1) := by decide +kernel
theorem dX5_call_36 : decode cX5_call 36 = .ok (.putfield 159, 3) := by decide +kernel
theorem dX5_call_39 : decode cX5_call 39 = .ok (.aload_n 0, 1) := by decide +kernel
theorem dX5_call_40 : decode cX5_call 40 = .ok (.iconst 0, 1) := by decide +kernel
theorem dX5_call_41 : decode cX5_call 41 = .ok (.putfield 156, 3) := by decide +kernel
theorem dX5_call_44 : decode cX5_call 44 = .ok (.aload_n 0, 1) := by decide +kernel
theorem dX5_call_45 : decode cX5_call 45 = .ok (.iconst 0, 1) := by decide +kernel
theorem dX5_call_46 : decode cX5_call 46 = .ok (.putfield 215, 3) := by decide +kernel
theorem dX5_call_49 : decode cX5_call 49 = .ok (.aload_n 0, 1) := by decide +kernel
theorem dX5_call_50 : decode cX5_call 50 = .ok (.iconst 1, 1) := by decide +kernel
theorem dX5_call_51 : decode cX5_call 51 = .ok (.iload_n 1, 1) := by decide +kernel
theorem dX5_call_52 : decode cX5_call 52 = .ok (.invokevirtual 181, 3) := by decide +kernel
theorem dX5_call_55 : decode cX5_call 55 = .ok (.aload_n 0, 1) := by decide +kernel
theorem dX5_call_56 : decode cX5_call 56 = .ok (.iconst 0, 1) := by decide +kernel
theorem dX5_call_57 : decode cX5_call 57 = .ok (.iload_n 3, 1) := by decide +kernel
theorem dX5_call_58 : decode cX5_call 58 = .ok (.invokevirtual 181, 3) := by decide +kernel
theorem dX5_call_61 : decode cX5_call 61 = .ok (.aload_n 0, 1) := by decide +kernel
theorem dX5_call_62 : decode cX5_call 62 = .ok (.iload_n 1, 1) := by decide +kernel
theorem dX5_call_63 : decode cX5_call 63 = .ok (.iload_n 2, 1) := by decide +kernel
theorem dX5_call_64 : decode cX5_call 64 = .ok (.invokevirtual 205, 3) := by decide +kernel
theorem dX5_call_67 : decode cX5_call 67 = .ok (.aload_n 0, 1) := by decide +kernel
theorem dX5_call_68 : decode cX5_call 68 = .ok (.getfield 156, 3) := by decide +kernel
theorem dX5_call_71 : decode cX5_call 71 = .ok (.ifCond .ne 7, 3) := by decide +kernel
theorem dX5_call_74 : decode cX5_call 74 = .ok (.aload_n 0, 1) := by decide +kernel
theorem dX5_call_75 : decode cX5_call 75 = .ok (.invokevirtual 233, 3) := by decide +kernel
theorem dX5_call_78 : decode cX5_call 78 = .ok (.aload_n 0, 1) := by decide +kernel
theorem dX5_call_79 : decode cX5_call 79 = .ok (.aload_n 0, 1) := by decide +kernel
theorem dX5_call_80 : decode cX5_call 80 = .ok (.getfield 156, 3) := by decide +kernel
theorem dX5_call_83 : decode cX5_call 83 = .ok (.ifCond .ne 16, 3) := by decide +kernel
theorem dX5_call_86 : decode cX5_call 86 = .ok (.aload_n 0, 1) := by decide +kernel
theorem dX5_call_87 : decode cX5_call 87 = .ok (.getfield 30, 3) := by decide +kernel
theorem dX5_call_90 : decode cX5_call 90 = .ok (.iconst 0, 1) := by decide +kernel
theorem dX5_call_91 : decode cX5_call 91 = .ok (.baload, 1) := by decide +kernel
theorem dX5_call_92 : decode cX5_call 92 = .ok (.ifCond .eq 7, 3) := by decide +kernel
theorem dX5_call_95 : decode cX5_call 95 = .ok (.iconst 1, 1) := by decide +kernel
theorem dX5_call_96 : decode cX5_call 96 = .ok (.goto 4, 3) := by decide +kernel
theorem dX5_call_99 : decode cX5_call 99 = .ok (.iconst 0, 1) := by decide +kernel
theorem dX5_call_100 : decode cX5_call 100 = .ok (.putfield 269, 3) := by decide +kernel
theorem dX5_call_103 : decode cX5_call 103 = .ok (.aload_n 0, 1) := by decide +kernel
theorem dX5_call_104 : decode cX5_call 104 = .ok (.aload_n 0, 1) := by decide +kernel
theorem dX5_call_105 : decode cX5_call 105 = .ok (.getfield 156, 3) := by decide +kernel
theorem dX5_call_108 : decode cX5_call 108 = .ok (.ifCond .ne 12, 3) := by decide +kernel
theorem dX5_call_111 : decode cX5_call 111 = .ok (.aload_n 0, 1) := by decide +kernel
theorem dX5_call_112 : decode cX5_call 112 = .ok (.getfield 33, 3) := by decide +kernel
theorem dX5_call_115 : decode cX5_call 115 = .ok (.iconst 0, 1) := by decide +kernel
theorem dX5_call_116 : decode cX5_call 116 = .ok (.iaload, 1) := by decide +kernel
theorem dX5_call_117 : decode cX5_call 117 = .ok (.goto 4, 3) := by decide +kernel
theorem dX5_call_120 : decode cX5_call 120 = .ok (.iconst 0, 1) := by decide +kernel
theorem dX5_call_121 : decode cX5_call 121 = .ok (.putfield 272, 3) := by decide +kernel
theorem dX5_call_124 : decode cX5_call 124 = .ok (.aload_n 0, 1) := by decide +kernel
theorem dX5_call_125 : decode cX5_call 125 = .ok (.aload_n 0, 1) := by decide +kernel
theorem dX5_call_126 : decode cX5_call 126 = .ok (.getfield 156, 3) := by decide +kernel
theorem dX5_call_129 : decode cX5_call 129 = .ok (.bipush 100, 2) := by decide +kernel
theorem dX5_call_131 : decode cX5_call 131 = .ok (.if_icmp .ne 7, 3) := by decide +kernel
theorem dX5_call_134 : decode cX5_call 134 = .ok (.iconst 0, 1) := by decide +kernel
theorem dX5_call_135 : decode cX5_call 135 = .ok (.goto 7, 3) := by decide +kernel
theorem dX5_call_138 : decode cX5_call 138 = .ok (.aload_n 0, 1) := by decide +kernel
theorem dX5_call_139 : decode cX5_call 139 = .ok (.getfield 156, 3) := by decide +kernel
theorem dX5_call_142 : decode cX5_call 142 = .ok (.putfield 275, 3) := by decide +kernel
theorem dX5_call_145 : decode cX5_call 145 = .ok (.aload_n 0, 1) := by decide +kernel
theorem dX5_call_146 : decode cX5_call 146 = .ok (.aload_n 0, 1) := by decide +kernel
theorem dX5_call_147 : decode cX5_call 147 = .ok (.getfield 159, 3) := by decide +kernel
theorem dX5_call_150 : decode cX5_call 150 = .ok (.putfield 278, 3) := by decide +kernel
theorem dX5_call_153 : decode cX5_call 153 = .ok (.aload_n 0, 1) := by decide +kernel
theorem dX5_call_154 : decode cX5_call 154 = .ok (.getfield 156, 3) := by decide +kernel
theorem dX5_call_157 : decode cX5_call 157 = .ok (.ifCond .ne 7, 3) := by decide +kernel
theorem dX5_call_160 : decode cX5_call 160 = .ok (.iconst 0, 1) := by decide +kernel
theorem dX5_call_161 : decode cX5_call 161 = .ok (.goto 17, 3) := by decide +kernel
theorem dX5_call_164 : decode cX5_call 164 = .ok (.aload_n 0, 1) := by decide +kernel
theorem dX5_call_165 : decode cX5_call 165 = .ok (.getfield 156, 3) := by decide +kernel
theorem dX5_call_168 : decode cX5_call 168 = .ok (.bipush 100, 2) := by decide +kernel
theorem dX5_call_170 : decode cX5_call 170 = .ok (.if_icmp .ne 7, 3) := by decide +kernel
theorem dX5_call_173 : decode cX5_call 173 = .ok (.iconst 2, 1) := by decide +kernel
theorem dX5_call_174 : decode cX5_call 174 = .ok (.goto 4, 3) := by decide +kernel
theorem dX5_call_177 : decode cX5_call 177 = .ok (.iconst 1, 1) := by decide +kernel
theorem dX5_call_178 : decode cX5_call 178 = .ok (.ireturn, 1) := by decide +kernel
theorem dX5_came_0 : decode cX5_came 0 = .ok (.iload_n 1, 1) := by decide +kernel
theorem dX5_came_1 : decode cX5_came 1 = .ok (.ifCond .ne 10, 3) := by decide +kernel
theorem dX5_came_4 : decode cX5_came 4 = .ok (.aload_n 0, 1) := by decide +kernel
theorem dX5_came_5 : decode cX5_came 5 = .ok (.getfield 269, 3) := by decide +kernel
theorem dX5_came_8 : decode cX5_came 8 = .ok (.goto 40, 3) := by decide +kernel
theorem dX5_came_11 : decode cX5_came 11 = .ok (.iload_n 1, 1) := by decide +kernel
theorem dX5_came_12 : decode cX5_came 12 = .ok (.iconst 1, 1) := by decide +kernel
theorem dX5_came_13 : decode cX5_came 13 = .ok (.if_icmp .ne 10, 3) := by decide +kernel
theorem dX5_came_16 : decode cX5_came 16 = .ok (.aload_n 0, 1) := by decide +kernel
theorem dX5_came_17 : decode cX5_came 17 = .ok (.getfield 272, 3) := by decide +kernel
theorem dX5_came_20 : decode cX5_came 20 = .ok (.goto 28, 3) := by decide +kernel
theorem dX5_came_23 : decode cX5_came 23 = .ok (.iload_n 1, 1) := by decide +kernel
theorem dX5_came_24 : decode cX5_came 24 = .ok (.iconst 2, 1) := by decide +kernel
theorem dX5_came_25 : decode cX5_came 25 = .ok (.if_icmp .ne 10, 3) := by decide +kernel
theorem dX5_came_28 : decode cX5_came 28 = .ok (.aload_n 0, 1) := by decide +kernel
theorem dX5_came_29 : decode cX5_came 29 = .ok (.getfield 275, 3) := by decide +kernel
theorem dX5_came_32 : decode cX5_came 32 = .ok (.goto 16, 3) := by decide +kernel
theorem dX5_came_35 : decode cX5_came 35 = .ok (.iload_n 1, 1) := by decide +kernel
theorem dX5_came_36 : decode cX5_came 36 = .ok (.iconst 3, 1) := by decide +kernel
theorem dX5_came_37 : decode cX5_came 37 = .ok (.if_icmp .ne 10, 3) := by decide +kernel
theorem dX5_came_40 : decode cX5_came 40 = .ok (.aload_n 0, 1) := by decide +kernel
theorem dX5_came_41 : decode cX5_came 41 = .ok (.getfield 278, 3) := by decide +kernel
theorem dX5_came_44 : decode cX5_came 44 = .ok (.goto 4, 3) := by decide +kernel
theorem dX5_came_47 : decode cX5_came 47 = .ok (.iconst 0, 1) := by decide +kernel
theorem dX5_came_48 : decode cX5_came 48 = .ok (.ireturn, 1) := by decide +kernel
section RM
variable {ρ : Type} {p : Program} {l : Launch} {e : Env} {R : Room} {s : State} {m : MethodId} {args : Array Value} {below : List Frame} {meth : Method} {c : Code}
variable {cc : ByteArray} {nL : Nat} {rt : Option FieldType} {D : va_G} {cI cZ : ClassId} {q : Nat → Nat} {QQ : ρ → State → Prop} {pc : Nat} {lv : List (Nat × Value)}

-- written
def fR_written (n : Nat) (x1 : Int32) (x2 : Int32) (x3 : Int32) (M : MR) : Option (Int32 × MR) :=
    bnd (fR_isCell n x1 M) fun v1 M1 =>
    if v1 = 0 then
      (some ((0 : Int32), M1))
    else
      (if x2 < 0 then
        (some ((0 : Int32), M1))
      else
        (if (20 : Int32) ≤ x2 then
          (some ((0 : Int32), M1))
        else
          (bnd (fR_cellAt n x1 M1) fun v2 M2 =>
          rd M2 0 62610 (v2 + (6 : Int32)) fun v3 =>
          if v3 ≤ x2 then
            (some ((0 : Int32), M2))
          else
            (if x3 < 0 then
              (some ((0 : Int32), M2))
            else
              (if x3 ≤ (1 : Int32) then
                (bnd (fR_cellAt n x1 M2) fun v4 M4 =>
                rd M4 0 62610 (((v4 + (71 : Int32)) + ((2 : Int32) * x2)) + x3) fun v5 =>
                some (v5, M4))
              else
                (some ((0 : Int32), M2)))))))
theorem c_written (l : Launch) (D : va_G) (cI cZ : ClassId) (q : Nat → Nat) (n : Nat) (x1 : Int32) (x2 : Int32) (x3 : Int32) (M : MR) : MetR l D cI cZ q yX5_written cX5_written 4 (some .int) 1 21 QI [.ref (q 34), .int x1, .int x2, .int x3] M (fR_written n x1 x2 x3 M) := by
  refine MetR.of (by decide) rfl (Nat.le_of_ble_eq_true rfl) ?_
  intro p e s m args below meth c X
  unfold fR_written
  refine g_pick (lv' := [(0, .ref (q 34)), (1, .int x1), (2, .int x2), (3, .int x3)]) [0, 1, 2, 3] rfl ?_
  refine g_aload_n X dX5_written_0 rfl rfl ?_
  refine g_iload_n X dX5_written_1 rfl rfl ?_
  refine k_isCell X ⟨Nat.le_of_ble_eq_true rfl, Nat.le_of_ble_eq_true rfl⟩ (Nat.le_of_ble_eq_true rfl) dX5_written_2 ?_
  intro v1 M1
  refine g_if_eq (tgt := 43) X dX5_written_5 (by decide) ?_ ?_
  · refine g_iconst (v := (0 : Int32)) X dX5_written_43 (by decide) ?_
    exact r_iret X dX5_written_44
  · refine g_iload_n X dX5_written_8 rfl rfl ?_
    refine g_if_lt (tgt := 43) X dX5_written_9 (by decide) ?_ ?_
    · refine g_iconst (v := (0 : Int32)) X dX5_written_43 (by decide) ?_
      exact r_iret X dX5_written_44
    · refine g_iload_n X dX5_written_12 rfl rfl ?_
      refine g_bipush (v := (20 : Int32)) X dX5_written_13 (by decide) ?_
      refine g_icmp_ge (tgt := 43) X dX5_written_15 (by decide) ?_ ?_
      · refine g_iconst (v := (0 : Int32)) X dX5_written_43 (by decide) ?_
        exact r_iret X dX5_written_44
      · refine g_iload_n X dX5_written_18 rfl rfl ?_
        refine g_aload_n X dX5_written_19 rfl rfl ?_
        refine r_g_m X dX5_written_20 ?_
        refine g_iload_n X dX5_written_23 rfl rfl ?_
        refine k_cellAt X ⟨Nat.le_of_ble_eq_true rfl, Nat.le_of_ble_eq_true rfl⟩ (Nat.le_of_ble_eq_true rfl) dX5_written_24 ?_
        intro v2 M2
        refine g_bipush (v := (6 : Int32)) X dX5_written_27 (by decide) ?_
        refine g_iadd X dX5_written_29 ?_
        refine r_l_m X dX5_written_30 ?_
        intro v3
        refine g_icmp_ge (tgt := 43) X dX5_written_31 (by decide) ?_ ?_
        · refine g_iconst (v := (0 : Int32)) X dX5_written_43 (by decide) ?_
          exact r_iret X dX5_written_44
        · refine g_iload_n X dX5_written_34 rfl rfl ?_
          refine g_if_lt (tgt := 43) X dX5_written_35 (by decide) ?_ ?_
          · refine g_iconst (v := (0 : Int32)) X dX5_written_43 (by decide) ?_
            exact r_iret X dX5_written_44
          · refine g_iload_n X dX5_written_38 rfl rfl ?_
            refine g_iconst (v := (1 : Int32)) X dX5_written_39 (by decide) ?_
            refine g_icmp_le (tgt := 45) X dX5_written_40 (by decide) ?_ ?_
            · refine g_aload_n X dX5_written_45 rfl rfl ?_
              refine r_g_m X dX5_written_46 ?_
              refine g_iload_n X dX5_written_49 rfl rfl ?_
              refine k_cellAt X ⟨Nat.le_of_ble_eq_true rfl, Nat.le_of_ble_eq_true rfl⟩ (Nat.le_of_ble_eq_true rfl) dX5_written_50 ?_
              intro v4 M4
              refine g_bipush (v := (71 : Int32)) X dX5_written_53 (by decide) ?_
              refine g_iadd X dX5_written_55 ?_
              refine g_iconst (v := (2 : Int32)) X dX5_written_56 (by decide) ?_
              refine g_iload_n X dX5_written_57 rfl rfl ?_
              refine g_imul X dX5_written_58 ?_
              refine g_iadd X dX5_written_59 ?_
              refine g_iload_n X dX5_written_60 rfl rfl ?_
              refine g_iadd X dX5_written_61 ?_
              refine r_l_m X dX5_written_62 ?_
              intro v5
              exact r_iret X dX5_written_63
            · refine g_iconst (v := (0 : Int32)) X dX5_written_43 (by decide) ?_
              exact r_iret X dX5_written_44
-- count
def fR_count (n : Nat) (x1 : Int32) (M : MR) : Option (Int32 × MR) :=
    if x1 = 0 then
      (rd M 0 62610 (1 : Int32) fun v4 =>
      some (v4, M))
    else
      (if x1 = (1 : Int32) then
        (rd M 0 62610 (2 : Int32) fun v3 =>
        some (v3, M))
      else
        (if x1 = (2 : Int32) then
          (rd M 0 62610 (0 : Int32) fun v2 =>
          some (v2, M))
        else
          (if x1 = (3 : Int32) then
            (gf M 3 fun v1 =>
            some (v1, M))
          else
            (some ((-1 : Int32), M)))))
theorem c_count (l : Launch) (D : va_G) (cI cZ : ClassId) (q : Nat → Nat) (n : Nat) (x1 : Int32) (M : MR) : MetR l D cI cZ q yX5_count cX5_count 2 (some .int) 0 0 QI [.ref (q 34), .int x1] M (fR_count n x1 M) := by
  refine MetR.of (by decide) rfl (Nat.le_of_ble_eq_true rfl) ?_
  intro p e s m args below meth c X
  unfold fR_count
  refine g_pick (lv' := [(0, .ref (q 34)), (1, .int x1)]) [0, 1] rfl ?_
  refine g_iload_n X dX5_count_0 rfl rfl ?_
  refine g_if_ne (tgt := 13) X dX5_count_1 (by decide) ?_ ?_
  · refine g_iload_n X dX5_count_13 rfl rfl ?_
    refine g_iconst (v := (1 : Int32)) X dX5_count_14 (by decide) ?_
    refine g_icmp_ne (tgt := 27) X dX5_count_15 (by decide) ?_ ?_
    · refine g_iload_n X dX5_count_27 rfl rfl ?_
      refine g_iconst (v := (2 : Int32)) X dX5_count_28 (by decide) ?_
      refine g_icmp_ne (tgt := 41) X dX5_count_29 (by decide) ?_ ?_
      · refine g_iload_n X dX5_count_41 rfl rfl ?_
        refine g_iconst (v := (3 : Int32)) X dX5_count_42 (by decide) ?_
        refine g_icmp_ne (tgt := 53) X dX5_count_43 (by decide) ?_ ?_
        · refine g_iconst (v := (-1 : Int32)) X dX5_count_53 (by decide) ?_
          exact r_iret X dX5_count_54
        · refine g_aload_n X dX5_count_46 rfl rfl ?_
          refine r_g_taped X dX5_count_47 ?_
          intro v1
          refine g_goto (tgt := 54) X dX5_count_50 (by decide) ?_
          exact r_iret X dX5_count_54
      · refine g_aload_n X dX5_count_32 rfl rfl ?_
        refine r_g_m X dX5_count_33 ?_
        refine g_iconst (v := (0 : Int32)) X dX5_count_36 (by decide) ?_
        refine r_l_m X dX5_count_37 ?_
        intro v2
        refine g_goto (tgt := 54) X dX5_count_38 (by decide) ?_
        exact r_iret X dX5_count_54
    · refine g_aload_n X dX5_count_18 rfl rfl ?_
      refine r_g_m X dX5_count_19 ?_
      refine g_iconst (v := (2 : Int32)) X dX5_count_22 (by decide) ?_
      refine r_l_m X dX5_count_23 ?_
      intro v3
      refine g_goto (tgt := 54) X dX5_count_24 (by decide) ?_
      exact r_iret X dX5_count_54
  · refine g_aload_n X dX5_count_4 rfl rfl ?_
    refine r_g_m X dX5_count_5 ?_
    refine g_iconst (v := (1 : Int32)) X dX5_count_8 (by decide) ?_
    refine r_l_m X dX5_count_9 ?_
    intro v4
    refine g_goto (tgt := 54) X dX5_count_10 (by decide) ?_
    exact r_iret X dX5_count_54
-- edition
def fR_edition_b77 (n : Nat) (k41 : Int32 → Int32 → Int32 → Int32 → Int32 → Int32 → MR → Option (Int32 × MR)) (x1 : Int32) (x2 : Int32) (x3 : Int32) (x4 : Int32) (x6 : Int32) (s0 : Int32) (s1 : Int32) (M : MR) : Option (Int32 × MR) :=
    k41 x1 x2 x3 x4 (s0 + s1) (x6 + (1 : Int32)) M
theorem wR_edition_b77 (X : gX p s m args meth c cX5_edition 7 RX5 (some .int) D (tyR cI cZ)) (n : Nat) (k41 : Int32 → Int32 → Int32 → Int32 → Int32 → Int32 → MR → Option (Int32 × MR)) (hk41 : ∀ (x1 : Int32) (x2 : Int32) (x3 : Int32) (x4 : Int32) (x5 : Int32) (x6 : Int32) (M : MR), gG p l e (rmR 3 63) s m args below meth c 7 (ZR D cI cZ q (AR q s.heap.size) s.heap M) 0 0 (fun r => MQ below (QI D cI cZ q s.heap.size r) args s 0 0 (AR q s.heap.size)) 41 [(0, .ref (q 34)), (1, .int x1), (2, .int x2), (3, .int x3), (4, .int x4), (5, .int x5), (6, .int x6)] [] (k41 x1 x2 x3 x4 x5 x6 M)) (x1 : Int32) (x2 : Int32) (x3 : Int32) (x4 : Int32) (x6 : Int32) (s0 : Int32) (s1 : Int32) (M : MR) : gG p l e (rmR 3 63) s m args below meth c 7 (ZR D cI cZ q (AR q s.heap.size) s.heap M) 0 0 (fun r => MQ below (QI D cI cZ q s.heap.size r) args s 0 0 (AR q s.heap.size)) 77 [(0, .ref (q 34)), (1, .int x1), (2, .int x2), (3, .int x3), (4, .int x4), (6, .int x6)] [.int s1, .int s0] (fR_edition_b77 n k41 x1 x2 x3 x4 x6 s0 s1 M) := by
  unfold fR_edition_b77
  refine g_iadd X dX5_edition_77 ?_
  refine g_istore (lv' := [(5, .int (s0 + s1)), (0, .ref (q 34)), (1, .int x1), (2, .int x2), (3, .int x3), (4, .int x4), (6, .int x6)]) X dX5_edition_78 (by decide) rfl ?_
  refine g_iinc (v := (1 : Int32)) (lv' := [(6, .int (x6 + (1 : Int32))), (5, .int (s0 + s1)), (0, .ref (q 34)), (1, .int x1), (2, .int x2), (3, .int x3), (4, .int x4)]) X dX5_edition_80 rfl (by decide) (by decide) rfl ?_
  refine g_goto (tgt := 41) X dX5_edition_83 (by decide) ?_
  exact g_pick [2, 3, 4, 5, 6, 1, 0] rfl (hk41 x1 x2 x3 x4 (s0 + s1) (x6 + (1 : Int32)) M)
def fR_edition_l41 (n : Nat) : Nat → Int32 → Int32 → Int32 → Int32 → Int32 → Int32 → MR → Option (Int32 × MR)
  | 0, _, _, _, _, _, _, _ => none
  | k + 1, x1, x2, x3, x4, x5, x6, M => if x1 ≤ x6 then
      (if x2 = (0 : Int32) then
        (rd M 0 62610 (x3 + (0 : Int32)) fun v2 =>
        some (v2, M))
      else if x2 = (1 : Int32) then
        (some (x5, M))
      else if x2 = (2 : Int32) then
        (rd M 0 62610 (x3 + (2 : Int32)) fun v5 =>
        some (v5, M))
      else if x2 = (3 : Int32) then
        (rd M 0 62610 (x3 + (1 : Int32)) fun v7 =>
        some (v7, M))
      else if x2 = (4 : Int32) then
        (rd M 0 62610 (x3 + (0 : Int32)) fun v9 =>
        bnd (fR_newest n v9 M) fun v10 M10 =>
        if v10 = x1 then (some ((1 : Int32), M10)) else (some ((0 : Int32), M10)))
      else if x2 = (5 : Int32) then
        (if x4 = 0 then
          (rd M 0 62610 (x3 + (3 : Int32)) fun v12 =>
          some (v12, M))
        else
          (bnd (fR_parentOf n x1 M) fun v13 M13 =>
          some (v13, M13)))
      else if x2 = (6 : Int32) then
        (if x4 = 0 then
          (rd M 0 62610 (x3 + (4 : Int32)) fun v15 =>
          some (v15, M))
        else
          (rd M 0 62610 (x3 + (5 : Int32)) fun v16 =>
          some (v16, M)))
      else if x2 = (7 : Int32) then
        (if x4 = 0 then
          (some ((0 : Int32), M))
        else
          (rd M 0 62610 (x3 + (6 : Int32)) fun v18 =>
          some (v18, M)))
      else (some ((-3 : Int32), M)))
    else
      (bnd (fR_editAt n x6 M) fun v19 M19 =>
      rd M19 0 62610 (v19 + (0 : Int32)) fun v20 =>
      rd M19 0 62610 (x3 + (0 : Int32)) fun v21 =>
      if v20 = v21 then
        (fR_edition_b77 n (fR_edition_l41 n k) x1 x2 x3 x4 x6 x5 (1 : Int32) M19)
      else
        (fR_edition_b77 n (fR_edition_l41 n k) x1 x2 x3 x4 x6 x5 (0 : Int32) M19))
theorem wR_edition_l41 (X : gX p s m args meth c cX5_edition 7 RX5 (some .int) D (tyR cI cZ)) (n : Nat) : ∀ (k : Nat) (x1 : Int32) (x2 : Int32) (x3 : Int32) (x4 : Int32) (x5 : Int32) (x6 : Int32) (M : MR), gG p l e (rmR 3 63) s m args below meth c 7 (ZR D cI cZ q (AR q s.heap.size) s.heap M) 0 0 (fun r => MQ below (QI D cI cZ q s.heap.size r) args s 0 0 (AR q s.heap.size)) 41 [(0, .ref (q 34)), (1, .int x1), (2, .int x2), (3, .int x3), (4, .int x4), (5, .int x5), (6, .int x6)] [] (fR_edition_l41 n k x1 x2 x3 x4 x5 x6 M) := by
  intro k
  induction k with
  | zero =>
    intro x1 x2 x3 x4 x5 x6 M
    exact g_none
  | succ k ih =>
    intro x1 x2 x3 x4 x5 x6 M
    rw [fR_edition_l41]
    refine g_iload X dX5_edition_41 rfl ?_
    refine g_iload_n X dX5_edition_43 rfl rfl ?_
    refine g_icmp_ge (tgt := 86) X dX5_edition_44 (by decide) ?_ ?_
    · refine g_iload_n X dX5_edition_86 rfl rfl ?_
      refine g_ite (fun h1 => ?_) (fun h1 => ?_)
      · refine g_tIn (off := 45) (tgt := 132) X dX5_edition_87 (by rw [h1]; decide) (by rw [h1]; decide) (by rw [h1]; rfl) (by decide) ?_
        refine g_aload_n X dX5_edition_132 rfl rfl ?_
        refine r_g_m X dX5_edition_133 ?_
        refine g_iload_n X dX5_edition_136 rfl rfl ?_
        refine g_iconst (v := (0 : Int32)) X dX5_edition_137 (by decide) ?_
        refine g_iadd X dX5_edition_138 ?_
        refine r_l_m X dX5_edition_139 ?_
        intro v2
        exact r_iret X dX5_edition_140
      have eh1 := tn_i (n := 0) h1 (by decide)
      refine g_ite (fun h3 => ?_) (fun h3 => ?_)
      · refine g_tIn (off := 54) (tgt := 141) X dX5_edition_87 (by rw [h3]; decide) (by rw [h3]; decide) (by rw [h3]; rfl) (by decide) ?_
        refine g_iload X dX5_edition_141 rfl ?_
        exact r_iret X dX5_edition_143
      have eh3 := tn_i (n := 1) h3 (by decide)
      refine g_ite (fun h4 => ?_) (fun h4 => ?_)
      · refine g_tIn (off := 57) (tgt := 144) X dX5_edition_87 (by rw [h4]; decide) (by rw [h4]; decide) (by rw [h4]; rfl) (by decide) ?_
        refine g_aload_n X dX5_edition_144 rfl rfl ?_
        refine r_g_m X dX5_edition_145 ?_
        refine g_iload_n X dX5_edition_148 rfl rfl ?_
        refine g_iconst (v := (2 : Int32)) X dX5_edition_149 (by decide) ?_
        refine g_iadd X dX5_edition_150 ?_
        refine r_l_m X dX5_edition_151 ?_
        intro v5
        exact r_iret X dX5_edition_152
      have eh4 := tn_i (n := 2) h4 (by decide)
      refine g_ite (fun h6 => ?_) (fun h6 => ?_)
      · refine g_tIn (off := 66) (tgt := 153) X dX5_edition_87 (by rw [h6]; decide) (by rw [h6]; decide) (by rw [h6]; rfl) (by decide) ?_
        refine g_aload_n X dX5_edition_153 rfl rfl ?_
        refine r_g_m X dX5_edition_154 ?_
        refine g_iload_n X dX5_edition_157 rfl rfl ?_
        refine g_iconst (v := (1 : Int32)) X dX5_edition_158 (by decide) ?_
        refine g_iadd X dX5_edition_159 ?_
        refine r_l_m X dX5_edition_160 ?_
        intro v7
        exact r_iret X dX5_edition_161
      have eh6 := tn_i (n := 3) h6 (by decide)
      refine g_ite (fun h8 => ?_) (fun h8 => ?_)
      · refine g_tIn (off := 75) (tgt := 162) X dX5_edition_87 (by rw [h8]; decide) (by rw [h8]; decide) (by rw [h8]; rfl) (by decide) ?_
        refine g_aload_n X dX5_edition_162 rfl rfl ?_
        refine g_aload_n X dX5_edition_163 rfl rfl ?_
        refine r_g_m X dX5_edition_164 ?_
        refine g_iload_n X dX5_edition_167 rfl rfl ?_
        refine g_iconst (v := (0 : Int32)) X dX5_edition_168 (by decide) ?_
        refine g_iadd X dX5_edition_169 ?_
        refine r_l_m X dX5_edition_170 ?_
        intro v9
        refine k_newest X ⟨Nat.le_of_ble_eq_true rfl, Nat.le_of_ble_eq_true rfl⟩ (Nat.le_of_ble_eq_true rfl) dX5_edition_171 ?_
        intro v10 M10
        refine g_iload_n X dX5_edition_174 rfl rfl ?_
        refine g_icmp_ne (tgt := 182) X dX5_edition_175 (by decide) ?_ ?_
        · refine g_iconst (v := (0 : Int32)) X dX5_edition_182 (by decide) ?_
          exact r_iret X dX5_edition_183
        · refine g_iconst (v := (1 : Int32)) X dX5_edition_178 (by decide) ?_
          refine g_goto (tgt := 183) X dX5_edition_179 (by decide) ?_
          exact r_iret X dX5_edition_183
      have eh8 := tn_i (n := 4) h8 (by decide)
      refine g_ite (fun h11 => ?_) (fun h11 => ?_)
      · refine g_tIn (off := 97) (tgt := 184) X dX5_edition_87 (by rw [h11]; decide) (by rw [h11]; decide) (by rw [h11]; rfl) (by decide) ?_
        refine g_iload X dX5_edition_184 rfl ?_
        refine g_if_eq (tgt := 197) X dX5_edition_186 (by decide) ?_ ?_
        · refine g_aload_n X dX5_edition_197 rfl rfl ?_
          refine r_g_m X dX5_edition_198 ?_
          refine g_iload_n X dX5_edition_201 rfl rfl ?_
          refine g_iconst (v := (3 : Int32)) X dX5_edition_202 (by decide) ?_
          refine g_iadd X dX5_edition_203 ?_
          refine r_l_m X dX5_edition_204 ?_
          intro v12
          exact r_iret X dX5_edition_205
        · refine g_aload_n X dX5_edition_189 rfl rfl ?_
          refine g_iload_n X dX5_edition_190 rfl rfl ?_
          refine k_parentOf X ⟨Nat.le_of_ble_eq_true rfl, Nat.le_of_ble_eq_true rfl⟩ (Nat.le_of_ble_eq_true rfl) dX5_edition_191 ?_
          intro v13 M13
          refine g_goto (tgt := 205) X dX5_edition_194 (by decide) ?_
          exact r_iret X dX5_edition_205
      have eh11 := tn_i (n := 5) h11 (by decide)
      refine g_ite (fun h14 => ?_) (fun h14 => ?_)
      · refine g_tIn (off := 119) (tgt := 206) X dX5_edition_87 (by rw [h14]; decide) (by rw [h14]; decide) (by rw [h14]; rfl) (by decide) ?_
        refine g_iload X dX5_edition_206 rfl ?_
        refine g_if_eq (tgt := 222) X dX5_edition_208 (by decide) ?_ ?_
        · refine g_aload_n X dX5_edition_222 rfl rfl ?_
          refine r_g_m X dX5_edition_223 ?_
          refine g_iload_n X dX5_edition_226 rfl rfl ?_
          refine g_iconst (v := (4 : Int32)) X dX5_edition_227 (by decide) ?_
          refine g_iadd X dX5_edition_228 ?_
          refine r_l_m X dX5_edition_229 ?_
          intro v15
          exact r_iret X dX5_edition_230
        · refine g_aload_n X dX5_edition_211 rfl rfl ?_
          refine r_g_m X dX5_edition_212 ?_
          refine g_iload_n X dX5_edition_215 rfl rfl ?_
          refine g_iconst (v := (5 : Int32)) X dX5_edition_216 (by decide) ?_
          refine g_iadd X dX5_edition_217 ?_
          refine r_l_m X dX5_edition_218 ?_
          intro v16
          refine g_goto (tgt := 230) X dX5_edition_219 (by decide) ?_
          exact r_iret X dX5_edition_230
      have eh14 := tn_i (n := 6) h14 (by decide)
      refine g_ite (fun h17 => ?_) (fun h17 => ?_)
      · refine g_tIn (off := 144) (tgt := 231) X dX5_edition_87 (by rw [h17]; decide) (by rw [h17]; decide) (by rw [h17]; rfl) (by decide) ?_
        refine g_iload X dX5_edition_231 rfl ?_
        refine g_if_eq (tgt := 248) X dX5_edition_233 (by decide) ?_ ?_
        · refine g_iconst (v := (0 : Int32)) X dX5_edition_248 (by decide) ?_
          exact r_iret X dX5_edition_249
        · refine g_aload_n X dX5_edition_236 rfl rfl ?_
          refine r_g_m X dX5_edition_237 ?_
          refine g_iload_n X dX5_edition_240 rfl rfl ?_
          refine g_bipush (v := (6 : Int32)) X dX5_edition_241 (by decide) ?_
          refine g_iadd X dX5_edition_243 ?_
          refine r_l_m X dX5_edition_244 ?_
          intro v18
          refine g_goto (tgt := 249) X dX5_edition_245 (by decide) ?_
          exact r_iret X dX5_edition_249
      have eh17 := tn_i (n := 7) h17 (by decide)
      refine g_tOut (tgt := 250) X dX5_edition_87 (by omega) (by decide) ?_
      refine g_bipush (v := (-3 : Int32)) X dX5_edition_250 (by decide) ?_
      exact r_iret X dX5_edition_252
    · refine g_iload X dX5_edition_47 rfl ?_
      refine g_aload_n X dX5_edition_49 rfl rfl ?_
      refine r_g_m X dX5_edition_50 ?_
      refine g_iload X dX5_edition_53 rfl ?_
      refine k_editAt X ⟨Nat.le_of_ble_eq_true rfl, Nat.le_of_ble_eq_true rfl⟩ (Nat.le_of_ble_eq_true rfl) dX5_edition_55 ?_
      intro v19 M19
      refine g_iconst (v := (0 : Int32)) X dX5_edition_58 (by decide) ?_
      refine g_iadd X dX5_edition_59 ?_
      refine r_l_m X dX5_edition_60 ?_
      intro v20
      refine g_aload_n X dX5_edition_61 rfl rfl ?_
      refine r_g_m X dX5_edition_62 ?_
      refine g_iload_n X dX5_edition_65 rfl rfl ?_
      refine g_iconst (v := (0 : Int32)) X dX5_edition_66 (by decide) ?_
      refine g_iadd X dX5_edition_67 ?_
      refine r_l_m X dX5_edition_68 ?_
      intro v21
      refine g_icmp_ne (tgt := 76) X dX5_edition_69 (by decide) ?_ ?_
      · refine g_iconst (v := (0 : Int32)) X dX5_edition_76 (by decide) ?_
        exact g_pick [0, 1, 2, 3, 4, 6] rfl (wR_edition_b77 X n (fR_edition_l41 n k) ih x1 x2 x3 x4 x6 x5 (0 : Int32) M19)
      · refine g_iconst (v := (1 : Int32)) X dX5_edition_72 (by decide) ?_
        refine g_goto (tgt := 77) X dX5_edition_73 (by decide) ?_
        exact g_pick [0, 1, 2, 3, 4, 6] rfl (wR_edition_b77 X n (fR_edition_l41 n k) ih x1 x2 x3 x4 x6 x5 (1 : Int32) M19)
def fR_edition_b33 (n : Nat) (x1 : Int32) (x2 : Int32) (x3 : Int32) (s0 : Int32) (M : MR) : Option (Int32 × MR) :=
    fR_edition_l41 n n x1 x2 x3 s0 (0 : Int32) (0 : Int32) M
theorem wR_edition_b33 (X : gX p s m args meth c cX5_edition 7 RX5 (some .int) D (tyR cI cZ)) (n : Nat) (x1 : Int32) (x2 : Int32) (x3 : Int32) (s0 : Int32) (M : MR) : gG p l e (rmR 3 63) s m args below meth c 7 (ZR D cI cZ q (AR q s.heap.size) s.heap M) 0 0 (fun r => MQ below (QI D cI cZ q s.heap.size r) args s 0 0 (AR q s.heap.size)) 33 [(0, .ref (q 34)), (1, .int x1), (2, .int x2), (3, .int x3)] [.int s0] (fR_edition_b33 n x1 x2 x3 s0 M) := by
  unfold fR_edition_b33
  refine g_istore (lv' := [(4, .int s0), (0, .ref (q 34)), (1, .int x1), (2, .int x2), (3, .int x3)]) X dX5_edition_33 (by decide) rfl ?_
  refine g_iconst (v := (0 : Int32)) X dX5_edition_35 (by decide) ?_
  refine g_istore (lv' := [(5, .int (0 : Int32)), (4, .int s0), (0, .ref (q 34)), (1, .int x1), (2, .int x2), (3, .int x3)]) X dX5_edition_36 (by decide) rfl ?_
  refine g_iconst (v := (0 : Int32)) X dX5_edition_38 (by decide) ?_
  refine g_istore (lv' := [(6, .int (0 : Int32)), (5, .int (0 : Int32)), (4, .int s0), (0, .ref (q 34)), (1, .int x1), (2, .int x2), (3, .int x3)]) X dX5_edition_39 (by decide) rfl ?_
  exact g_pick [3, 4, 5, 6, 2, 1, 0] rfl (wR_edition_l41 X n n x1 x2 x3 s0 (0 : Int32) (0 : Int32) M)
def fR_edition (n : Nat) (x1 : Int32) (x2 : Int32) (M : MR) : Option (Int32 × MR) :=
    bnd (fR_isEdition n x1 M) fun v1 M1 =>
    if v1 = 0 then
      (some ((-3 : Int32), M1))
    else
      (bnd (fR_editAt n x1 M1) fun v2 M2 =>
      rd M2 0 62610 (v2 + (1 : Int32)) fun v3 =>
      if v3 = (1 : Int32) then
        (fR_edition_b33 n x1 x2 v2 (1 : Int32) M2)
      else
        (fR_edition_b33 n x1 x2 v2 (0 : Int32) M2))
theorem c_edition (l : Launch) (D : va_G) (cI cZ : ClassId) (q : Nat → Nat) (n : Nat) (x1 : Int32) (x2 : Int32) (M : MR) : MetR l D cI cZ q yX5_edition cX5_edition 7 (some .int) 3 63 QI [.ref (q 34), .int x1, .int x2] M (fR_edition n x1 x2 M) := by
  refine MetR.of (by decide) rfl (Nat.le_of_ble_eq_true rfl) ?_
  intro p e s m args below meth c X
  unfold fR_edition
  refine g_pick (lv' := [(0, .ref (q 34)), (1, .int x1), (2, .int x2)]) [0, 1, 2] rfl ?_
  refine g_aload_n X dX5_edition_0 rfl rfl ?_
  refine g_iload_n X dX5_edition_1 rfl rfl ?_
  refine k_isEdition X ⟨Nat.le_of_ble_eq_true rfl, Nat.le_of_ble_eq_true rfl⟩ (Nat.le_of_ble_eq_true rfl) dX5_edition_2 ?_
  intro v1 M1
  refine g_if_ne (tgt := 11) X dX5_edition_5 (by decide) ?_ ?_
  · refine g_iload_n X dX5_edition_11 rfl rfl ?_
    refine k_editAt X ⟨Nat.le_of_ble_eq_true rfl, Nat.le_of_ble_eq_true rfl⟩ (Nat.le_of_ble_eq_true rfl) dX5_edition_12 ?_
    intro v2 M2
    refine g_istore_n (lv' := [(3, .int v2), (0, .ref (q 34)), (1, .int x1), (2, .int x2)]) X dX5_edition_15 rfl (by decide) rfl ?_
    refine g_aload_n X dX5_edition_16 rfl rfl ?_
    refine r_g_m X dX5_edition_17 ?_
    refine g_iload_n X dX5_edition_20 rfl rfl ?_
    refine g_iconst (v := (1 : Int32)) X dX5_edition_21 (by decide) ?_
    refine g_iadd X dX5_edition_22 ?_
    refine r_l_m X dX5_edition_23 ?_
    intro v3
    refine g_iconst (v := (1 : Int32)) X dX5_edition_24 (by decide) ?_
    refine g_icmp_ne (tgt := 32) X dX5_edition_25 (by decide) ?_ ?_
    · refine g_iconst (v := (0 : Int32)) X dX5_edition_32 (by decide) ?_
      exact g_pick [1, 2, 3, 0] rfl (wR_edition_b33 X n x1 x2 v2 (0 : Int32) M2)
    · refine g_iconst (v := (1 : Int32)) X dX5_edition_28 (by decide) ?_
      refine g_goto (tgt := 33) X dX5_edition_29 (by decide) ?_
      exact g_pick [1, 2, 3, 0] rfl (wR_edition_b33 X n x1 x2 v2 (1 : Int32) M2)
  · refine g_bipush (v := (-3 : Int32)) X dX5_edition_8 (by decide) ?_
    exact r_iret X dX5_edition_10
-- classOf
def fR_classOf (n : Nat) (x1 : Int32) (M : MR) : Option (Int32 × MR) :=
    bnd (fR_isObject n x1 M) fun v1 M1 =>
    if v1 = 0 then
      (some ((-1 : Int32), M1))
    else
      (bnd (fR_objAt n x1 M1) fun v2 M2 =>
      rd M2 0 62610 v2 fun v3 =>
      some (v3, M2))
theorem c_classOf (l : Launch) (D : va_G) (cI cZ : ClassId) (q : Nat → Nat) (n : Nat) (x1 : Int32) (M : MR) : MetR l D cI cZ q yX5_classOf cX5_classOf 2 (some .int) 1 21 QI [.ref (q 34), .int x1] M (fR_classOf n x1 M) := by
  refine MetR.of (by decide) rfl (Nat.le_of_ble_eq_true rfl) ?_
  intro p e s m args below meth c X
  unfold fR_classOf
  refine g_pick (lv' := [(0, .ref (q 34)), (1, .int x1)]) [0, 1] rfl ?_
  refine g_aload_n X dX5_classOf_0 rfl rfl ?_
  refine g_iload_n X dX5_classOf_1 rfl rfl ?_
  refine k_isObject X ⟨Nat.le_of_ble_eq_true rfl, Nat.le_of_ble_eq_true rfl⟩ (Nat.le_of_ble_eq_true rfl) dX5_classOf_2 ?_
  intro v1 M1
  refine g_if_eq (tgt := 20) X dX5_classOf_5 (by decide) ?_ ?_
  · refine g_iconst (v := (-1 : Int32)) X dX5_classOf_20 (by decide) ?_
    exact r_iret X dX5_classOf_21
  · refine g_aload_n X dX5_classOf_8 rfl rfl ?_
    refine r_g_m X dX5_classOf_9 ?_
    refine g_iload_n X dX5_classOf_12 rfl rfl ?_
    refine k_objAt X ⟨Nat.le_of_ble_eq_true rfl, Nat.le_of_ble_eq_true rfl⟩ (Nat.le_of_ble_eq_true rfl) dX5_classOf_13 ?_
    intro v2 M2
    refine r_l_m X dX5_classOf_16 ?_
    intro v3
    refine g_goto (tgt := 21) X dX5_classOf_17 (by decide) ?_
    exact r_iret X dX5_classOf_21
-- field
def fR_field_b39 (n : Nat) (x1 : Int32) (x2 : Int32) (x3 : Int32) (s0 : Int32) (M : MR) : Option (Int32 × MR) :=
    if x3 = 0 then
      (if s0 = 0 then
        (some ((-1 : Int32), M))
      else
        (bnd (fR_objAt n x1 M) fun v3 M3 =>
        rd M3 0 62610 ((v3 + (1 : Int32)) + x2) fun v4 =>
        some ((v4 - (1 : Int32)), M3)))
    else
      (if x3 = (1 : Int32) then
        (if s0 = 0 then
          (some ((0 : Int32), M))
        else
          (bnd (fR_objAt n x1 M) fun v1 M1 =>
          rd M1 0 62610 ((v1 + (11 : Int32)) + x2) fun v2 =>
          some (v2, M1)))
      else
        (some ((0 : Int32), M)))
theorem wR_field_b39 (X : gX p s m args meth c cX5_field 5 RX5 (some .int) D (tyR cI cZ)) (n : Nat) (x1 : Int32) (x2 : Int32) (x3 : Int32) (s0 : Int32) (M : MR) : gG p l e (rmR 1 21) s m args below meth c 5 (ZR D cI cZ q (AR q s.heap.size) s.heap M) 0 0 (fun r => MQ below (QI D cI cZ q s.heap.size r) args s 0 0 (AR q s.heap.size)) 39 [(0, .ref (q 34)), (1, .int x1), (2, .int x2), (3, .int x3)] [.int s0] (fR_field_b39 n x1 x2 x3 s0 M) := by
  unfold fR_field_b39
  refine g_istore (lv' := [(4, .int s0), (0, .ref (q 34)), (1, .int x1), (2, .int x2), (3, .int x3)]) X dX5_field_39 (by decide) rfl ?_
  refine g_iload_n X dX5_field_41 rfl rfl ?_
  refine g_if_ne (tgt := 72) X dX5_field_42 (by decide) ?_ ?_
  · refine g_iload_n X dX5_field_72 rfl rfl ?_
    refine g_iconst (v := (1 : Int32)) X dX5_field_73 (by decide) ?_
    refine g_icmp_ne (tgt := 99) X dX5_field_74 (by decide) ?_ ?_
    · refine g_iconst (v := (0 : Int32)) X dX5_field_99 (by decide) ?_
      exact r_iret X dX5_field_100
    · refine g_iload X dX5_field_77 rfl ?_
      refine g_if_eq (tgt := 99) X dX5_field_79 (by decide) ?_ ?_
      · refine g_iconst (v := (0 : Int32)) X dX5_field_99 (by decide) ?_
        exact r_iret X dX5_field_100
      · refine g_aload_n X dX5_field_82 rfl rfl ?_
        refine r_g_m X dX5_field_83 ?_
        refine g_iload_n X dX5_field_86 rfl rfl ?_
        refine k_objAt X ⟨Nat.le_of_ble_eq_true rfl, Nat.le_of_ble_eq_true rfl⟩ (Nat.le_of_ble_eq_true rfl) dX5_field_87 ?_
        intro v1 M1
        refine g_bipush (v := (11 : Int32)) X dX5_field_90 (by decide) ?_
        refine g_iadd X dX5_field_92 ?_
        refine g_iload_n X dX5_field_93 rfl rfl ?_
        refine g_iadd X dX5_field_94 ?_
        refine r_l_m X dX5_field_95 ?_
        intro v2
        refine g_goto (tgt := 100) X dX5_field_96 (by decide) ?_
        exact r_iret X dX5_field_100
  · refine g_iload X dX5_field_45 rfl ?_
    refine g_if_eq (tgt := 68) X dX5_field_47 (by decide) ?_ ?_
    · refine g_iconst (v := (-1 : Int32)) X dX5_field_68 (by decide) ?_
      refine g_goto (tgt := 100) X dX5_field_69 (by decide) ?_
      exact r_iret X dX5_field_100
    · refine g_aload_n X dX5_field_50 rfl rfl ?_
      refine r_g_m X dX5_field_51 ?_
      refine g_iload_n X dX5_field_54 rfl rfl ?_
      refine k_objAt X ⟨Nat.le_of_ble_eq_true rfl, Nat.le_of_ble_eq_true rfl⟩ (Nat.le_of_ble_eq_true rfl) dX5_field_55 ?_
      intro v3 M3
      refine g_iconst (v := (1 : Int32)) X dX5_field_58 (by decide) ?_
      refine g_iadd X dX5_field_59 ?_
      refine g_iload_n X dX5_field_60 rfl rfl ?_
      refine g_iadd X dX5_field_61 ?_
      refine r_l_m X dX5_field_62 ?_
      intro v4
      refine g_iconst (v := (1 : Int32)) X dX5_field_63 (by decide) ?_
      refine g_isub X dX5_field_64 ?_
      refine g_goto (tgt := 100) X dX5_field_65 (by decide) ?_
      exact r_iret X dX5_field_100
def fR_field_b38 (n : Nat) (x1 : Int32) (x2 : Int32) (x3 : Int32) (M : MR) : Option (Int32 × MR) :=
    fR_field_b39 n x1 x2 x3 (0 : Int32) M
theorem wR_field_b38 (X : gX p s m args meth c cX5_field 5 RX5 (some .int) D (tyR cI cZ)) (n : Nat) (x1 : Int32) (x2 : Int32) (x3 : Int32) (M : MR) : gG p l e (rmR 1 21) s m args below meth c 5 (ZR D cI cZ q (AR q s.heap.size) s.heap M) 0 0 (fun r => MQ below (QI D cI cZ q s.heap.size r) args s 0 0 (AR q s.heap.size)) 38 [(0, .ref (q 34)), (1, .int x1), (2, .int x2), (3, .int x3)] [] (fR_field_b38 n x1 x2 x3 M) := by
  unfold fR_field_b38
  refine g_iconst (v := (0 : Int32)) X dX5_field_38 (by decide) ?_
  exact g_pick [0, 1, 2, 3] rfl (wR_field_b39 X n x1 x2 x3 (0 : Int32) M)
def fR_field (n : Nat) (x1 : Int32) (x2 : Int32) (x3 : Int32) (M : MR) : Option (Int32 × MR) :=
    bnd (fR_isObject n x1 M) fun v1 M1 =>
    if v1 = 0 then
      (fR_field_b38 n x1 x2 x3 M1)
    else
      (if x2 < 0 then
        (fR_field_b38 n x1 x2 x3 M1)
      else
        (if (9 : Int32) < x2 then
          (fR_field_b38 n x1 x2 x3 M1)
        else
          (bnd (fR_objAt n x1 M1) fun v2 M2 =>
          rd M2 0 62610 ((v2 + (1 : Int32)) + x2) fun v3 =>
          if v3 = 0 then (fR_field_b38 n x1 x2 x3 M2) else (fR_field_b39 n x1 x2 x3 (1 : Int32) M2))))
theorem c_field (l : Launch) (D : va_G) (cI cZ : ClassId) (q : Nat → Nat) (n : Nat) (x1 : Int32) (x2 : Int32) (x3 : Int32) (M : MR) : MetR l D cI cZ q yX5_field cX5_field 5 (some .int) 1 21 QI [.ref (q 34), .int x1, .int x2, .int x3] M (fR_field n x1 x2 x3 M) := by
  refine MetR.of (by decide) rfl (Nat.le_of_ble_eq_true rfl) ?_
  intro p e s m args below meth c X
  unfold fR_field
  refine g_pick (lv' := [(0, .ref (q 34)), (1, .int x1), (2, .int x2), (3, .int x3)]) [0, 1, 2, 3] rfl ?_
  refine g_aload_n X dX5_field_0 rfl rfl ?_
  refine g_iload_n X dX5_field_1 rfl rfl ?_
  refine k_isObject X ⟨Nat.le_of_ble_eq_true rfl, Nat.le_of_ble_eq_true rfl⟩ (Nat.le_of_ble_eq_true rfl) dX5_field_2 ?_
  intro v1 M1
  refine g_if_eq (tgt := 38) X dX5_field_5 (by decide) ?_ ?_
  · exact g_pick [0, 1, 2, 3] rfl (wR_field_b38 X n x1 x2 x3 M1)
  · refine g_iload_n X dX5_field_8 rfl rfl ?_
    refine g_if_lt (tgt := 38) X dX5_field_9 (by decide) ?_ ?_
    · exact g_pick [0, 1, 2, 3] rfl (wR_field_b38 X n x1 x2 x3 M1)
    · refine g_iload_n X dX5_field_12 rfl rfl ?_
      refine g_bipush (v := (9 : Int32)) X dX5_field_13 (by decide) ?_
      refine g_icmp_gt (tgt := 38) X dX5_field_15 (by decide) ?_ ?_
      · exact g_pick [0, 1, 2, 3] rfl (wR_field_b38 X n x1 x2 x3 M1)
      · refine g_aload_n X dX5_field_18 rfl rfl ?_
        refine r_g_m X dX5_field_19 ?_
        refine g_iload_n X dX5_field_22 rfl rfl ?_
        refine k_objAt X ⟨Nat.le_of_ble_eq_true rfl, Nat.le_of_ble_eq_true rfl⟩ (Nat.le_of_ble_eq_true rfl) dX5_field_23 ?_
        intro v2 M2
        refine g_iconst (v := (1 : Int32)) X dX5_field_26 (by decide) ?_
        refine g_iadd X dX5_field_27 ?_
        refine g_iload_n X dX5_field_28 rfl rfl ?_
        refine g_iadd X dX5_field_29 ?_
        refine r_l_m X dX5_field_30 ?_
        intro v3
        refine g_if_eq (tgt := 38) X dX5_field_31 (by decide) ?_ ?_
        · exact g_pick [0, 1, 2, 3] rfl (wR_field_b38 X n x1 x2 x3 M2)
        · refine g_iconst (v := (1 : Int32)) X dX5_field_34 (by decide) ?_
          refine g_goto (tgt := 39) X dX5_field_35 (by decide) ?_
          exact g_pick [0, 1, 2, 3] rfl (wR_field_b39 X n x1 x2 x3 (1 : Int32) M2)
-- is
def fR_is (n : Nat) (x1 : Int32) (x2 : Int32) (M : MR) : Option (Int32 × MR) :=
    bnd (fR_isObject n x1 M) fun v1 M1 =>
    if v1 = 0 then
      (zt (0 : Int32) (some ((0 : Int32), M1)))
    else
      (bnd (fR_isClass n x2 M1) fun v2 M2 =>
      if v2 = 0 then
        (zt (0 : Int32) (some ((0 : Int32), M2)))
      else
        (bnd (fR_objAt n x1 M2) fun v3 M3 =>
        rd M3 0 62610 v3 fun v4 =>
        bnd (fR_isBelow n v4 x2 M3) fun v5 M5 =>
        if v5 = 0 then (zt (0 : Int32) (some ((0 : Int32), M5))) else (zt (1 : Int32) (some ((1 : Int32), M5)))))
theorem c_is (l : Launch) (D : va_G) (cI cZ : ClassId) (q : Nat → Nat) (n : Nat) (x1 : Int32) (x2 : Int32) (M : MR) : MetR l D cI cZ q yX5_is cX5_is 3 (some .boolean) 4 86 QI [.ref (q 34), .int x1, .int x2] M (fR_is n x1 x2 M) := by
  refine MetR.of (by decide) rfl (Nat.le_of_ble_eq_true rfl) ?_
  intro p e s m args below meth c X
  unfold fR_is
  refine g_pick (lv' := [(0, .ref (q 34)), (1, .int x1), (2, .int x2)]) [0, 1, 2] rfl ?_
  refine g_aload_n X dX5_is_0 rfl rfl ?_
  refine g_iload_n X dX5_is_1 rfl rfl ?_
  refine k_isObject X ⟨Nat.le_of_ble_eq_true rfl, Nat.le_of_ble_eq_true rfl⟩ (Nat.le_of_ble_eq_true rfl) dX5_is_2 ?_
  intro v1 M1
  refine g_if_eq (tgt := 37) X dX5_is_5 (by decide) ?_ ?_
  · refine g_iconst (v := (0 : Int32)) X dX5_is_37 (by decide) ?_
    exact r_zret X dX5_is_38
  · refine g_aload_n X dX5_is_8 rfl rfl ?_
    refine g_iload_n X dX5_is_9 rfl rfl ?_
    refine k_isClass X ⟨Nat.le_of_ble_eq_true rfl, Nat.le_of_ble_eq_true rfl⟩ (Nat.le_of_ble_eq_true rfl) dX5_is_10 ?_
    intro v2 M2
    refine g_if_eq (tgt := 37) X dX5_is_13 (by decide) ?_ ?_
    · refine g_iconst (v := (0 : Int32)) X dX5_is_37 (by decide) ?_
      exact r_zret X dX5_is_38
    · refine g_aload_n X dX5_is_16 rfl rfl ?_
      refine g_aload_n X dX5_is_17 rfl rfl ?_
      refine r_g_m X dX5_is_18 ?_
      refine g_iload_n X dX5_is_21 rfl rfl ?_
      refine k_objAt X ⟨Nat.le_of_ble_eq_true rfl, Nat.le_of_ble_eq_true rfl⟩ (Nat.le_of_ble_eq_true rfl) dX5_is_22 ?_
      intro v3 M3
      refine r_l_m X dX5_is_25 ?_
      intro v4
      refine g_iload_n X dX5_is_26 rfl rfl ?_
      refine k_isBelow X ⟨Nat.le_of_ble_eq_true rfl, Nat.le_of_ble_eq_true rfl⟩ (Nat.le_of_ble_eq_true rfl) dX5_is_27 ?_
      intro v5 M5
      refine g_if_eq (tgt := 37) X dX5_is_30 (by decide) ?_ ?_
      · refine g_iconst (v := (0 : Int32)) X dX5_is_37 (by decide) ?_
        exact r_zret X dX5_is_38
      · refine g_iconst (v := (1 : Int32)) X dX5_is_33 (by decide) ?_
        refine g_goto (tgt := 38) X dX5_is_34 (by decide) ?_
        exact r_zret X dX5_is_38
-- call
def fR_call_b142 (n : Nat) (s0 : Int32) (M : MR) : Option (Int32 × MR) :=
    pf M 32 s0 fun M1 =>
    gf M1 23 fun v2 =>
    pf M1 33 v2 fun M3 =>
    gf M3 24 fun v4 =>
    if v4 = 0 then
      (some ((0 : Int32), M3))
    else
      (gf M3 24 fun v5 =>
      if v5 = (100 : Int32) then (some ((2 : Int32), M3)) else (some ((1 : Int32), M3)))
theorem wR_call_b142 (X : gX p s m args meth c cX5_call 4 RX5 (some .int) D (tyR cI cZ)) (n : Nat) (s0 : Int32) (M : MR) : gG p l e (rmR 9 207) s m args below meth c 4 (ZR D cI cZ q (AR q s.heap.size) s.heap M) 0 0 (fun r => MQ below (QI D cI cZ q s.heap.size r) args s 0 0 (AR q s.heap.size)) 142 [(0, .ref (q 34))] [.int s0, .ref (q 34)] (fR_call_b142 n s0 M) := by
  unfold fR_call_b142
  refine r_p_cameFailure X dX5_call_142 ?_
  intro M1
  refine g_aload_n X dX5_call_145 rfl rfl ?_
  refine g_aload_n X dX5_call_146 rfl rfl ?_
  refine r_g_steps X dX5_call_147 ?_
  intro v2
  refine r_p_cameSteps X dX5_call_150 ?_
  intro M3
  refine g_aload_n X dX5_call_153 rfl rfl ?_
  refine r_g_failure X dX5_call_154 ?_
  intro v4
  refine g_if_ne (tgt := 164) X dX5_call_157 (by decide) ?_ ?_
  · refine g_aload_n X dX5_call_164 rfl rfl ?_
    refine r_g_failure X dX5_call_165 ?_
    intro v5
    refine g_bipush (v := (100 : Int32)) X dX5_call_168 (by decide) ?_
    refine g_icmp_ne (tgt := 177) X dX5_call_170 (by decide) ?_ ?_
    · refine g_iconst (v := (1 : Int32)) X dX5_call_177 (by decide) ?_
      exact r_iret X dX5_call_178
    · refine g_iconst (v := (2 : Int32)) X dX5_call_173 (by decide) ?_
      refine g_goto (tgt := 178) X dX5_call_174 (by decide) ?_
      exact r_iret X dX5_call_178
  · refine g_iconst (v := (0 : Int32)) X dX5_call_160 (by decide) ?_
    refine g_goto (tgt := 178) X dX5_call_161 (by decide) ?_
    exact r_iret X dX5_call_178
def fR_call_b121 (n : Nat) (s0 : Int32) (M : MR) : Option (Int32 × MR) :=
    pf M 31 s0 fun M1 =>
    gf M1 24 fun v2 =>
    if v2 = (100 : Int32) then
      (fR_call_b142 n (0 : Int32) M1)
    else
      (gf M1 24 fun v3 =>
      fR_call_b142 n v3 M1)
theorem wR_call_b121 (X : gX p s m args meth c cX5_call 4 RX5 (some .int) D (tyR cI cZ)) (n : Nat) (s0 : Int32) (M : MR) : gG p l e (rmR 9 207) s m args below meth c 4 (ZR D cI cZ q (AR q s.heap.size) s.heap M) 0 0 (fun r => MQ below (QI D cI cZ q s.heap.size r) args s 0 0 (AR q s.heap.size)) 121 [(0, .ref (q 34))] [.int s0, .ref (q 34)] (fR_call_b121 n s0 M) := by
  unfold fR_call_b121
  refine r_p_cameValue X dX5_call_121 ?_
  intro M1
  refine g_aload_n X dX5_call_124 rfl rfl ?_
  refine g_aload_n X dX5_call_125 rfl rfl ?_
  refine r_g_failure X dX5_call_126 ?_
  intro v2
  refine g_bipush (v := (100 : Int32)) X dX5_call_129 (by decide) ?_
  refine g_icmp_ne (tgt := 138) X dX5_call_131 (by decide) ?_ ?_
  · refine g_aload_n X dX5_call_138 rfl rfl ?_
    refine r_g_failure X dX5_call_139 ?_
    intro v3
    exact g_pick [0] rfl (wR_call_b142 X n v3 M1)
  · refine g_iconst (v := (0 : Int32)) X dX5_call_134 (by decide) ?_
    refine g_goto (tgt := 142) X dX5_call_135 (by decide) ?_
    exact g_pick [0] rfl (wR_call_b142 X n (0 : Int32) M1)
def fR_call_b100 (n : Nat) (s0 : Int32) (M : MR) : Option (Int32 × MR) :=
    pf M 30 s0 fun M1 =>
    gf M1 24 fun v2 =>
    if v2 = 0 then
      (rd M1 11 2000 (0 : Int32) fun v3 =>
      fR_call_b121 n v3 M1)
    else
      (fR_call_b121 n (0 : Int32) M1)
theorem wR_call_b100 (X : gX p s m args meth c cX5_call 4 RX5 (some .int) D (tyR cI cZ)) (n : Nat) (s0 : Int32) (M : MR) : gG p l e (rmR 9 207) s m args below meth c 4 (ZR D cI cZ q (AR q s.heap.size) s.heap M) 0 0 (fun r => MQ below (QI D cI cZ q s.heap.size r) args s 0 0 (AR q s.heap.size)) 100 [(0, .ref (q 34))] [.int s0, .ref (q 34)] (fR_call_b100 n s0 M) := by
  unfold fR_call_b100
  refine r_p_cameKind X dX5_call_100 ?_
  intro M1
  refine g_aload_n X dX5_call_103 rfl rfl ?_
  refine g_aload_n X dX5_call_104 rfl rfl ?_
  refine r_g_failure X dX5_call_105 ?_
  intro v2
  refine g_if_ne (tgt := 120) X dX5_call_108 (by decide) ?_ ?_
  · refine g_iconst (v := (0 : Int32)) X dX5_call_120 (by decide) ?_
    exact g_pick [0] rfl (wR_call_b121 X n (0 : Int32) M1)
  · refine g_aload_n X dX5_call_111 rfl rfl ?_
    refine r_g_value X dX5_call_112 ?_
    refine g_iconst (v := (0 : Int32)) X dX5_call_115 (by decide) ?_
    refine r_l_value X dX5_call_116 ?_
    intro v3
    refine g_goto (tgt := 121) X dX5_call_117 (by decide) ?_
    exact g_pick [0] rfl (wR_call_b121 X n v3 M1)
def fR_call_b99 (n : Nat) (M : MR) : Option (Int32 × MR) :=
    fR_call_b100 n (0 : Int32) M
theorem wR_call_b99 (X : gX p s m args meth c cX5_call 4 RX5 (some .int) D (tyR cI cZ)) (n : Nat) (M : MR) : gG p l e (rmR 9 207) s m args below meth c 4 (ZR D cI cZ q (AR q s.heap.size) s.heap M) 0 0 (fun r => MQ below (QI D cI cZ q s.heap.size r) args s 0 0 (AR q s.heap.size)) 99 [(0, .ref (q 34))] [.ref (q 34)] (fR_call_b99 n M) := by
  unfold fR_call_b99
  refine g_iconst (v := (0 : Int32)) X dX5_call_99 (by decide) ?_
  exact g_pick [0] rfl (wR_call_b100 X n (0 : Int32) M)
def fR_call_b78 (n : Nat) (M : MR) : Option (Int32 × MR) :=
    gf M 24 fun v1 =>
    if v1 = 0 then
      (rd M 10 2000 (0 : Int32) fun v2 =>
      if v2 = 0 then (fR_call_b99 n M) else (fR_call_b100 n (1 : Int32) M))
    else
      (fR_call_b99 n M)
theorem wR_call_b78 (X : gX p s m args meth c cX5_call 4 RX5 (some .int) D (tyR cI cZ)) (n : Nat) (M : MR) : gG p l e (rmR 9 207) s m args below meth c 4 (ZR D cI cZ q (AR q s.heap.size) s.heap M) 0 0 (fun r => MQ below (QI D cI cZ q s.heap.size r) args s 0 0 (AR q s.heap.size)) 78 [(0, .ref (q 34))] [] (fR_call_b78 n M) := by
  unfold fR_call_b78
  refine g_aload_n X dX5_call_78 rfl rfl ?_
  refine g_aload_n X dX5_call_79 rfl rfl ?_
  refine r_g_failure X dX5_call_80 ?_
  intro v1
  refine g_if_ne (tgt := 99) X dX5_call_83 (by decide) ?_ ?_
  · exact g_pick [0] rfl (wR_call_b99 X n M)
  · refine g_aload_n X dX5_call_86 rfl rfl ?_
    refine r_g_isObj X dX5_call_87 ?_
    refine g_iconst (v := (0 : Int32)) X dX5_call_90 (by decide) ?_
    refine r_l_isObj X dX5_call_91 ?_
    intro v2
    refine g_if_eq (tgt := 99) X dX5_call_92 (by decide) ?_ ?_
    · exact g_pick [0] rfl (wR_call_b99 X n M)
    · refine g_iconst (v := (1 : Int32)) X dX5_call_95 (by decide) ?_
      refine g_goto (tgt := 100) X dX5_call_96 (by decide) ?_
      exact g_pick [0] rfl (wR_call_b100 X n (1 : Int32) M)
def fR_call (n : Nat) (x1 : Int32) (x2 : Int32) (x3 : Int32) (M : MR) : Option (Int32 × MR) :=
    bnd (fR_isObject n x1 M) fun v1 M1 =>
    if v1 = 0 then
      (some ((-1 : Int32), M1))
    else
      (if x2 < 0 then
        (some ((-1 : Int32), M1))
      else
        (if x2 ≤ (4 : Int32) then
          (pf M1 12 (0 : Int32) fun M2 =>
          pf M2 20 (0 : Int32) fun M3 =>
          pf M3 21 (0 : Int32) fun M4 =>
          pf M4 23 (0 : Int32) fun M5 =>
          pf M5 24 (0 : Int32) fun M6 =>
          pf M6 25 (0 : Int32) fun M7 =>
          bnd (fR_push n (1 : Int32) x1 M7) fun _ M8 =>
          bnd (fR_push n (0 : Int32) x3 M8) fun _ M9 =>
          bnd (fR_method n x1 x2 M9) fun _ M10 =>
          gf M10 24 fun v11 =>
          if v11 = 0 then
            (bnd (fR_work n M10) fun _ M12 =>
            fR_call_b78 n M12)
          else
            (fR_call_b78 n M10))
        else
          (some ((-1 : Int32), M1))))
theorem c_call (l : Launch) (D : va_G) (cI cZ : ClassId) (q : Nat → Nat) (n : Nat) (x1 : Int32) (x2 : Int32) (x3 : Int32) (M : MR) : MetR l D cI cZ q yX5_call cX5_call 4 (some .int) 9 207 QI [.ref (q 34), .int x1, .int x2, .int x3] M (fR_call n x1 x2 x3 M) := by
  refine MetR.of (by decide) rfl (Nat.le_of_ble_eq_true rfl) ?_
  intro p e s m args below meth c X
  unfold fR_call
  refine g_pick (lv' := [(0, .ref (q 34)), (1, .int x1), (2, .int x2), (3, .int x3)]) [0, 1, 2, 3] rfl ?_
  refine g_aload_n X dX5_call_0 rfl rfl ?_
  refine g_iload_n X dX5_call_1 rfl rfl ?_
  refine k_isObject X ⟨Nat.le_of_ble_eq_true rfl, Nat.le_of_ble_eq_true rfl⟩ (Nat.le_of_ble_eq_true rfl) dX5_call_2 ?_
  intro v1 M1
  refine g_if_eq (tgt := 17) X dX5_call_5 (by decide) ?_ ?_
  · refine g_iconst (v := (-1 : Int32)) X dX5_call_17 (by decide) ?_
    exact r_iret X dX5_call_18
  · refine g_iload_n X dX5_call_8 rfl rfl ?_
    refine g_if_lt (tgt := 17) X dX5_call_9 (by decide) ?_ ?_
    · refine g_iconst (v := (-1 : Int32)) X dX5_call_17 (by decide) ?_
      exact r_iret X dX5_call_18
    · refine g_iload_n X dX5_call_12 rfl rfl ?_
      refine g_iconst (v := (4 : Int32)) X dX5_call_13 (by decide) ?_
      refine g_icmp_le (tgt := 19) X dX5_call_14 (by decide) ?_ ?_
      · refine g_aload_n X dX5_call_19 rfl rfl ?_
        refine g_iconst (v := (0 : Int32)) X dX5_call_20 (by decide) ?_
        refine r_p_top X dX5_call_21 ?_
        intro M2
        refine g_aload_n X dX5_call_24 rfl rfl ?_
        refine g_iconst (v := (0 : Int32)) X dX5_call_25 (by decide) ?_
        refine r_p_frames X dX5_call_26 ?_
        intro M3
        refine g_aload_n X dX5_call_29 rfl rfl ?_
        refine g_iconst (v := (0 : Int32)) X dX5_call_30 (by decide) ?_
        refine r_p_inner X dX5_call_31 ?_
        intro M4
        refine g_aload_n X dX5_call_34 rfl rfl ?_
        refine g_iconst (v := (0 : Int32)) X dX5_call_35 (by decide) ?_
        refine r_p_steps X dX5_call_36 ?_
        intro M5
        refine g_aload_n X dX5_call_39 rfl rfl ?_
        refine g_iconst (v := (0 : Int32)) X dX5_call_40 (by decide) ?_
        refine r_p_failure X dX5_call_41 ?_
        intro M6
        refine g_aload_n X dX5_call_44 rfl rfl ?_
        refine g_iconst (v := (0 : Int32)) X dX5_call_45 (by decide) ?_
        refine r_p_wrote X dX5_call_46 ?_
        intro M7
        refine g_aload_n X dX5_call_49 rfl rfl ?_
        refine g_iconst (v := (1 : Int32)) X dX5_call_50 (by decide) ?_
        refine g_iload_n X dX5_call_51 rfl rfl ?_
        refine k_push X ⟨Nat.le_of_ble_eq_true rfl, Nat.le_of_ble_eq_true rfl⟩ (Nat.le_of_ble_eq_true rfl) dX5_call_52 ?_
        intro v8 M8
        refine g_aload_n X dX5_call_55 rfl rfl ?_
        refine g_iconst (v := (0 : Int32)) X dX5_call_56 (by decide) ?_
        refine g_iload_n X dX5_call_57 rfl rfl ?_
        refine k_push X ⟨Nat.le_of_ble_eq_true rfl, Nat.le_of_ble_eq_true rfl⟩ (Nat.le_of_ble_eq_true rfl) dX5_call_58 ?_
        intro v9 M9
        refine g_aload_n X dX5_call_61 rfl rfl ?_
        refine g_iload_n X dX5_call_62 rfl rfl ?_
        refine g_iload_n X dX5_call_63 rfl rfl ?_
        refine k_method X ⟨Nat.le_of_ble_eq_true rfl, Nat.le_of_ble_eq_true rfl⟩ (Nat.le_of_ble_eq_true rfl) dX5_call_64 ?_
        intro v10 M10
        refine g_aload_n X dX5_call_67 rfl rfl ?_
        refine r_g_failure X dX5_call_68 ?_
        intro v11
        refine g_if_ne (tgt := 78) X dX5_call_71 (by decide) ?_ ?_
        · exact g_pick [0] rfl (wR_call_b78 X n M10)
        · refine g_aload_n X dX5_call_74 rfl rfl ?_
          refine k_work X ⟨Nat.le_of_ble_eq_true rfl, Nat.le_of_ble_eq_true rfl⟩ (Nat.le_of_ble_eq_true rfl) dX5_call_75 ?_
          intro v12 M12
          exact g_pick [0] rfl (wR_call_b78 X n M12)
      · refine g_iconst (v := (-1 : Int32)) X dX5_call_17 (by decide) ?_
        exact r_iret X dX5_call_18
-- came
def fR_came (n : Nat) (x1 : Int32) (M : MR) : Option (Int32 × MR) :=
    if x1 = 0 then
      (gf M 30 fun v4 =>
      some (v4, M))
    else
      (if x1 = (1 : Int32) then
        (gf M 31 fun v3 =>
        some (v3, M))
      else
        (if x1 = (2 : Int32) then
          (gf M 32 fun v2 =>
          some (v2, M))
        else
          (if x1 = (3 : Int32) then
            (gf M 33 fun v1 =>
            some (v1, M))
          else
            (some ((0 : Int32), M)))))
theorem c_came (l : Launch) (D : va_G) (cI cZ : ClassId) (q : Nat → Nat) (n : Nat) (x1 : Int32) (M : MR) : MetR l D cI cZ q yX5_came cX5_came 2 (some .int) 0 0 QI [.ref (q 34), .int x1] M (fR_came n x1 M) := by
  refine MetR.of (by decide) rfl (Nat.le_of_ble_eq_true rfl) ?_
  intro p e s m args below meth c X
  unfold fR_came
  refine g_pick (lv' := [(0, .ref (q 34)), (1, .int x1)]) [0, 1] rfl ?_
  refine g_iload_n X dX5_came_0 rfl rfl ?_
  refine g_if_ne (tgt := 11) X dX5_came_1 (by decide) ?_ ?_
  · refine g_iload_n X dX5_came_11 rfl rfl ?_
    refine g_iconst (v := (1 : Int32)) X dX5_came_12 (by decide) ?_
    refine g_icmp_ne (tgt := 23) X dX5_came_13 (by decide) ?_ ?_
    · refine g_iload_n X dX5_came_23 rfl rfl ?_
      refine g_iconst (v := (2 : Int32)) X dX5_came_24 (by decide) ?_
      refine g_icmp_ne (tgt := 35) X dX5_came_25 (by decide) ?_ ?_
      · refine g_iload_n X dX5_came_35 rfl rfl ?_
        refine g_iconst (v := (3 : Int32)) X dX5_came_36 (by decide) ?_
        refine g_icmp_ne (tgt := 47) X dX5_came_37 (by decide) ?_ ?_
        · refine g_iconst (v := (0 : Int32)) X dX5_came_47 (by decide) ?_
          exact r_iret X dX5_came_48
        · refine g_aload_n X dX5_came_40 rfl rfl ?_
          refine r_g_cameSteps X dX5_came_41 ?_
          intro v1
          refine g_goto (tgt := 48) X dX5_came_44 (by decide) ?_
          exact r_iret X dX5_came_48
      · refine g_aload_n X dX5_came_28 rfl rfl ?_
        refine r_g_cameFailure X dX5_came_29 ?_
        intro v2
        refine g_goto (tgt := 48) X dX5_came_32 (by decide) ?_
        exact r_iret X dX5_came_48
    · refine g_aload_n X dX5_came_16 rfl rfl ?_
      refine r_g_cameValue X dX5_came_17 ?_
      intro v3
      refine g_goto (tgt := 48) X dX5_came_20 (by decide) ?_
      exact r_iret X dX5_came_48
  · refine g_aload_n X dX5_came_4 rfl rfl ?_
    refine r_g_cameKind X dX5_came_5 ?_
    intro v4
    refine g_goto (tgt := 48) X dX5_came_8 (by decide) ?_
    exact r_iret X dX5_came_48
end RM
end
section
theorem dX5_convert_0 : decode cX5_convert 0 = .ok (.aload_n 0, 1) := by decide +kernel
theorem dX5_convert_1 : decode cX5_convert 1 = .ok (.iload_n 2, 1) := by decide +kernel
theorem dX5_convert_2 : decode cX5_convert 2 = .ok (.invokevirtual 97, 3) := by decide +kernel
theorem dX5_convert_5 : decode cX5_convert 5 = .ok (.istore_n 3, 1) := by decide +kernel
theorem dX5_convert_6 : decode cX5_convert 6 = .ok (.aload_n 0, 1) := by decide +kernel
theorem dX5_convert_7 : decode cX5_convert 7 = .ok (.iload_n 1, 1) := by decide +kernel
theorem dX5_convert_8 : decode cX5_convert 8 = .ok (.invokevirtual 263, 3) := by decide +kernel
theorem dX5_convert_11 : decode cX5_convert 11 = .ok (.ifCond .eq 11, 3) := by decide +kernel
theorem dX5_convert_14 : decode cX5_convert 14 = .ok (.aload_n 0, 1) := by decide +kernel
theorem dX5_convert_15 : decode cX5_convert 15 = .ok (.iload_n 3, 1) := by decide +kernel
theorem dX5_convert_16 : decode cX5_convert 16 = .ok (.invokevirtual 266, 3) := by decide +kernel
theorem dX5_convert_19 : decode cX5_convert 19 = .ok (.ifCond .ne 5, 3) := by decide +kernel
theorem dX5_convert_22 : decode cX5_convert 22 = .ok (.iconst (-1), 1) := by decide +kernel
theorem dX5_convert_23 : decode cX5_convert 23 = .ok (.ireturn, 1) := by decide +kernel
theorem dX5_convert_24 : decode cX5_convert 24 = .ok (.aload_n 0, 1) := by decide +kernel
theorem dX5_convert_25 : decode cX5_convert 25 = .ok (.getfield 8, 3) := by decide +kernel
theorem dX5_convert_28 : decode cX5_convert 28 = .ok (.iconst 2, 1) := by decide +kernel
theorem dX5_convert_29 : decode cX5_convert 29 = .ok (.iaload, 1) := by decide +kernel
theorem dX5_convert_30 : decode cX5_convert 30 = .ok (.sipush 150, 3) := by decide +kernel
theorem dX5_convert_33 : decode cX5_convert 33 = .ok (.if_icmp .ne 6, 3) := by decide +kernel
theorem dX5_convert_36 : decode cX5_convert 36 = .ok (.bipush (-2), 2) := by decide +kernel
theorem dX5_convert_38 : decode cX5_convert 38 = .ok (.ireturn, 1) := by decide +kernel
theorem dX5_convert_39 : decode cX5_convert 39 = .ok (.aload_n 0, 1) := by decide +kernel
theorem dX5_convert_40 : decode cX5_convert 40 = .ok (.iload_n 3, 1) := by decide +kernel
theorem dX5_convert_41 : decode cX5_convert 41 = .ok (.invokevirtual 221, 3) := by decide +kernel
theorem dX5_convert_44 : decode cX5_convert 44 = .ok (.istore 4, 2) := by decide +kernel
theorem dX5_convert_46 : decode cX5_convert 46 = .ok (.iconst 0, 1) := by decide +kernel
theorem dX5_convert_47 : decode cX5_convert 47 = .ok (.istore 5, 2) := by decide +kernel
theorem dX5_convert_49 : decode cX5_convert 49 = .ok (.iload 5, 2) := by decide +kernel
theorem dX5_convert_51 : decode cX5_convert 51 = .ok (.bipush 10, 2) := by decide +kernel
theorem dX5_convert_53 : decode cX5_convert 53 = .ok (.if_icmp .ge 104, 3) := by decide +kernel
theorem dX5_convert_56 : decode cX5_convert 56 = .ok (.aload_n 0, 1) := by decide +kernel
theorem dX5_convert_57 : decode cX5_convert 57 = .ok (.getfield 8, 3) := by decide +kernel
theorem dX5_convert_60 : decode cX5_convert 60 = .ok (.iload 4, 2) := by decide +kernel
theorem dX5_convert_62 : decode cX5_convert 62 = .ok (.invokestatic 141, 3) := by decide +kernel
theorem dX5_convert_65 : decode cX5_convert 65 = .ok (.iconst 1, 1) := by decide +kernel
theorem dX5_convert_66 : decode cX5_convert 66 = .ok (.iadd, 1) := by decide +kernel
theorem dX5_convert_67 : decode cX5_convert 67 = .ok (.iload 5, 2) := by decide +kernel
theorem dX5_convert_69 : decode cX5_convert 69 = .ok (.iadd, 1) := by decide +kernel
theorem dX5_convert_70 : decode cX5_convert 70 = .ok (.iaload, 1) := by decide +kernel
theorem dX5_convert_71 : decode cX5_convert 71 = .ok (.ifCond .eq 80, 3) := by decide +kernel
theorem dX5_convert_74 : decode cX5_convert 74 = .ok (.aload_n 0, 1) := by decide +kernel
theorem dX5_convert_75 : decode cX5_convert 75 = .ok (.getfield 8, 3) := by decide +kernel
theorem dX5_convert_78 : decode cX5_convert 78 = .ok (.iload_n 1, 1) := by decide +kernel
theorem dX5_convert_79 : decode cX5_convert 79 = .ok (.invokestatic 141, 3) := by decide +kernel
theorem dX5_convert_82 : decode cX5_convert 82 = .ok (.iconst 1, 1) := by decide +kernel
theorem dX5_convert_83 : decode cX5_convert 83 = .ok (.iadd, 1) := by decide +kernel
theorem dX5_convert_84 : decode cX5_convert 84 = .ok (.iload 5, 2) := by decide +kernel
theorem dX5_convert_86 : decode cX5_convert 86 = .ok (.iadd, 1) := by decide +kernel
theorem dX5_convert_87 : decode cX5_convert 87 = .ok (.iaload, 1) := by decide +kernel
theorem dX5_convert_88 : decode cX5_convert 88 = .ok (.ifCond .eq 63, 3) := by decide +kernel
theorem dX5_convert_91 : decode cX5_convert 91 = .ok (.aload_n 0, 1) := by decide +kernel
theorem dX5_convert_92 : decode cX5_convert 92 = .ok (.getfield 8, 3) := by decide +kernel
theorem dX5_convert_95 : decode cX5_convert 95 = .ok (.iload 4, 2) := by decide +kernel
theorem dX5_convert_97 : decode cX5_convert 97 = .ok (.invokestatic 141, 3) := by decide +kernel
theorem dX5_convert_100 : decode cX5_convert 100 = .ok (.iconst 1, 1) := by decide +kernel
theorem dX5_convert_101 : decode cX5_convert 101 = .ok (.iadd, 1) := by decide +kernel
theorem dX5_convert_102 : decode cX5_convert 102 = .ok (.iload 5, 2) := by decide +kernel
theorem dX5_convert_104 : decode cX5_convert 104 = .ok (.iadd, 1) := by decide +kernel
theorem dX5_convert_105 : decode cX5_convert 105 = .ok (.aload_n 0, 1) := by decide +kernel
theorem dX5_convert_106 : decode cX5_convert 106 = .ok (.getfield 8, 3) := by decide +kernel
theorem dX5_convert_109 : decode cX5_convert 109 = .ok (.iload_n 1, 1) := by decide +kernel
theorem dX5_convert_110 : decode cX5_convert 110 = .ok (.invokestatic 141, 3) := by decide +kernel
theorem dX5_convert_113 : decode cX5_convert 113 = .ok (.iconst 1, 1) := by decide +kernel
theorem dX5_convert_114 : decode cX5_convert 114 = .ok (.iadd, 1) := by decide +kernel
theorem dX5_convert_115 : decode cX5_convert 115 = .ok (.iload 5, 2) := by decide +kernel
theorem dX5_convert_117 : decode cX5_convert 117 = .ok (.iadd, 1) := by decide +kernel
theorem dX5_convert_118 : decode cX5_convert 118 = .ok (.iaload, 1) := by decide +kernel
theorem dX5_convert_119 : decode cX5_convert 119 = .ok (.iastore, 1) := by decide +kernel
theorem dX5_convert_120 : decode cX5_convert 120 = .ok (.aload_n 0, 1) := by decide +kernel
theorem dX5_convert_121 : decode cX5_convert 121 = .ok (.getfield 8, 3) := by decide +kernel
theorem dX5_convert_124 : decode cX5_convert 124 = .ok (.iload 4, 2) := by decide +kernel
theorem dX5_convert_126 : decode cX5_convert 126 = .ok (.invokestatic 141, 3) := by decide +kernel
theorem dX5_convert_129 : decode cX5_convert 129 = .ok (.bipush 11, 2) := by decide +kernel
theorem dX5_convert_131 : decode cX5_convert 131 = .ok (.iadd, 1) := by decide +kernel
theorem dX5_convert_132 : decode cX5_convert 132 = .ok (.iload 5, 2) := by decide +kernel
theorem dX5_convert_134 : decode cX5_convert 134 = .ok (.iadd, 1) := by decide +kernel
theorem dX5_convert_135 : decode cX5_convert 135 = .ok (.aload_n 0, 1) := by decide +kernel
theorem dX5_convert_136 : decode cX5_convert 136 = .ok (.getfield 8, 3) := by decide +kernel
theorem dX5_convert_139 : decode cX5_convert 139 = .ok (.iload_n 1, 1) := by decide +kernel
theorem dX5_convert_140 : decode cX5_convert 140 = .ok (.invokestatic 141, 3) := by decide +kernel
theorem dX5_convert_143 : decode cX5_convert 143 = .ok (.bipush 11, 2) := by decide +kernel
theorem dX5_convert_145 : decode cX5_convert 145 = .ok (.iadd, 1) := by decide +kernel
theorem dX5_convert_146 : decode cX5_convert 146 = .ok (.iload 5, 2) := by decide +kernel
theorem dX5_convert_148 : decode cX5_convert 148 = .ok (.iadd, 1) := by decide +kernel
theorem dX5_convert_149 : decode cX5_convert 149 = .ok (.iaload, 1) := by decide +kernel
theorem dX5_convert_150 : decode cX5_convert 150 = .ok (.iastore, 1) := by decide +kernel
theorem dX5_convert_151 : decode cX5_convert 151 = .ok (.iinc 5 1, 3) := by decide +kernel
theorem dX5_convert_154 : decode cX5_convert 154 = .ok (.goto (-105), 3) := by decide +kernel
theorem dX5_convert_157 : decode cX5_convert 157 = .ok (.iload 4, 2) := by decide +kernel
theorem dX5_convert_159 : decode cX5_convert 159 = .ok (.ireturn, 1) := by decide +kernel
theorem dX5_keep_0 : decode cX5_keep 0 = .ok (.iload_n 1, 1) := by decide +kernel
theorem dX5_keep_1 : decode cX5_keep 1 = .ok (.ifCond .lt 8, 3) := by decide +kernel
theorem dX5_keep_4 : decode cX5_keep 4 = .ok (.iload_n 1, 1) := by decide +kernel
theorem dX5_keep_5 : decode cX5_keep 5 = .ok (.iconst 1, 1) := by decide +kernel
theorem dX5_keep_6 : decode cX5_keep 6 = .ok (.if_icmp .le 5, 3) := by decide +kernel
theorem dX5_keep_9 : decode cX5_keep 9 = .ok (.iconst 0, 1) := by decide +kernel
theorem dX5_keep_10 : decode cX5_keep 10 = .ok (.ireturn, 1) := by decide +kernel
theorem dX5_keep_11 : decode cX5_keep 11 = .ok (.iconst 0, 1) := by decide +kernel
theorem dX5_keep_12 : decode cX5_keep 12 = .ok (.istore_n 2, 1) := by decide +kernel
theorem dX5_keep_13 : decode cX5_keep 13 = .ok (.iload_n 2, 1) := by decide +kernel
theorem dX5_keep_14 : decode cX5_keep 14 = .ok (.sipush 20870, 3) := by decide +kernel
theorem dX5_keep_17 : decode cX5_keep 17 = .ok (.if_icmp .ge 29, 3) := by decide +kernel
theorem dX5_keep_20 : decode cX5_keep 20 = .ok (.aload_n 0, 1) := by decide +kernel
theorem dX5_keep_21 : decode cX5_keep 21 = .ok (.getfield 8, 3) := by decide +kernel
theorem dX5_keep_24 : decode cX5_keep 24 = .ok (.sipush 20870, 3) := by decide +kernel
theorem dX5_keep_27 : decode cX5_keep 27 = .ok (.iload_n 1, 1) := by decide +kernel
theorem dX5_keep_28 : decode cX5_keep 28 = .ok (.iconst 1, 1) := by decide +kernel
theorem dX5_keep_29 : decode cX5_keep 29 = .ok (.iadd, 1) := by decide +kernel
theorem dX5_keep_30 : decode cX5_keep 30 = .ok (.imul, 1) := by decide +kernel
theorem dX5_keep_31 : decode cX5_keep 31 = .ok (.iload_n 2, 1) := by decide +kernel
theorem dX5_keep_32 : decode cX5_keep 32 = .ok (.iadd, 1) := by decide +kernel
theorem dX5_keep_33 : decode cX5_keep 33 = .ok (.aload_n 0, 1) := by decide +kernel
theorem dX5_keep_34 : decode cX5_keep 34 = .ok (.getfield 8, 3) := by decide +kernel
theorem dX5_keep_37 : decode cX5_keep 37 = .ok (.iload_n 2, 1) := by decide +kernel
theorem dX5_keep_38 : decode cX5_keep 38 = .ok (.iaload, 1) := by decide +kernel
theorem dX5_keep_39 : decode cX5_keep 39 = .ok (.iastore, 1) := by decide +kernel
theorem dX5_keep_40 : decode cX5_keep 40 = .ok (.iinc 2 1, 3) := by decide +kernel
theorem dX5_keep_43 : decode cX5_keep 43 = .ok (.goto (-30), 3) := by decide +kernel
theorem dX5_keep_46 : decode cX5_keep 46 = .ok (.aload_n 0, 1) := by decide +kernel
theorem dX5_keep_47 : decode cX5_keep 47 = .ok (.getfield 14, 3) := by decide +kernel
theorem dX5_keep_50 : decode cX5_keep 50 = .ok (.iload_n 1, 1) := by decide +kernel
theorem dX5_keep_51 : decode cX5_keep 51 = .ok (.iconst 1, 1) := by decide +kernel
theorem dX5_keep_52 : decode cX5_keep 52 = .ok (.bastore, 1) := by decide +kernel
theorem dX5_keep_53 : decode cX5_keep 53 = .ok (.iconst 1, 1) := by decide +kernel
theorem dX5_keep_54 : decode cX5_keep 54 = .ok (.ireturn, 1) := by decide +kernel
theorem dX5_back_0 : decode cX5_back 0 = .ok (.iload_n 1, 1) := by decide +kernel
theorem dX5_back_1 : decode cX5_back 1 = .ok (.ifCond .lt 17, 3) := by decide +kernel
theorem dX5_back_4 : decode cX5_back 4 = .ok (.iload_n 1, 1) := by decide +kernel
theorem dX5_back_5 : decode cX5_back 5 = .ok (.iconst 1, 1) := by decide +kernel
theorem dX5_back_6 : decode cX5_back 6 = .ok (.if_icmp .gt 12, 3) := by decide +kernel
theorem dX5_back_9 : decode cX5_back 9 = .ok (.aload_n 0, 1) := by decide +kernel
theorem dX5_back_10 : decode cX5_back 10 = .ok (.getfield 14, 3) := by decide +kernel
theorem dX5_back_13 : decode cX5_back 13 = .ok (.iload_n 1, 1) := by decide +kernel
theorem dX5_back_14 : decode cX5_back 14 = .ok (.baload, 1) := by decide +kernel
theorem dX5_back_15 : decode cX5_back 15 = .ok (.ifCond .ne 5, 3) := by decide +kernel
theorem dX5_back_18 : decode cX5_back 18 = .ok (.iconst 0, 1) := by decide +kernel
theorem dX5_back_19 : decode cX5_back 19 = .ok (.ireturn, 1) := by decide +kernel
theorem dX5_back_20 : decode cX5_back 20 = .ok (.iconst 0, 1) := by decide +kernel
theorem dX5_back_21 : decode cX5_back 21 = .ok (.istore_n 2, 1) := by decide +kernel
theorem dX5_back_22 : decode cX5_back 22 = .ok (.iload_n 2, 1) := by decide +kernel
theorem dX5_back_23 : decode cX5_back 23 = .ok (.sipush 20870, 3) := by decide +kernel
theorem dX5_back_26 : decode cX5_back 26 = .ok (.if_icmp .ge 29, 3) := by decide +kernel
theorem dX5_back_29 : decode cX5_back 29 = .ok (.aload_n 0, 1) := by decide +kernel
theorem dX5_back_30 : decode cX5_back 30 = .ok (.getfield 8, 3) := by decide +kernel
theorem dX5_back_33 : decode cX5_back 33 = .ok (.iload_n 2, 1) := by decide +kernel
theorem dX5_back_34 : decode cX5_back 34 = .ok (.aload_n 0, 1) := by decide +kernel
theorem dX5_back_35 : decode cX5_back 35 = .ok (.getfield 8, 3) := by decide +kernel
theorem dX5_back_38 : decode cX5_back 38 = .ok (.sipush 20870, 3) := by decide +kernel
theorem dX5_back_41 : decode cX5_back 41 = .ok (.iload_n 1, 1) := by decide +kernel
theorem dX5_back_42 : decode cX5_back 42 = .ok (.iconst 1, 1) := by decide +kernel
theorem dX5_back_43 : decode cX5_back 43 = .ok (.iadd, 1) := by decide +kernel
theorem dX5_back_44 : decode cX5_back 44 = .ok (.imul, 1) := by decide +kernel
theorem dX5_back_45 : decode cX5_back 45 = .ok (.iload_n 2, 1) := by decide +kernel
theorem dX5_back_46 : decode cX5_back 46 = .ok (.iadd, 1) := by decide +kernel
theorem dX5_back_47 : decode cX5_back 47 = .ok (.iaload, 1) := by decide +kernel
theorem dX5_back_48 : decode cX5_back 48 = .ok (.iastore, 1) := by decide +kernel
theorem dX5_back_49 : decode cX5_back 49 = .ok (.iinc 2 1, 3) := by decide +kernel
theorem dX5_back_52 : decode cX5_back 52 = .ok (.goto (-30), 3) := by decide +kernel
theorem dX5_back_55 : decode cX5_back 55 = .ok (.iconst 1, 1) := by decide +kernel
theorem dX5_back_56 : decode cX5_back 56 = .ok (.ireturn, 1) := by decide +kernel
section RM
variable {ρ : Type} {p : Program} {l : Launch} {e : Env} {R : Room} {s : State} {m : MethodId} {args : Array Value} {below : List Frame} {meth : Method} {c : Code}
variable {cc : ByteArray} {nL : Nat} {rt : Option FieldType} {D : va_G} {cI cZ : ClassId} {q : Nat → Nat} {QQ : ρ → State → Prop} {pc : Nat} {lv : List (Nat × Value)}

-- convert
def fR_convert_b151 (n : Nat) (k49 : Int32 → Int32 → Int32 → MR → Option (Int32 × MR)) (x1 : Int32) (x4 : Int32) (x5 : Int32) (M : MR) : Option (Int32 × MR) :=
    k49 x1 x4 (x5 + (1 : Int32)) M
theorem wR_convert_b151 (X : gX p s m args meth c cX5_convert 6 RX5 (some .int) D (tyR cI cZ)) (n : Nat) (k49 : Int32 → Int32 → Int32 → MR → Option (Int32 × MR)) (hk49 : ∀ (x1 : Int32) (x4 : Int32) (x5 : Int32) (M : MR), gG p l e (rmR 4 89) s m args below meth c 6 (ZR D cI cZ q (AR q s.heap.size) s.heap M) 0 0 (fun r => MQ below (QI D cI cZ q s.heap.size r) args s 0 0 (AR q s.heap.size)) 49 [(0, .ref (q 34)), (1, .int x1), (4, .int x4), (5, .int x5)] [] (k49 x1 x4 x5 M)) (x1 : Int32) (x4 : Int32) (x5 : Int32) (M : MR) : gG p l e (rmR 4 89) s m args below meth c 6 (ZR D cI cZ q (AR q s.heap.size) s.heap M) 0 0 (fun r => MQ below (QI D cI cZ q s.heap.size r) args s 0 0 (AR q s.heap.size)) 151 [(0, .ref (q 34)), (1, .int x1), (4, .int x4), (5, .int x5)] [] (fR_convert_b151 n k49 x1 x4 x5 M) := by
  unfold fR_convert_b151
  refine g_iinc (v := (1 : Int32)) (lv' := [(5, .int (x5 + (1 : Int32))), (0, .ref (q 34)), (1, .int x1), (4, .int x4)]) X dX5_convert_151 rfl (by decide) (by decide) rfl ?_
  refine g_goto (tgt := 49) X dX5_convert_154 (by decide) ?_
  exact g_pick [1, 2, 3, 0] rfl (hk49 x1 x4 (x5 + (1 : Int32)) M)
def fR_convert_l49 (n : Nat) : Nat → Int32 → Int32 → Int32 → MR → Option (Int32 × MR)
  | 0, _, _, _, _ => none
  | k + 1, x1, x4, x5, M => if (10 : Int32) ≤ x5 then
      (some (x4, M))
    else
      (bnd (fR_objAt n x4 M) fun v1 M1 =>
      rd M1 0 62610 ((v1 + (1 : Int32)) + x5) fun v2 =>
      if v2 = 0 then
        (fR_convert_b151 n (fR_convert_l49 n k) x1 x4 x5 M1)
      else
        (bnd (fR_objAt n x1 M1) fun v3 M3 =>
        rd M3 0 62610 ((v3 + (1 : Int32)) + x5) fun v4 =>
        if v4 = 0 then
          (fR_convert_b151 n (fR_convert_l49 n k) x1 x4 x5 M3)
        else
          (bnd (fR_objAt n x4 M3) fun v5 M5 =>
          bnd (fR_objAt n x1 M5) fun v6 M6 =>
          rd M6 0 62610 ((v6 + (1 : Int32)) + x5) fun v7 =>
          wr M6 0 62610 ((v5 + (1 : Int32)) + x5) v7 fun M8 =>
          bnd (fR_objAt n x4 M8) fun v9 M9 =>
          bnd (fR_objAt n x1 M9) fun v10 M10 =>
          rd M10 0 62610 ((v10 + (11 : Int32)) + x5) fun v11 =>
          wr M10 0 62610 ((v9 + (11 : Int32)) + x5) v11 fun M12 =>
          fR_convert_b151 n (fR_convert_l49 n k) x1 x4 x5 M12)))
theorem wR_convert_l49 (X : gX p s m args meth c cX5_convert 6 RX5 (some .int) D (tyR cI cZ)) (n : Nat) : ∀ (k : Nat) (x1 : Int32) (x4 : Int32) (x5 : Int32) (M : MR), gG p l e (rmR 4 89) s m args below meth c 6 (ZR D cI cZ q (AR q s.heap.size) s.heap M) 0 0 (fun r => MQ below (QI D cI cZ q s.heap.size r) args s 0 0 (AR q s.heap.size)) 49 [(0, .ref (q 34)), (1, .int x1), (4, .int x4), (5, .int x5)] [] (fR_convert_l49 n k x1 x4 x5 M) := by
  intro k
  induction k with
  | zero =>
    intro x1 x4 x5 M
    exact g_none
  | succ k ih =>
    intro x1 x4 x5 M
    rw [fR_convert_l49]
    refine g_iload X dX5_convert_49 rfl ?_
    refine g_bipush (v := (10 : Int32)) X dX5_convert_51 (by decide) ?_
    refine g_icmp_ge (tgt := 157) X dX5_convert_53 (by decide) ?_ ?_
    · refine g_iload X dX5_convert_157 rfl ?_
      exact r_iret X dX5_convert_159
    · refine g_aload_n X dX5_convert_56 rfl rfl ?_
      refine r_g_m X dX5_convert_57 ?_
      refine g_iload X dX5_convert_60 rfl ?_
      refine k_objAt X ⟨Nat.le_of_ble_eq_true rfl, Nat.le_of_ble_eq_true rfl⟩ (Nat.le_of_ble_eq_true rfl) dX5_convert_62 ?_
      intro v1 M1
      refine g_iconst (v := (1 : Int32)) X dX5_convert_65 (by decide) ?_
      refine g_iadd X dX5_convert_66 ?_
      refine g_iload X dX5_convert_67 rfl ?_
      refine g_iadd X dX5_convert_69 ?_
      refine r_l_m X dX5_convert_70 ?_
      intro v2
      refine g_if_eq (tgt := 151) X dX5_convert_71 (by decide) ?_ ?_
      · exact g_pick [0, 1, 2, 3] rfl (wR_convert_b151 X n (fR_convert_l49 n k) ih x1 x4 x5 M1)
      · refine g_aload_n X dX5_convert_74 rfl rfl ?_
        refine r_g_m X dX5_convert_75 ?_
        refine g_iload_n X dX5_convert_78 rfl rfl ?_
        refine k_objAt X ⟨Nat.le_of_ble_eq_true rfl, Nat.le_of_ble_eq_true rfl⟩ (Nat.le_of_ble_eq_true rfl) dX5_convert_79 ?_
        intro v3 M3
        refine g_iconst (v := (1 : Int32)) X dX5_convert_82 (by decide) ?_
        refine g_iadd X dX5_convert_83 ?_
        refine g_iload X dX5_convert_84 rfl ?_
        refine g_iadd X dX5_convert_86 ?_
        refine r_l_m X dX5_convert_87 ?_
        intro v4
        refine g_if_eq (tgt := 151) X dX5_convert_88 (by decide) ?_ ?_
        · exact g_pick [0, 1, 2, 3] rfl (wR_convert_b151 X n (fR_convert_l49 n k) ih x1 x4 x5 M3)
        · refine g_aload_n X dX5_convert_91 rfl rfl ?_
          refine r_g_m X dX5_convert_92 ?_
          refine g_iload X dX5_convert_95 rfl ?_
          refine k_objAt X ⟨Nat.le_of_ble_eq_true rfl, Nat.le_of_ble_eq_true rfl⟩ (Nat.le_of_ble_eq_true rfl) dX5_convert_97 ?_
          intro v5 M5
          refine g_iconst (v := (1 : Int32)) X dX5_convert_100 (by decide) ?_
          refine g_iadd X dX5_convert_101 ?_
          refine g_iload X dX5_convert_102 rfl ?_
          refine g_iadd X dX5_convert_104 ?_
          refine g_aload_n X dX5_convert_105 rfl rfl ?_
          refine r_g_m X dX5_convert_106 ?_
          refine g_iload_n X dX5_convert_109 rfl rfl ?_
          refine k_objAt X ⟨Nat.le_of_ble_eq_true rfl, Nat.le_of_ble_eq_true rfl⟩ (Nat.le_of_ble_eq_true rfl) dX5_convert_110 ?_
          intro v6 M6
          refine g_iconst (v := (1 : Int32)) X dX5_convert_113 (by decide) ?_
          refine g_iadd X dX5_convert_114 ?_
          refine g_iload X dX5_convert_115 rfl ?_
          refine g_iadd X dX5_convert_117 ?_
          refine r_l_m X dX5_convert_118 ?_
          intro v7
          refine r_s_m X dX5_convert_119 ?_
          intro M8
          refine g_aload_n X dX5_convert_120 rfl rfl ?_
          refine r_g_m X dX5_convert_121 ?_
          refine g_iload X dX5_convert_124 rfl ?_
          refine k_objAt X ⟨Nat.le_of_ble_eq_true rfl, Nat.le_of_ble_eq_true rfl⟩ (Nat.le_of_ble_eq_true rfl) dX5_convert_126 ?_
          intro v9 M9
          refine g_bipush (v := (11 : Int32)) X dX5_convert_129 (by decide) ?_
          refine g_iadd X dX5_convert_131 ?_
          refine g_iload X dX5_convert_132 rfl ?_
          refine g_iadd X dX5_convert_134 ?_
          refine g_aload_n X dX5_convert_135 rfl rfl ?_
          refine r_g_m X dX5_convert_136 ?_
          refine g_iload_n X dX5_convert_139 rfl rfl ?_
          refine k_objAt X ⟨Nat.le_of_ble_eq_true rfl, Nat.le_of_ble_eq_true rfl⟩ (Nat.le_of_ble_eq_true rfl) dX5_convert_140 ?_
          intro v10 M10
          refine g_bipush (v := (11 : Int32)) X dX5_convert_143 (by decide) ?_
          refine g_iadd X dX5_convert_145 ?_
          refine g_iload X dX5_convert_146 rfl ?_
          refine g_iadd X dX5_convert_148 ?_
          refine r_l_m X dX5_convert_149 ?_
          intro v11
          refine r_s_m X dX5_convert_150 ?_
          intro M12
          exact g_pick [0, 1, 2, 3] rfl (wR_convert_b151 X n (fR_convert_l49 n k) ih x1 x4 x5 M12)
def fR_convert (n : Nat) (x1 : Int32) (x2 : Int32) (M : MR) : Option (Int32 × MR) :=
    bnd (fR_newest n x2 M) fun v1 M1 =>
    bnd (fR_isObject n x1 M1) fun v2 M2 =>
    if v2 = 0 then
      (some ((-1 : Int32), M2))
    else
      (bnd (fR_isClass n v1 M2) fun v3 M3 =>
      if v3 = 0 then
        (some ((-1 : Int32), M3))
      else
        (rd M3 0 62610 (2 : Int32) fun v4 =>
        if v4 = (150 : Int32) then
          (some ((-2 : Int32), M3))
        else
          (bnd (fR_newObject n v1 M3) fun v5 M5 =>
          fR_convert_l49 n n x1 v5 (0 : Int32) M5)))
theorem c_convert (l : Launch) (D : va_G) (cI cZ : ClassId) (q : Nat → Nat) (n : Nat) (x1 : Int32) (x2 : Int32) (M : MR) : MetR l D cI cZ q yX5_convert cX5_convert 6 (some .int) 4 89 QI [.ref (q 34), .int x1, .int x2] M (fR_convert n x1 x2 M) := by
  refine MetR.of (by decide) rfl (Nat.le_of_ble_eq_true rfl) ?_
  intro p e s m args below meth c X
  unfold fR_convert
  refine g_pick (lv' := [(0, .ref (q 34)), (1, .int x1), (2, .int x2)]) [0, 1, 2] rfl ?_
  refine g_aload_n X dX5_convert_0 rfl rfl ?_
  refine g_iload_n X dX5_convert_1 rfl rfl ?_
  refine k_newest X ⟨Nat.le_of_ble_eq_true rfl, Nat.le_of_ble_eq_true rfl⟩ (Nat.le_of_ble_eq_true rfl) dX5_convert_2 ?_
  intro v1 M1
  refine g_istore_n (lv' := [(3, .int v1), (0, .ref (q 34)), (1, .int x1), (2, .int x2)]) X dX5_convert_5 rfl (by decide) rfl ?_
  refine g_aload_n X dX5_convert_6 rfl rfl ?_
  refine g_iload_n X dX5_convert_7 rfl rfl ?_
  refine k_isObject X ⟨Nat.le_of_ble_eq_true rfl, Nat.le_of_ble_eq_true rfl⟩ (Nat.le_of_ble_eq_true rfl) dX5_convert_8 ?_
  intro v2 M2
  refine g_if_eq (tgt := 22) X dX5_convert_11 (by decide) ?_ ?_
  · refine g_iconst (v := (-1 : Int32)) X dX5_convert_22 (by decide) ?_
    exact r_iret X dX5_convert_23
  · refine g_aload_n X dX5_convert_14 rfl rfl ?_
    refine g_iload_n X dX5_convert_15 rfl rfl ?_
    refine k_isClass X ⟨Nat.le_of_ble_eq_true rfl, Nat.le_of_ble_eq_true rfl⟩ (Nat.le_of_ble_eq_true rfl) dX5_convert_16 ?_
    intro v3 M3
    refine g_if_ne (tgt := 24) X dX5_convert_19 (by decide) ?_ ?_
    · refine g_aload_n X dX5_convert_24 rfl rfl ?_
      refine r_g_m X dX5_convert_25 ?_
      refine g_iconst (v := (2 : Int32)) X dX5_convert_28 (by decide) ?_
      refine r_l_m X dX5_convert_29 ?_
      intro v4
      refine g_sipush (v := (150 : Int32)) X dX5_convert_30 (by decide) ?_
      refine g_icmp_ne (tgt := 39) X dX5_convert_33 (by decide) ?_ ?_
      · refine g_aload_n X dX5_convert_39 rfl rfl ?_
        refine g_iload_n X dX5_convert_40 rfl rfl ?_
        refine k_newObject X ⟨Nat.le_of_ble_eq_true rfl, Nat.le_of_ble_eq_true rfl⟩ (Nat.le_of_ble_eq_true rfl) dX5_convert_41 ?_
        intro v5 M5
        refine g_istore (lv' := [(4, .int v5), (3, .int v1), (0, .ref (q 34)), (1, .int x1), (2, .int x2)]) X dX5_convert_44 (by decide) rfl ?_
        refine g_iconst (v := (0 : Int32)) X dX5_convert_46 (by decide) ?_
        refine g_istore (lv' := [(5, .int (0 : Int32)), (4, .int v5), (3, .int v1), (0, .ref (q 34)), (1, .int x1), (2, .int x2)]) X dX5_convert_47 (by decide) rfl ?_
        exact g_pick [3, 4, 1, 0] rfl (wR_convert_l49 X n n x1 v5 (0 : Int32) M5)
      · refine g_bipush (v := (-2 : Int32)) X dX5_convert_36 (by decide) ?_
        exact r_iret X dX5_convert_38
    · refine g_iconst (v := (-1 : Int32)) X dX5_convert_22 (by decide) ?_
      exact r_iret X dX5_convert_23
-- keep
def fR_keep_l13 (n : Nat) : Nat → Int32 → Int32 → MR → Option (Int32 × MR)
  | 0, _, _, _ => none
  | k + 1, x1, x2, M => if (20870 : Int32) ≤ x2 then
      (wz M 1 2 x1 (1 : Int32) fun M1 =>
      zt (1 : Int32) (some ((1 : Int32), M1)))
    else
      (rd M 0 62610 x2 fun v2 =>
      wr M 0 62610 (((20870 : Int32) * (x1 + (1 : Int32))) + x2) v2 fun M3 =>
      (fR_keep_l13 n k) x1 (x2 + (1 : Int32)) M3)
theorem wR_keep_l13 (X : gX p s m args meth c cX5_keep 3 RX5 (some .boolean) D (tyR cI cZ)) (n : Nat) : ∀ (k : Nat) (x1 : Int32) (x2 : Int32) (M : MR), gG p l e (rmR 0 0) s m args below meth c 3 (ZR D cI cZ q (AR q s.heap.size) s.heap M) 0 0 (fun r => MQ below (QI D cI cZ q s.heap.size r) args s 0 0 (AR q s.heap.size)) 13 [(0, .ref (q 34)), (1, .int x1), (2, .int x2)] [] (fR_keep_l13 n k x1 x2 M) := by
  intro k
  induction k with
  | zero =>
    intro x1 x2 M
    exact g_none
  | succ k ih =>
    intro x1 x2 M
    rw [fR_keep_l13]
    refine g_iload_n X dX5_keep_13 rfl rfl ?_
    refine g_sipush (v := (20870 : Int32)) X dX5_keep_14 (by decide) ?_
    refine g_icmp_ge (tgt := 46) X dX5_keep_17 (by decide) ?_ ?_
    · refine g_aload_n X dX5_keep_46 rfl rfl ?_
      refine r_g_isKept X dX5_keep_47 ?_
      refine g_iload_n X dX5_keep_50 rfl rfl ?_
      refine g_iconst (v := (1 : Int32)) X dX5_keep_51 (by decide) ?_
      refine r_s_isKept X dX5_keep_52 ?_
      intro M1
      refine g_iconst (v := (1 : Int32)) X dX5_keep_53 (by decide) ?_
      exact r_zret X dX5_keep_54
    · refine g_aload_n X dX5_keep_20 rfl rfl ?_
      refine r_g_m X dX5_keep_21 ?_
      refine g_sipush (v := (20870 : Int32)) X dX5_keep_24 (by decide) ?_
      refine g_iload_n X dX5_keep_27 rfl rfl ?_
      refine g_iconst (v := (1 : Int32)) X dX5_keep_28 (by decide) ?_
      refine g_iadd X dX5_keep_29 ?_
      refine g_imul X dX5_keep_30 ?_
      refine g_iload_n X dX5_keep_31 rfl rfl ?_
      refine g_iadd X dX5_keep_32 ?_
      refine g_aload_n X dX5_keep_33 rfl rfl ?_
      refine r_g_m X dX5_keep_34 ?_
      refine g_iload_n X dX5_keep_37 rfl rfl ?_
      refine r_l_m X dX5_keep_38 ?_
      intro v2
      refine r_s_m X dX5_keep_39 ?_
      intro M3
      refine g_iinc (v := (1 : Int32)) (lv' := [(2, .int (x2 + (1 : Int32))), (0, .ref (q 34)), (1, .int x1)]) X dX5_keep_40 rfl (by decide) (by decide) rfl ?_
      refine g_goto (tgt := 13) X dX5_keep_43 (by decide) ?_
      exact g_pick [1, 2, 0] rfl (ih x1 (x2 + (1 : Int32)) M3)
def fR_keep (n : Nat) (x1 : Int32) (M : MR) : Option (Int32 × MR) :=
    if x1 < 0 then
      (zt (0 : Int32) (some ((0 : Int32), M)))
    else
      (if x1 ≤ (1 : Int32) then (fR_keep_l13 n n x1 (0 : Int32) M) else (zt (0 : Int32) (some ((0 : Int32), M))))
theorem c_keep (l : Launch) (D : va_G) (cI cZ : ClassId) (q : Nat → Nat) (n : Nat) (x1 : Int32) (M : MR) : MetR l D cI cZ q yX5_keep cX5_keep 3 (some .boolean) 0 0 QI [.ref (q 34), .int x1] M (fR_keep n x1 M) := by
  refine MetR.of (by decide) rfl (Nat.le_of_ble_eq_true rfl) ?_
  intro p e s m args below meth c X
  unfold fR_keep
  refine g_pick (lv' := [(0, .ref (q 34)), (1, .int x1)]) [0, 1] rfl ?_
  refine g_iload_n X dX5_keep_0 rfl rfl ?_
  refine g_if_lt (tgt := 9) X dX5_keep_1 (by decide) ?_ ?_
  · refine g_iconst (v := (0 : Int32)) X dX5_keep_9 (by decide) ?_
    exact r_zret X dX5_keep_10
  · refine g_iload_n X dX5_keep_4 rfl rfl ?_
    refine g_iconst (v := (1 : Int32)) X dX5_keep_5 (by decide) ?_
    refine g_icmp_le (tgt := 11) X dX5_keep_6 (by decide) ?_ ?_
    · refine g_iconst (v := (0 : Int32)) X dX5_keep_11 (by decide) ?_
      refine g_istore_n (lv' := [(2, .int (0 : Int32)), (0, .ref (q 34)), (1, .int x1)]) X dX5_keep_12 rfl (by decide) rfl ?_
      exact g_pick [1, 2, 0] rfl (wR_keep_l13 X n n x1 (0 : Int32) M)
    · refine g_iconst (v := (0 : Int32)) X dX5_keep_9 (by decide) ?_
      exact r_zret X dX5_keep_10
-- back
def fR_back_l22 (n : Nat) : Nat → Int32 → Int32 → MR → Option (Int32 × MR)
  | 0, _, _, _ => none
  | k + 1, x1, x2, M => if (20870 : Int32) ≤ x2 then
      (zt (1 : Int32) (some ((1 : Int32), M)))
    else
      (rd M 0 62610 (((20870 : Int32) * (x1 + (1 : Int32))) + x2) fun v1 =>
      wr M 0 62610 x2 v1 fun M2 =>
      (fR_back_l22 n k) x1 (x2 + (1 : Int32)) M2)
theorem wR_back_l22 (X : gX p s m args meth c cX5_back 3 RX5 (some .boolean) D (tyR cI cZ)) (n : Nat) : ∀ (k : Nat) (x1 : Int32) (x2 : Int32) (M : MR), gG p l e (rmR 0 0) s m args below meth c 3 (ZR D cI cZ q (AR q s.heap.size) s.heap M) 0 0 (fun r => MQ below (QI D cI cZ q s.heap.size r) args s 0 0 (AR q s.heap.size)) 22 [(0, .ref (q 34)), (1, .int x1), (2, .int x2)] [] (fR_back_l22 n k x1 x2 M) := by
  intro k
  induction k with
  | zero =>
    intro x1 x2 M
    exact g_none
  | succ k ih =>
    intro x1 x2 M
    rw [fR_back_l22]
    refine g_iload_n X dX5_back_22 rfl rfl ?_
    refine g_sipush (v := (20870 : Int32)) X dX5_back_23 (by decide) ?_
    refine g_icmp_ge (tgt := 55) X dX5_back_26 (by decide) ?_ ?_
    · refine g_iconst (v := (1 : Int32)) X dX5_back_55 (by decide) ?_
      exact r_zret X dX5_back_56
    · refine g_aload_n X dX5_back_29 rfl rfl ?_
      refine r_g_m X dX5_back_30 ?_
      refine g_iload_n X dX5_back_33 rfl rfl ?_
      refine g_aload_n X dX5_back_34 rfl rfl ?_
      refine r_g_m X dX5_back_35 ?_
      refine g_sipush (v := (20870 : Int32)) X dX5_back_38 (by decide) ?_
      refine g_iload_n X dX5_back_41 rfl rfl ?_
      refine g_iconst (v := (1 : Int32)) X dX5_back_42 (by decide) ?_
      refine g_iadd X dX5_back_43 ?_
      refine g_imul X dX5_back_44 ?_
      refine g_iload_n X dX5_back_45 rfl rfl ?_
      refine g_iadd X dX5_back_46 ?_
      refine r_l_m X dX5_back_47 ?_
      intro v1
      refine r_s_m X dX5_back_48 ?_
      intro M2
      refine g_iinc (v := (1 : Int32)) (lv' := [(2, .int (x2 + (1 : Int32))), (0, .ref (q 34)), (1, .int x1)]) X dX5_back_49 rfl (by decide) (by decide) rfl ?_
      refine g_goto (tgt := 22) X dX5_back_52 (by decide) ?_
      exact g_pick [1, 2, 0] rfl (ih x1 (x2 + (1 : Int32)) M2)
def fR_back (n : Nat) (x1 : Int32) (M : MR) : Option (Int32 × MR) :=
    if x1 < 0 then
      (zt (0 : Int32) (some ((0 : Int32), M)))
    else
      (if (1 : Int32) < x1 then
        (zt (0 : Int32) (some ((0 : Int32), M)))
      else
        (rd M 1 2 x1 fun v1 =>
        if v1 = 0 then (zt (0 : Int32) (some ((0 : Int32), M))) else (fR_back_l22 n n x1 (0 : Int32) M)))
theorem c_back (l : Launch) (D : va_G) (cI cZ : ClassId) (q : Nat → Nat) (n : Nat) (x1 : Int32) (M : MR) : MetR l D cI cZ q yX5_back cX5_back 3 (some .boolean) 0 0 QI [.ref (q 34), .int x1] M (fR_back n x1 M) := by
  refine MetR.of (by decide) rfl (Nat.le_of_ble_eq_true rfl) ?_
  intro p e s m args below meth c X
  unfold fR_back
  refine g_pick (lv' := [(0, .ref (q 34)), (1, .int x1)]) [0, 1] rfl ?_
  refine g_iload_n X dX5_back_0 rfl rfl ?_
  refine g_if_lt (tgt := 18) X dX5_back_1 (by decide) ?_ ?_
  · refine g_iconst (v := (0 : Int32)) X dX5_back_18 (by decide) ?_
    exact r_zret X dX5_back_19
  · refine g_iload_n X dX5_back_4 rfl rfl ?_
    refine g_iconst (v := (1 : Int32)) X dX5_back_5 (by decide) ?_
    refine g_icmp_gt (tgt := 18) X dX5_back_6 (by decide) ?_ ?_
    · refine g_iconst (v := (0 : Int32)) X dX5_back_18 (by decide) ?_
      exact r_zret X dX5_back_19
    · refine g_aload_n X dX5_back_9 rfl rfl ?_
      refine r_g_isKept X dX5_back_10 ?_
      refine g_iload_n X dX5_back_13 rfl rfl ?_
      refine r_l_isKept X dX5_back_14 ?_
      intro v1
      refine g_if_ne (tgt := 20) X dX5_back_15 (by decide) ?_ ?_
      · refine g_iconst (v := (0 : Int32)) X dX5_back_20 (by decide) ?_
        refine g_istore_n (lv' := [(2, .int (0 : Int32)), (0, .ref (q 34)), (1, .int x1)]) X dX5_back_21 rfl (by decide) rfl ?_
        exact g_pick [1, 2, 0] rfl (wR_back_l22 X n n x1 (0 : Int32) M)
      · refine g_iconst (v := (0 : Int32)) X dX5_back_18 (by decide) ?_
        exact r_zret X dX5_back_19
end RM
end
