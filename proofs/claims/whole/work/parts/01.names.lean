-- ===== PART A: goes FIRST, ahead of the names: the tables' words, and 'selects' of the private methods out of them =====
/-- a private method of a class that the tables say can be made, by its rows of tables_1 -/
def lw_okq (q : MethodName × Nat) : Prop := (q.1.cls ≠ "java/lang/invoke/MethodHandle" ∧ q.1.cls ≠ "java/lang/invoke/VarHandle") ∧ Cond.instantiable q.1.cls q.2 ∈ tables_1 ∧ Cond.privateMethod q.1 ∈ tables_1 ∧ Cond.instanceMethod q.1 ∈ tables_1
theorem lw_p0 : lw_okq (⟨"CellPacks$Pack", "reset", "()V"⟩, 9) := ⟨⟨by decide +kernel, by decide +kernel⟩, List.mem_of_getElem? (i := 44) (by decide +kernel), List.mem_of_getElem? (i := 50) (by decide +kernel), List.mem_of_getElem? (i := 51) (by decide +kernel)⟩
theorem lw_p1 : lw_okq (⟨"CellPacks$TextReader", "readAll", "()V"⟩, 9) := ⟨⟨by decide +kernel, by decide +kernel⟩, List.mem_of_getElem? (i := 106) (by decide +kernel), List.mem_of_getElem? (i := 288) (by decide +kernel), List.mem_of_getElem? (i := 289) (by decide +kernel)⟩
theorem lw_p2 : lw_okq (⟨"CellPacks$TextReader", "readLine", "()Z"⟩, 9) := ⟨⟨by decide +kernel, by decide +kernel⟩, List.mem_of_getElem? (i := 106) (by decide +kernel), List.mem_of_getElem? (i := 293) (by decide +kernel), List.mem_of_getElem? (i := 294) (by decide +kernel)⟩
theorem lw_p3 : lw_okq (⟨"CellPacks$TextReader", "nextToken", "()Z"⟩, 9) := ⟨⟨by decide +kernel, by decide +kernel⟩, List.mem_of_getElem? (i := 106) (by decide +kernel), List.mem_of_getElem? (i := 297) (by decide +kernel), List.mem_of_getElem? (i := 298) (by decide +kernel)⟩
theorem lw_p4 : lw_okq (⟨"CellPacks$Tape", "byteAt", "(I)I"⟩, 2) := ⟨⟨by decide +kernel, by decide +kernel⟩, List.mem_of_getElem? (i := 27) (by decide +kernel), List.mem_of_getElem? (i := 301) (by decide +kernel), List.mem_of_getElem? (i := 302) (by decide +kernel)⟩
theorem lw_p5 : lw_okq (⟨"CellPacks$TextReader", "passRun", "(II)V"⟩, 9) := ⟨⟨by decide +kernel, by decide +kernel⟩, List.mem_of_getElem? (i := 106) (by decide +kernel), List.mem_of_getElem? (i := 306) (by decide +kernel), List.mem_of_getElem? (i := 307) (by decide +kernel)⟩
theorem lw_p6 : lw_okq (⟨"CellPacks$TextReader", "takeValue", "()Z"⟩, 9) := ⟨⟨by decide +kernel, by decide +kernel⟩, List.mem_of_getElem? (i := 106) (by decide +kernel), List.mem_of_getElem? (i := 310) (by decide +kernel), List.mem_of_getElem? (i := 311) (by decide +kernel)⟩
theorem lw_p7 : lw_okq (⟨"CellPacks$TextReader", "fail", "(I)Z"⟩, 9) := ⟨⟨by decide +kernel, by decide +kernel⟩, List.mem_of_getElem? (i := 106) (by decide +kernel), List.mem_of_getElem? (i := 314) (by decide +kernel), List.mem_of_getElem? (i := 315) (by decide +kernel)⟩
theorem lw_p8 : lw_okq (⟨"CellPacks$TextReader", "lineNamed", "()I"⟩, 9) := ⟨⟨by decide +kernel, by decide +kernel⟩, List.mem_of_getElem? (i := 106) (by decide +kernel), List.mem_of_getElem? (i := 318) (by decide +kernel), List.mem_of_getElem? (i := 319) (by decide +kernel)⟩
theorem lw_p9 : lw_okq (⟨"CellPacks$Tape", "spells", "(Ljava/lang/String;II)Z"⟩, 2) := ⟨⟨by decide +kernel, by decide +kernel⟩, List.mem_of_getElem? (i := 27) (by decide +kernel), List.mem_of_getElem? (i := 330) (by decide +kernel), List.mem_of_getElem? (i := 331) (by decide +kernel)⟩
theorem lw_p10 : lw_okq (⟨"CellPacks$TextReader", "readCells", "()Z"⟩, 9) := ⟨⟨by decide +kernel, by decide +kernel⟩, List.mem_of_getElem? (i := 106) (by decide +kernel), List.mem_of_getElem? (i := 383) (by decide +kernel), List.mem_of_getElem? (i := 384) (by decide +kernel)⟩
theorem lw_p11 : lw_okq (⟨"CellPacks$Pack", "append", "(II)V"⟩, 9) := ⟨⟨by decide +kernel, by decide +kernel⟩, List.mem_of_getElem? (i := 44) (by decide +kernel), List.mem_of_getElem? (i := 387) (by decide +kernel), List.mem_of_getElem? (i := 388) (by decide +kernel)⟩
theorem lw_p12 : lw_okq (⟨"CellPacks$TextReader", "readSetting", "(I)Z"⟩, 9) := ⟨⟨by decide +kernel, by decide +kernel⟩, List.mem_of_getElem? (i := 106) (by decide +kernel), List.mem_of_getElem? (i := 391) (by decide +kernel), List.mem_of_getElem? (i := 392) (by decide +kernel)⟩
theorem lw_p13 : lw_okq (⟨"CellPacks$TextReader", "putSetting", "(I)V"⟩, 9) := ⟨⟨by decide +kernel, by decide +kernel⟩, List.mem_of_getElem? (i := 106) (by decide +kernel), List.mem_of_getElem? (i := 401) (by decide +kernel), List.mem_of_getElem? (i := 402) (by decide +kernel)⟩
theorem lw_p14 : lw_okq (⟨"CellPacks$Pack", "copyFrom", "(LCellPacks$Pack;)V"⟩, 9) := ⟨⟨by decide +kernel, by decide +kernel⟩, List.mem_of_getElem? (i := 44) (by decide +kernel), List.mem_of_getElem? (i := 405) (by decide +kernel), List.mem_of_getElem? (i := 406) (by decide +kernel)⟩
theorem lw_p15 : lw_okq (⟨"CellPacks", "regroup", "(I)V"⟩, 10) := ⟨⟨by decide +kernel, by decide +kernel⟩, List.mem_of_getElem? (i := 19) (by decide +kernel), List.mem_of_getElem? (i := 412) (by decide +kernel), List.mem_of_getElem? (i := 413) (by decide +kernel)⟩
def lw_privs_1 : List (MethodName × Nat) := [(⟨"CellPacks$Pack", "reset", "()V"⟩, 9), (⟨"CellPacks$TextReader", "readAll", "()V"⟩, 9), (⟨"CellPacks$TextReader", "readLine", "()Z"⟩, 9), (⟨"CellPacks$TextReader", "nextToken", "()Z"⟩, 9), (⟨"CellPacks$Tape", "byteAt", "(I)I"⟩, 2), (⟨"CellPacks$TextReader", "passRun", "(II)V"⟩, 9), (⟨"CellPacks$TextReader", "takeValue", "()Z"⟩, 9), (⟨"CellPacks$TextReader", "fail", "(I)Z"⟩, 9), (⟨"CellPacks$TextReader", "lineNamed", "()I"⟩, 9), (⟨"CellPacks$Tape", "spells", "(Ljava/lang/String;II)Z"⟩, 2), (⟨"CellPacks$TextReader", "readCells", "()Z"⟩, 9), (⟨"CellPacks$Pack", "append", "(II)V"⟩, 9), (⟨"CellPacks$TextReader", "readSetting", "(I)Z"⟩, 9), (⟨"CellPacks$TextReader", "putSetting", "(I)V"⟩, 9), (⟨"CellPacks$Pack", "copyFrom", "(LCellPacks$Pack;)V"⟩, 9), (⟨"CellPacks", "regroup", "(I)V"⟩, 10)]
theorem lw_r1 : ∀ q ∈ lw_privs_1, lw_okq q := List.forall_mem_cons.mpr ⟨lw_p0, List.forall_mem_cons.mpr ⟨lw_p1, List.forall_mem_cons.mpr ⟨lw_p2, List.forall_mem_cons.mpr ⟨lw_p3, List.forall_mem_cons.mpr ⟨lw_p4, List.forall_mem_cons.mpr ⟨lw_p5, List.forall_mem_cons.mpr ⟨lw_p6, List.forall_mem_cons.mpr ⟨lw_p7, List.forall_mem_cons.mpr ⟨lw_p8, List.forall_mem_cons.mpr ⟨lw_p9, List.forall_mem_cons.mpr ⟨lw_p10, List.forall_mem_cons.mpr ⟨lw_p11, List.forall_mem_cons.mpr ⟨lw_p12, List.forall_mem_cons.mpr ⟨lw_p13, List.forall_mem_cons.mpr ⟨lw_p14, List.forall_mem_cons.mpr ⟨lw_p15, fun _ h => absurd h List.not_mem_nil⟩⟩⟩⟩⟩⟩⟩⟩⟩⟩⟩⟩⟩⟩⟩⟩
theorem lw_p16 : lw_okq (⟨"CellPacks$Ways", "choose", "(LCellPacks$Pack;I)V"⟩, 5) := ⟨⟨by decide +kernel, by decide +kernel⟩, List.mem_of_getElem? (i := 143) (by decide +kernel), List.mem_of_getElem? (i := 416) (by decide +kernel), List.mem_of_getElem? (i := 417) (by decide +kernel)⟩
theorem lw_p17 : lw_okq (⟨"CellPacks$Ways", "byWeakest", "(LCellPacks$Pack;)V"⟩, 5) := ⟨⟨by decide +kernel, by decide +kernel⟩, List.mem_of_getElem? (i := 143) (by decide +kernel), List.mem_of_getElem? (i := 420) (by decide +kernel), List.mem_of_getElem? (i := 421) (by decide +kernel)⟩
theorem lw_p18 : lw_okq (⟨"CellPacks$Pack", "rankByCharge", "(I)I"⟩, 9) := ⟨⟨by decide +kernel, by decide +kernel⟩, List.mem_of_getElem? (i := 44) (by decide +kernel), List.mem_of_getElem? (i := 424) (by decide +kernel), List.mem_of_getElem? (i := 425) (by decide +kernel)⟩
theorem lw_p19 : lw_okq (⟨"CellPacks$Differences", "chooseHomes", "(LCellPacks$Pack;[I)V"⟩, 7) := ⟨⟨by decide +kernel, by decide +kernel⟩, List.mem_of_getElem? (i := 149) (by decide +kernel), List.mem_of_getElem? (i := 434) (by decide +kernel), List.mem_of_getElem? (i := 435) (by decide +kernel)⟩
theorem lw_p20 : lw_okq (⟨"CellPacks$Differences", "begin", "(LCellPacks$Pack;)V"⟩, 7) := ⟨⟨by decide +kernel, by decide +kernel⟩, List.mem_of_getElem? (i := 149) (by decide +kernel), List.mem_of_getElem? (i := 438) (by decide +kernel), List.mem_of_getElem? (i := 439) (by decide +kernel)⟩
theorem lw_p21 : lw_okq (⟨"CellPacks$Differences", "joinTwo", "()V"⟩, 7) := ⟨⟨by decide +kernel, by decide +kernel⟩, List.mem_of_getElem? (i := 149) (by decide +kernel), List.mem_of_getElem? (i := 443) (by decide +kernel), List.mem_of_getElem? (i := 444) (by decide +kernel)⟩
theorem lw_p22 : lw_okq (⟨"CellPacks$Differences", "widestBut", "(I)I"⟩, 7) := ⟨⟨by decide +kernel, by decide +kernel⟩, List.mem_of_getElem? (i := 149) (by decide +kernel), List.mem_of_getElem? (i := 447) (by decide +kernel), List.mem_of_getElem? (i := 448) (by decide +kernel)⟩
theorem lw_p23 : lw_okq (⟨"CellPacks$Differences", "width", "(I)I"⟩, 7) := ⟨⟨by decide +kernel, by decide +kernel⟩, List.mem_of_getElem? (i := 149) (by decide +kernel), List.mem_of_getElem? (i := 451) (by decide +kernel), List.mem_of_getElem? (i := 452) (by decide +kernel)⟩
theorem lw_p24 : lw_okq (⟨"CellPacks$Differences", "merge", "(II)V"⟩, 7) := ⟨⟨by decide +kernel, by decide +kernel⟩, List.mem_of_getElem? (i := 149) (by decide +kernel), List.mem_of_getElem? (i := 461) (by decide +kernel), List.mem_of_getElem? (i := 462) (by decide +kernel)⟩
theorem lw_p25 : lw_okq (⟨"CellPacks$Differences", "isAhead", "(III)Z"⟩, 7) := ⟨⟨by decide +kernel, by decide +kernel⟩, List.mem_of_getElem? (i := 149) (by decide +kernel), List.mem_of_getElem? (i := 465) (by decide +kernel), List.mem_of_getElem? (i := 466) (by decide +kernel)⟩
theorem lw_p26 : lw_okq (⟨"CellPacks$Differences", "bundleOf", "(I)I"⟩, 7) := ⟨⟨by decide +kernel, by decide +kernel⟩, List.mem_of_getElem? (i := 149) (by decide +kernel), List.mem_of_getElem? (i := 472) (by decide +kernel), List.mem_of_getElem? (i := 473) (by decide +kernel)⟩
theorem lw_p27 : lw_okq (⟨"CellPacks$BestSearch", "chooseHomes", "(LCellPacks$Pack;[I)V"⟩, 5) := ⟨⟨by decide +kernel, by decide +kernel⟩, List.mem_of_getElem? (i := 182) (by decide +kernel), List.mem_of_getElem? (i := 476) (by decide +kernel), List.mem_of_getElem? (i := 477) (by decide +kernel)⟩
theorem lw_p28 : lw_okq (⟨"CellPacks$BestSearch", "tryCell", "(LCellPacks$Pack;III)V"⟩, 5) := ⟨⟨by decide +kernel, by decide +kernel⟩, List.mem_of_getElem? (i := 182) (by decide +kernel), List.mem_of_getElem? (i := 484) (by decide +kernel), List.mem_of_getElem? (i := 485) (by decide +kernel)⟩
theorem lw_p29 : lw_okq (⟨"CellPacks$BestSearch", "judge", "(LCellPacks$Pack;)V"⟩, 5) := ⟨⟨by decide +kernel, by decide +kernel⟩, List.mem_of_getElem? (i := 182) (by decide +kernel), List.mem_of_getElem? (i := 488) (by decide +kernel), List.mem_of_getElem? (i := 489) (by decide +kernel)⟩
theorem lw_p30 : lw_okq (⟨"CellPacks$BestSearch", "lacking", "(I)I"⟩, 5) := ⟨⟨by decide +kernel, by decide +kernel⟩, List.mem_of_getElem? (i := 182) (by decide +kernel), List.mem_of_getElem? (i := 498) (by decide +kernel), List.mem_of_getElem? (i := 499) (by decide +kernel)⟩
theorem lw_p31 : lw_okq (⟨"CellPacks$Ways", "byTurns", "(LCellPacks$Pack;)V"⟩, 5) := ⟨⟨by decide +kernel, by decide +kernel⟩, List.mem_of_getElem? (i := 143) (by decide +kernel), List.mem_of_getElem? (i := 504) (by decide +kernel), List.mem_of_getElem? (i := 505) (by decide +kernel)⟩
def lw_privs_2 : List (MethodName × Nat) := [(⟨"CellPacks$Ways", "choose", "(LCellPacks$Pack;I)V"⟩, 5), (⟨"CellPacks$Ways", "byWeakest", "(LCellPacks$Pack;)V"⟩, 5), (⟨"CellPacks$Pack", "rankByCharge", "(I)I"⟩, 9), (⟨"CellPacks$Differences", "chooseHomes", "(LCellPacks$Pack;[I)V"⟩, 7), (⟨"CellPacks$Differences", "begin", "(LCellPacks$Pack;)V"⟩, 7), (⟨"CellPacks$Differences", "joinTwo", "()V"⟩, 7), (⟨"CellPacks$Differences", "widestBut", "(I)I"⟩, 7), (⟨"CellPacks$Differences", "width", "(I)I"⟩, 7), (⟨"CellPacks$Differences", "merge", "(II)V"⟩, 7), (⟨"CellPacks$Differences", "isAhead", "(III)Z"⟩, 7), (⟨"CellPacks$Differences", "bundleOf", "(I)I"⟩, 7), (⟨"CellPacks$BestSearch", "chooseHomes", "(LCellPacks$Pack;[I)V"⟩, 5), (⟨"CellPacks$BestSearch", "tryCell", "(LCellPacks$Pack;III)V"⟩, 5), (⟨"CellPacks$BestSearch", "judge", "(LCellPacks$Pack;)V"⟩, 5), (⟨"CellPacks$BestSearch", "lacking", "(I)I"⟩, 5), (⟨"CellPacks$Ways", "byTurns", "(LCellPacks$Pack;)V"⟩, 5)]
theorem lw_r2 : ∀ q ∈ lw_privs_2, lw_okq q := List.forall_mem_cons.mpr ⟨lw_p16, List.forall_mem_cons.mpr ⟨lw_p17, List.forall_mem_cons.mpr ⟨lw_p18, List.forall_mem_cons.mpr ⟨lw_p19, List.forall_mem_cons.mpr ⟨lw_p20, List.forall_mem_cons.mpr ⟨lw_p21, List.forall_mem_cons.mpr ⟨lw_p22, List.forall_mem_cons.mpr ⟨lw_p23, List.forall_mem_cons.mpr ⟨lw_p24, List.forall_mem_cons.mpr ⟨lw_p25, List.forall_mem_cons.mpr ⟨lw_p26, List.forall_mem_cons.mpr ⟨lw_p27, List.forall_mem_cons.mpr ⟨lw_p28, List.forall_mem_cons.mpr ⟨lw_p29, List.forall_mem_cons.mpr ⟨lw_p30, List.forall_mem_cons.mpr ⟨lw_p31, fun _ h => absurd h List.not_mem_nil⟩⟩⟩⟩⟩⟩⟩⟩⟩⟩⟩⟩⟩⟩⟩⟩
theorem lw_p32 : lw_okq (⟨"CellPacks", "forgetImages", "()V"⟩, 10) := ⟨⟨by decide +kernel, by decide +kernel⟩, List.mem_of_getElem? (i := 19) (by decide +kernel), List.mem_of_getElem? (i := 509) (by decide +kernel), List.mem_of_getElem? (i := 510) (by decide +kernel)⟩
theorem lw_p33 : lw_okq (⟨"CellPacks$Pack", "weakest", "()I"⟩, 9) := ⟨⟨by decide +kernel, by decide +kernel⟩, List.mem_of_getElem? (i := 44) (by decide +kernel), List.mem_of_getElem? (i := 521) (by decide +kernel), List.mem_of_getElem? (i := 522) (by decide +kernel)⟩
theorem lw_p34 : lw_okq (⟨"CellPacks$Pack", "leastSum", "()I"⟩, 9) := ⟨⟨by decide +kernel, by decide +kernel⟩, List.mem_of_getElem? (i := 44) (by decide +kernel), List.mem_of_getElem? (i := 530) (by decide +kernel), List.mem_of_getElem? (i := 531) (by decide +kernel)⟩
theorem lw_p35 : lw_okq (⟨"CellPacks$Pack", "spread", "()I"⟩, 9) := ⟨⟨by decide +kernel, by decide +kernel⟩, List.mem_of_getElem? (i := 44) (by decide +kernel), List.mem_of_getElem? (i := 535) (by decide +kernel), List.mem_of_getElem? (i := 536) (by decide +kernel)⟩
theorem lw_p36 : lw_okq (⟨"CellPacks", "isCell", "(I)Z"⟩, 10) := ⟨⟨by decide +kernel, by decide +kernel⟩, List.mem_of_getElem? (i := 19) (by decide +kernel), List.mem_of_getElem? (i := 546) (by decide +kernel), List.mem_of_getElem? (i := 547) (by decide +kernel)⟩
theorem lw_p37 : lw_okq (⟨"CellPacks", "isGroup", "(I)Z"⟩, 10) := ⟨⟨by decide +kernel, by decide +kernel⟩, List.mem_of_getElem? (i := 19) (by decide +kernel), List.mem_of_getElem? (i := 555) (by decide +kernel), List.mem_of_getElem? (i := 556) (by decide +kernel)⟩
theorem lw_p38 : lw_okq (⟨"CellPacks$Pack", "sumOf", "(I)I"⟩, 9) := ⟨⟨by decide +kernel, by decide +kernel⟩, List.mem_of_getElem? (i := 44) (by decide +kernel), List.mem_of_getElem? (i := 559) (by decide +kernel), List.mem_of_getElem? (i := 560) (by decide +kernel)⟩
theorem lw_p39 : lw_okq (⟨"CellPacks$Pack", "bitsOf", "(I)I"⟩, 9) := ⟨⟨by decide +kernel, by decide +kernel⟩, List.mem_of_getElem? (i := 44) (by decide +kernel), List.mem_of_getElem? (i := 563) (by decide +kernel), List.mem_of_getElem? (i := 564) (by decide +kernel)⟩
theorem lw_p40 : lw_okq (⟨"CellPacks$Pack", "strongestOf", "(I)I"⟩, 9) := ⟨⟨by decide +kernel, by decide +kernel⟩, List.mem_of_getElem? (i := 44) (by decide +kernel), List.mem_of_getElem? (i := 573) (by decide +kernel), List.mem_of_getElem? (i := 574) (by decide +kernel)⟩
theorem lw_p41 : lw_okq (⟨"CellPacks$Pack", "aboveFloor", "(I)I"⟩, 9) := ⟨⟨by decide +kernel, by decide +kernel⟩, List.mem_of_getElem? (i := 44) (by decide +kernel), List.mem_of_getElem? (i := 577) (by decide +kernel), List.mem_of_getElem? (i := 578) (by decide +kernel)⟩
theorem lw_p42 : lw_okq (⟨"CellPacks", "wayIsOpen", "(I)Z"⟩, 10) := ⟨⟨by decide +kernel, by decide +kernel⟩, List.mem_of_getElem? (i := 19) (by decide +kernel), List.mem_of_getElem? (i := 589) (by decide +kernel), List.mem_of_getElem? (i := 590) (by decide +kernel)⟩
theorem lw_p43 : lw_okq (⟨"CellPacks$Ways", "leastSum", "(LCellPacks$Pack;)I"⟩, 5) := ⟨⟨by decide +kernel, by decide +kernel⟩, List.mem_of_getElem? (i := 143) (by decide +kernel), List.mem_of_getElem? (i := 597) (by decide +kernel), List.mem_of_getElem? (i := 598) (by decide +kernel)⟩
theorem lw_p44 : lw_okq (⟨"CellPacks$Ways", "spread", "(LCellPacks$Pack;)I"⟩, 5) := ⟨⟨by decide +kernel, by decide +kernel⟩, List.mem_of_getElem? (i := 143) (by decide +kernel), List.mem_of_getElem? (i := 602) (by decide +kernel), List.mem_of_getElem? (i := 603) (by decide +kernel)⟩
theorem lw_p45 : lw_okq (⟨"CellPacks$Ways", "strangers", "(LCellPacks$Pack;)I"⟩, 5) := ⟨⟨by decide +kernel, by decide +kernel⟩, List.mem_of_getElem? (i := 143) (by decide +kernel), List.mem_of_getElem? (i := 608) (by decide +kernel), List.mem_of_getElem? (i := 609) (by decide +kernel)⟩
theorem lw_p46 : lw_okq (⟨"CellPacks$Pack", "leastSumOfCharges", "()I"⟩, 9) := ⟨⟨by decide +kernel, by decide +kernel⟩, List.mem_of_getElem? (i := 44) (by decide +kernel), List.mem_of_getElem? (i := 620) (by decide +kernel), List.mem_of_getElem? (i := 621) (by decide +kernel)⟩
theorem lw_p47 : lw_okq (⟨"CellPacks", "waysThatReach", "(I)I"⟩, 10) := ⟨⟨by decide +kernel, by decide +kernel⟩, List.mem_of_getElem? (i := 19) (by decide +kernel), List.mem_of_getElem? (i := 624) (by decide +kernel), List.mem_of_getElem? (i := 625) (by decide +kernel)⟩
def lw_privs_3 : List (MethodName × Nat) := [(⟨"CellPacks", "forgetImages", "()V"⟩, 10), (⟨"CellPacks$Pack", "weakest", "()I"⟩, 9), (⟨"CellPacks$Pack", "leastSum", "()I"⟩, 9), (⟨"CellPacks$Pack", "spread", "()I"⟩, 9), (⟨"CellPacks", "isCell", "(I)Z"⟩, 10), (⟨"CellPacks", "isGroup", "(I)Z"⟩, 10), (⟨"CellPacks$Pack", "sumOf", "(I)I"⟩, 9), (⟨"CellPacks$Pack", "bitsOf", "(I)I"⟩, 9), (⟨"CellPacks$Pack", "strongestOf", "(I)I"⟩, 9), (⟨"CellPacks$Pack", "aboveFloor", "(I)I"⟩, 9), (⟨"CellPacks", "wayIsOpen", "(I)Z"⟩, 10), (⟨"CellPacks$Ways", "leastSum", "(LCellPacks$Pack;)I"⟩, 5), (⟨"CellPacks$Ways", "spread", "(LCellPacks$Pack;)I"⟩, 5), (⟨"CellPacks$Ways", "strangers", "(LCellPacks$Pack;)I"⟩, 5), (⟨"CellPacks$Pack", "leastSumOfCharges", "()I"⟩, 9), (⟨"CellPacks", "waysThatReach", "(I)I"⟩, 10)]
theorem lw_r3 : ∀ q ∈ lw_privs_3, lw_okq q := List.forall_mem_cons.mpr ⟨lw_p32, List.forall_mem_cons.mpr ⟨lw_p33, List.forall_mem_cons.mpr ⟨lw_p34, List.forall_mem_cons.mpr ⟨lw_p35, List.forall_mem_cons.mpr ⟨lw_p36, List.forall_mem_cons.mpr ⟨lw_p37, List.forall_mem_cons.mpr ⟨lw_p38, List.forall_mem_cons.mpr ⟨lw_p39, List.forall_mem_cons.mpr ⟨lw_p40, List.forall_mem_cons.mpr ⟨lw_p41, List.forall_mem_cons.mpr ⟨lw_p42, List.forall_mem_cons.mpr ⟨lw_p43, List.forall_mem_cons.mpr ⟨lw_p44, List.forall_mem_cons.mpr ⟨lw_p45, List.forall_mem_cons.mpr ⟨lw_p46, List.forall_mem_cons.mpr ⟨lw_p47, fun _ h => absurd h List.not_mem_nil⟩⟩⟩⟩⟩⟩⟩⟩⟩⟩⟩⟩⟩⟩⟩⟩
theorem lw_p48 : lw_okq (⟨"CellPacks$Pack", "leastSumExchanged", "(II)I"⟩, 9) := ⟨⟨by decide +kernel, by decide +kernel⟩, List.mem_of_getElem? (i := 44) (by decide +kernel), List.mem_of_getElem? (i := 644) (by decide +kernel), List.mem_of_getElem? (i := 645) (by decide +kernel)⟩
theorem lw_p49 : lw_okq (⟨"CellPacks$Pack", "removeAt", "(I)V"⟩, 9) := ⟨⟨by decide +kernel, by decide +kernel⟩, List.mem_of_getElem? (i := 44) (by decide +kernel), List.mem_of_getElem? (i := 657) (by decide +kernel), List.mem_of_getElem? (i := 658) (by decide +kernel)⟩
theorem lw_p50 : lw_okq (⟨"CellPacks$Pack", "runTicks", "(I)I"⟩, 9) := ⟨⟨by decide +kernel, by decide +kernel⟩, List.mem_of_getElem? (i := 44) (by decide +kernel), List.mem_of_getElem? (i := 677) (by decide +kernel), List.mem_of_getElem? (i := 678) (by decide +kernel)⟩
theorem lw_p51 : lw_okq (⟨"CellPacks$Pack", "tickLoses", "()Z"⟩, 9) := ⟨⟨by decide +kernel, by decide +kernel⟩, List.mem_of_getElem? (i := 44) (by decide +kernel), List.mem_of_getElem? (i := 681) (by decide +kernel), List.mem_of_getElem? (i := 682) (by decide +kernel)⟩
theorem lw_p52 : lw_okq (⟨"CellPacks$Pack", "strongestLoses", "(I)Z"⟩, 9) := ⟨⟨by decide +kernel, by decide +kernel⟩, List.mem_of_getElem? (i := 44) (by decide +kernel), List.mem_of_getElem? (i := 685) (by decide +kernel), List.mem_of_getElem? (i := 686) (by decide +kernel)⟩
theorem lw_p53 : lw_okq (⟨"CellPacks$Sheet", "renew", "(II)V"⟩, 3) := ⟨⟨by decide +kernel, by decide +kernel⟩, List.mem_of_getElem? (i := 223) (by decide +kernel), List.mem_of_getElem? (i := 725) (by decide +kernel), List.mem_of_getElem? (i := 726) (by decide +kernel)⟩
theorem lw_p54 : lw_okq (⟨"CellPacks$Sheet", "putAt", "(II)I"⟩, 3) := ⟨⟨by decide +kernel, by decide +kernel⟩, List.mem_of_getElem? (i := 223) (by decide +kernel), List.mem_of_getElem? (i := 734) (by decide +kernel), List.mem_of_getElem? (i := 735) (by decide +kernel)⟩
theorem lw_p55 : lw_okq (⟨"CellPacks$Sheet", "wholePairs", "(III)I"⟩, 3) := ⟨⟨by decide +kernel, by decide +kernel⟩, List.mem_of_getElem? (i := 223) (by decide +kernel), List.mem_of_getElem? (i := 743) (by decide +kernel), List.mem_of_getElem? (i := 744) (by decide +kernel)⟩
theorem lw_p56 : lw_okq (⟨"CellPacks$Sheet", "faultAs", "(I)I"⟩, 3) := ⟨⟨by decide +kernel, by decide +kernel⟩, List.mem_of_getElem? (i := 223) (by decide +kernel), List.mem_of_getElem? (i := 748) (by decide +kernel), List.mem_of_getElem? (i := 749) (by decide +kernel)⟩
theorem lw_p57 : lw_okq (⟨"CellPacks", "keptImages", "()I"⟩, 10) := ⟨⟨by decide +kernel, by decide +kernel⟩, List.mem_of_getElem? (i := 19) (by decide +kernel), List.mem_of_getElem? (i := 760) (by decide +kernel), List.mem_of_getElem? (i := 761) (by decide +kernel)⟩
theorem lw_p58 : lw_okq (⟨"CellPacks$Pack", "emptyGroups", "()I"⟩, 9) := ⟨⟨by decide +kernel, by decide +kernel⟩, List.mem_of_getElem? (i := 44) (by decide +kernel), List.mem_of_getElem? (i := 764) (by decide +kernel), List.mem_of_getElem? (i := 765) (by decide +kernel)⟩
theorem lw_p59 : lw_okq (⟨"CellPacks$Pack", "bledCells", "()I"⟩, 9) := ⟨⟨by decide +kernel, by decide +kernel⟩, List.mem_of_getElem? (i := 44) (by decide +kernel), List.mem_of_getElem? (i := 769) (by decide +kernel), List.mem_of_getElem? (i := 770) (by decide +kernel)⟩
theorem lw_p60 : lw_okq (⟨"CellPacks$Pack", "greatestCharge", "()I"⟩, 9) := ⟨⟨by decide +kernel, by decide +kernel⟩, List.mem_of_getElem? (i := 44) (by decide +kernel), List.mem_of_getElem? (i := 773) (by decide +kernel), List.mem_of_getElem? (i := 774) (by decide +kernel)⟩
theorem lw_p61 : lw_okq (⟨"CellPacksModel", "firstDraft", "()V"⟩, 26) := ⟨⟨by decide +kernel, by decide +kernel⟩, List.mem_of_getElem? (i := 777) (by decide +kernel), List.mem_of_getElem? (i := 783) (by decide +kernel), List.mem_of_getElem? (i := 784) (by decide +kernel)⟩
theorem lw_p62 : lw_okq (⟨"CellPacksModel", "reads", "()V"⟩, 26) := ⟨⟨by decide +kernel, by decide +kernel⟩, List.mem_of_getElem? (i := 777) (by decide +kernel), List.mem_of_getElem? (i := 882) (by decide +kernel), List.mem_of_getElem? (i := 883) (by decide +kernel)⟩
theorem lw_p63 : lw_okq (⟨"CellPacksModel", "byteAt", "(I)I"⟩, 26) := ⟨⟨by decide +kernel, by decide +kernel⟩, List.mem_of_getElem? (i := 777) (by decide +kernel), List.mem_of_getElem? (i := 886) (by decide +kernel), List.mem_of_getElem? (i := 887) (by decide +kernel)⟩
def lw_privs_4 : List (MethodName × Nat) := [(⟨"CellPacks$Pack", "leastSumExchanged", "(II)I"⟩, 9), (⟨"CellPacks$Pack", "removeAt", "(I)V"⟩, 9), (⟨"CellPacks$Pack", "runTicks", "(I)I"⟩, 9), (⟨"CellPacks$Pack", "tickLoses", "()Z"⟩, 9), (⟨"CellPacks$Pack", "strongestLoses", "(I)Z"⟩, 9), (⟨"CellPacks$Sheet", "renew", "(II)V"⟩, 3), (⟨"CellPacks$Sheet", "putAt", "(II)I"⟩, 3), (⟨"CellPacks$Sheet", "wholePairs", "(III)I"⟩, 3), (⟨"CellPacks$Sheet", "faultAs", "(I)I"⟩, 3), (⟨"CellPacks", "keptImages", "()I"⟩, 10), (⟨"CellPacks$Pack", "emptyGroups", "()I"⟩, 9), (⟨"CellPacks$Pack", "bledCells", "()I"⟩, 9), (⟨"CellPacks$Pack", "greatestCharge", "()I"⟩, 9), (⟨"CellPacksModel", "firstDraft", "()V"⟩, 26), (⟨"CellPacksModel", "reads", "()V"⟩, 26), (⟨"CellPacksModel", "byteAt", "(I)I"⟩, 26)]
theorem lw_r4 : ∀ q ∈ lw_privs_4, lw_okq q := List.forall_mem_cons.mpr ⟨lw_p48, List.forall_mem_cons.mpr ⟨lw_p49, List.forall_mem_cons.mpr ⟨lw_p50, List.forall_mem_cons.mpr ⟨lw_p51, List.forall_mem_cons.mpr ⟨lw_p52, List.forall_mem_cons.mpr ⟨lw_p53, List.forall_mem_cons.mpr ⟨lw_p54, List.forall_mem_cons.mpr ⟨lw_p55, List.forall_mem_cons.mpr ⟨lw_p56, List.forall_mem_cons.mpr ⟨lw_p57, List.forall_mem_cons.mpr ⟨lw_p58, List.forall_mem_cons.mpr ⟨lw_p59, List.forall_mem_cons.mpr ⟨lw_p60, List.forall_mem_cons.mpr ⟨lw_p61, List.forall_mem_cons.mpr ⟨lw_p62, List.forall_mem_cons.mpr ⟨lw_p63, fun _ h => absurd h List.not_mem_nil⟩⟩⟩⟩⟩⟩⟩⟩⟩⟩⟩⟩⟩⟩⟩⟩
theorem lw_p64 : lw_okq (⟨"CellPacksModel", "requires", "(ZI)V"⟩, 26) := ⟨⟨by decide +kernel, by decide +kernel⟩, List.mem_of_getElem? (i := 777) (by decide +kernel), List.mem_of_getElem? (i := 894) (by decide +kernel), List.mem_of_getElem? (i := 895) (by decide +kernel)⟩
theorem lw_p65 : lw_okq (⟨"CellPacksModel", "readLine", "()V"⟩, 26) := ⟨⟨by decide +kernel, by decide +kernel⟩, List.mem_of_getElem? (i := 777) (by decide +kernel), List.mem_of_getElem? (i := 898) (by decide +kernel), List.mem_of_getElem? (i := 899) (by decide +kernel)⟩
theorem lw_p66 : lw_okq (⟨"CellPacksModel", "lineNow", "()I"⟩, 26) := ⟨⟨by decide +kernel, by decide +kernel⟩, List.mem_of_getElem? (i := 777) (by decide +kernel), List.mem_of_getElem? (i := 902) (by decide +kernel), List.mem_of_getElem? (i := 903) (by decide +kernel)⟩
theorem lw_p67 : lw_okq (⟨"CellPacksModel", "is", "(IIIII)Z"⟩, 26) := ⟨⟨by decide +kernel, by decide +kernel⟩, List.mem_of_getElem? (i := 777) (by decide +kernel), List.mem_of_getElem? (i := 906) (by decide +kernel), List.mem_of_getElem? (i := 907) (by decide +kernel)⟩
theorem lw_p68 : lw_okq (⟨"CellPacksModel", "readCell", "()V"⟩, 26) := ⟨⟨by decide +kernel, by decide +kernel⟩, List.mem_of_getElem? (i := 777) (by decide +kernel), List.mem_of_getElem? (i := 910) (by decide +kernel), List.mem_of_getElem? (i := 911) (by decide +kernel)⟩
theorem lw_p69 : lw_okq (⟨"CellPacksModel", "readNumber", "(II)I"⟩, 26) := ⟨⟨by decide +kernel, by decide +kernel⟩, List.mem_of_getElem? (i := 777) (by decide +kernel), List.mem_of_getElem? (i := 914) (by decide +kernel), List.mem_of_getElem? (i := 915) (by decide +kernel)⟩
theorem lw_p70 : lw_okq (⟨"CellPacksModel", "byTurns", "()V"⟩, 26) := ⟨⟨by decide +kernel, by decide +kernel⟩, List.mem_of_getElem? (i := 777) (by decide +kernel), List.mem_of_getElem? (i := 924) (by decide +kernel), List.mem_of_getElem? (i := 925) (by decide +kernel)⟩
theorem lw_p71 : lw_okq (⟨"CellPacksModel", "findTurns", "()V"⟩, 26) := ⟨⟨by decide +kernel, by decide +kernel⟩, List.mem_of_getElem? (i := 777) (by decide +kernel), List.mem_of_getElem? (i := 928) (by decide +kernel), List.mem_of_getElem? (i := 929) (by decide +kernel)⟩
theorem lw_p72 : lw_okq (⟨"CellPacksModel", "takeFound", "()V"⟩, 26) := ⟨⟨by decide +kernel, by decide +kernel⟩, List.mem_of_getElem? (i := 777) (by decide +kernel), List.mem_of_getElem? (i := 932) (by decide +kernel), List.mem_of_getElem? (i := 933) (by decide +kernel)⟩
theorem lw_p73 : lw_okq (⟨"CellPacksModel", "weakestNow", "()I"⟩, 26) := ⟨⟨by decide +kernel, by decide +kernel⟩, List.mem_of_getElem? (i := 777) (by decide +kernel), List.mem_of_getElem? (i := 944) (by decide +kernel), List.mem_of_getElem? (i := 945) (by decide +kernel)⟩
theorem lw_p74 : lw_okq (⟨"CellPacksModel", "sumNow", "(I)V"⟩, 26) := ⟨⟨by decide +kernel, by decide +kernel⟩, List.mem_of_getElem? (i := 777) (by decide +kernel), List.mem_of_getElem? (i := 948) (by decide +kernel), List.mem_of_getElem? (i := 949) (by decide +kernel)⟩
theorem lw_p75 : lw_okq (⟨"CellPacksModel", "weakest", "()I"⟩, 26) := ⟨⟨by decide +kernel, by decide +kernel⟩, List.mem_of_getElem? (i := 777) (by decide +kernel), List.mem_of_getElem? (i := 952) (by decide +kernel), List.mem_of_getElem? (i := 953) (by decide +kernel)⟩
theorem lw_p76 : lw_okq (⟨"CellPacksModel", "leastNow", "(I)I"⟩, 26) := ⟨⟨by decide +kernel, by decide +kernel⟩, List.mem_of_getElem? (i := 777) (by decide +kernel), List.mem_of_getElem? (i := 956) (by decide +kernel), List.mem_of_getElem? (i := 957) (by decide +kernel)⟩
theorem lw_p77 : lw_okq (⟨"CellPacksModel", "least", "()I"⟩, 26) := ⟨⟨by decide +kernel, by decide +kernel⟩, List.mem_of_getElem? (i := 777) (by decide +kernel), List.mem_of_getElem? (i := 960) (by decide +kernel), List.mem_of_getElem? (i := 961) (by decide +kernel)⟩
theorem lw_p78 : lw_okq (⟨"CellPacksModel", "spreadNow", "()I"⟩, 26) := ⟨⟨by decide +kernel, by decide +kernel⟩, List.mem_of_getElem? (i := 777) (by decide +kernel), List.mem_of_getElem? (i := 964) (by decide +kernel), List.mem_of_getElem? (i := 965) (by decide +kernel)⟩
theorem lw_p79 : lw_okq (⟨"CellPacksModel", "greatest", "()I"⟩, 26) := ⟨⟨by decide +kernel, by decide +kernel⟩, List.mem_of_getElem? (i := 777) (by decide +kernel), List.mem_of_getElem? (i := 968) (by decide +kernel), List.mem_of_getElem? (i := 969) (by decide +kernel)⟩
def lw_privs_5 : List (MethodName × Nat) := [(⟨"CellPacksModel", "requires", "(ZI)V"⟩, 26), (⟨"CellPacksModel", "readLine", "()V"⟩, 26), (⟨"CellPacksModel", "lineNow", "()I"⟩, 26), (⟨"CellPacksModel", "is", "(IIIII)Z"⟩, 26), (⟨"CellPacksModel", "readCell", "()V"⟩, 26), (⟨"CellPacksModel", "readNumber", "(II)I"⟩, 26), (⟨"CellPacksModel", "byTurns", "()V"⟩, 26), (⟨"CellPacksModel", "findTurns", "()V"⟩, 26), (⟨"CellPacksModel", "takeFound", "()V"⟩, 26), (⟨"CellPacksModel", "weakestNow", "()I"⟩, 26), (⟨"CellPacksModel", "sumNow", "(I)V"⟩, 26), (⟨"CellPacksModel", "weakest", "()I"⟩, 26), (⟨"CellPacksModel", "leastNow", "(I)I"⟩, 26), (⟨"CellPacksModel", "least", "()I"⟩, 26), (⟨"CellPacksModel", "spreadNow", "()I"⟩, 26), (⟨"CellPacksModel", "greatest", "()I"⟩, 26)]
theorem lw_r5 : ∀ q ∈ lw_privs_5, lw_okq q := List.forall_mem_cons.mpr ⟨lw_p64, List.forall_mem_cons.mpr ⟨lw_p65, List.forall_mem_cons.mpr ⟨lw_p66, List.forall_mem_cons.mpr ⟨lw_p67, List.forall_mem_cons.mpr ⟨lw_p68, List.forall_mem_cons.mpr ⟨lw_p69, List.forall_mem_cons.mpr ⟨lw_p70, List.forall_mem_cons.mpr ⟨lw_p71, List.forall_mem_cons.mpr ⟨lw_p72, List.forall_mem_cons.mpr ⟨lw_p73, List.forall_mem_cons.mpr ⟨lw_p74, List.forall_mem_cons.mpr ⟨lw_p75, List.forall_mem_cons.mpr ⟨lw_p76, List.forall_mem_cons.mpr ⟨lw_p77, List.forall_mem_cons.mpr ⟨lw_p78, List.forall_mem_cons.mpr ⟨lw_p79, fun _ h => absurd h List.not_mem_nil⟩⟩⟩⟩⟩⟩⟩⟩⟩⟩⟩⟩⟩⟩⟩⟩
theorem lw_p80 : lw_okq (⟨"CellPacksModel", "all", "(I)I"⟩, 26) := ⟨⟨by decide +kernel, by decide +kernel⟩, List.mem_of_getElem? (i := 777) (by decide +kernel), List.mem_of_getElem? (i := 972) (by decide +kernel), List.mem_of_getElem? (i := 973) (by decide +kernel)⟩
theorem lw_p81 : lw_okq (⟨"CellPacksModel", "isCell", "(I)Z"⟩, 26) := ⟨⟨by decide +kernel, by decide +kernel⟩, List.mem_of_getElem? (i := 777) (by decide +kernel), List.mem_of_getElem? (i := 980) (by decide +kernel), List.mem_of_getElem? (i := 981) (by decide +kernel)⟩
theorem lw_p82 : lw_okq (⟨"CellPacksModel", "rankOf", "(I)I"⟩, 26) := ⟨⟨by decide +kernel, by decide +kernel⟩, List.mem_of_getElem? (i := 777) (by decide +kernel), List.mem_of_getElem? (i := 984) (by decide +kernel), List.mem_of_getElem? (i := 985) (by decide +kernel)⟩
theorem lw_p83 : lw_okq (⟨"CellPacksModel", "isGroup", "(I)Z"⟩, 26) := ⟨⟨by decide +kernel, by decide +kernel⟩, List.mem_of_getElem? (i := 777) (by decide +kernel), List.mem_of_getElem? (i := 995) (by decide +kernel), List.mem_of_getElem? (i := 996) (by decide +kernel)⟩
theorem lw_p84 : lw_okq (⟨"CellPacksModel", "sumOf", "(I)I"⟩, 26) := ⟨⟨by decide +kernel, by decide +kernel⟩, List.mem_of_getElem? (i := 777) (by decide +kernel), List.mem_of_getElem? (i := 999) (by decide +kernel), List.mem_of_getElem? (i := 1000) (by decide +kernel)⟩
theorem lw_p85 : lw_okq (⟨"CellPacksModel", "cellsOf", "(IZ)I"⟩, 26) := ⟨⟨by decide +kernel, by decide +kernel⟩, List.mem_of_getElem? (i := 777) (by decide +kernel), List.mem_of_getElem? (i := 1003) (by decide +kernel), List.mem_of_getElem? (i := 1004) (by decide +kernel)⟩
theorem lw_p86 : lw_okq (⟨"CellPacksModel", "strongest", "(I)I"⟩, 26) := ⟨⟨by decide +kernel, by decide +kernel⟩, List.mem_of_getElem? (i := 777) (by decide +kernel), List.mem_of_getElem? (i := 1007) (by decide +kernel), List.mem_of_getElem? (i := 1008) (by decide +kernel)⟩
theorem lw_p87 : lw_okq (⟨"CellPacksModel", "aboveFloor", "(I)I"⟩, 26) := ⟨⟨by decide +kernel, by decide +kernel⟩, List.mem_of_getElem? (i := 777) (by decide +kernel), List.mem_of_getElem? (i := 1011) (by decide +kernel), List.mem_of_getElem? (i := 1012) (by decide +kernel)⟩
theorem lw_p88 : lw_okq (⟨"CellPacksModel", "isWay", "(I)Z"⟩, 26) := ⟨⟨by decide +kernel, by decide +kernel⟩, List.mem_of_getElem? (i := 777) (by decide +kernel), List.mem_of_getElem? (i := 1019) (by decide +kernel), List.mem_of_getElem? (i := 1020) (by decide +kernel)⟩
theorem lw_p89 : lw_okq (⟨"CellPacksModel", "isTooMuch", "(I)Z"⟩, 26) := ⟨⟨by decide +kernel, by decide +kernel⟩, List.mem_of_getElem? (i := 777) (by decide +kernel), List.mem_of_getElem? (i := 1024) (by decide +kernel), List.mem_of_getElem? (i := 1025) (by decide +kernel)⟩
theorem lw_p90 : lw_okq (⟨"CellPacksModel", "find", "(I)V"⟩, 26) := ⟨⟨by decide +kernel, by decide +kernel⟩, List.mem_of_getElem? (i := 777) (by decide +kernel), List.mem_of_getElem? (i := 1028) (by decide +kernel), List.mem_of_getElem? (i := 1029) (by decide +kernel)⟩
theorem lw_p91 : lw_okq (⟨"CellPacksModel", "findWeakest", "()V"⟩, 26) := ⟨⟨by decide +kernel, by decide +kernel⟩, List.mem_of_getElem? (i := 777) (by decide +kernel), List.mem_of_getElem? (i := 1032) (by decide +kernel), List.mem_of_getElem? (i := 1033) (by decide +kernel)⟩
theorem lw_p92 : lw_okq (⟨"CellPacksModel", "findDifferences", "()V"⟩, 26) := ⟨⟨by decide +kernel, by decide +kernel⟩, List.mem_of_getElem? (i := 777) (by decide +kernel), List.mem_of_getElem? (i := 1036) (by decide +kernel), List.mem_of_getElem? (i := 1037) (by decide +kernel)⟩
theorem lw_p93 : lw_okq (⟨"CellPacksModel", "widest", "(I)I"⟩, 26) := ⟨⟨by decide +kernel, by decide +kernel⟩, List.mem_of_getElem? (i := 777) (by decide +kernel), List.mem_of_getElem? (i := 1040) (by decide +kernel), List.mem_of_getElem? (i := 1041) (by decide +kernel)⟩
theorem lw_p94 : lw_okq (⟨"CellPacksModel", "differenceOf", "(I)I"⟩, 26) := ⟨⟨by decide +kernel, by decide +kernel⟩, List.mem_of_getElem? (i := 777) (by decide +kernel), List.mem_of_getElem? (i := 1044) (by decide +kernel), List.mem_of_getElem? (i := 1045) (by decide +kernel)⟩
theorem lw_p95 : lw_okq (⟨"CellPacksModel", "holds", "(I)I"⟩, 26) := ⟨⟨by decide +kernel, by decide +kernel⟩, List.mem_of_getElem? (i := 777) (by decide +kernel), List.mem_of_getElem? (i := 1048) (by decide +kernel), List.mem_of_getElem? (i := 1049) (by decide +kernel)⟩
def lw_privs_6 : List (MethodName × Nat) := [(⟨"CellPacksModel", "all", "(I)I"⟩, 26), (⟨"CellPacksModel", "isCell", "(I)Z"⟩, 26), (⟨"CellPacksModel", "rankOf", "(I)I"⟩, 26), (⟨"CellPacksModel", "isGroup", "(I)Z"⟩, 26), (⟨"CellPacksModel", "sumOf", "(I)I"⟩, 26), (⟨"CellPacksModel", "cellsOf", "(IZ)I"⟩, 26), (⟨"CellPacksModel", "strongest", "(I)I"⟩, 26), (⟨"CellPacksModel", "aboveFloor", "(I)I"⟩, 26), (⟨"CellPacksModel", "isWay", "(I)Z"⟩, 26), (⟨"CellPacksModel", "isTooMuch", "(I)Z"⟩, 26), (⟨"CellPacksModel", "find", "(I)V"⟩, 26), (⟨"CellPacksModel", "findWeakest", "()V"⟩, 26), (⟨"CellPacksModel", "findDifferences", "()V"⟩, 26), (⟨"CellPacksModel", "widest", "(I)I"⟩, 26), (⟨"CellPacksModel", "differenceOf", "(I)I"⟩, 26), (⟨"CellPacksModel", "holds", "(I)I"⟩, 26)]
theorem lw_r6 : ∀ q ∈ lw_privs_6, lw_okq q := List.forall_mem_cons.mpr ⟨lw_p80, List.forall_mem_cons.mpr ⟨lw_p81, List.forall_mem_cons.mpr ⟨lw_p82, List.forall_mem_cons.mpr ⟨lw_p83, List.forall_mem_cons.mpr ⟨lw_p84, List.forall_mem_cons.mpr ⟨lw_p85, List.forall_mem_cons.mpr ⟨lw_p86, List.forall_mem_cons.mpr ⟨lw_p87, List.forall_mem_cons.mpr ⟨lw_p88, List.forall_mem_cons.mpr ⟨lw_p89, List.forall_mem_cons.mpr ⟨lw_p90, List.forall_mem_cons.mpr ⟨lw_p91, List.forall_mem_cons.mpr ⟨lw_p92, List.forall_mem_cons.mpr ⟨lw_p93, List.forall_mem_cons.mpr ⟨lw_p94, List.forall_mem_cons.mpr ⟨lw_p95, fun _ h => absurd h List.not_mem_nil⟩⟩⟩⟩⟩⟩⟩⟩⟩⟩⟩⟩⟩⟩⟩⟩
theorem lw_p96 : lw_okq (⟨"CellPacksModel", "join", "(II)V"⟩, 26) := ⟨⟨by decide +kernel, by decide +kernel⟩, List.mem_of_getElem? (i := 777) (by decide +kernel), List.mem_of_getElem? (i := 1052) (by decide +kernel), List.mem_of_getElem? (i := 1053) (by decide +kernel)⟩
theorem lw_p97 : lw_okq (⟨"CellPacksModel", "order", "(I)V"⟩, 26) := ⟨⟨by decide +kernel, by decide +kernel⟩, List.mem_of_getElem? (i := 777) (by decide +kernel), List.mem_of_getElem? (i := 1056) (by decide +kernel), List.mem_of_getElem? (i := 1057) (by decide +kernel)⟩
theorem lw_p98 : lw_okq (⟨"CellPacksModel", "isAhead", "(II)Z"⟩, 26) := ⟨⟨by decide +kernel, by decide +kernel⟩, List.mem_of_getElem? (i := 777) (by decide +kernel), List.mem_of_getElem? (i := 1060) (by decide +kernel), List.mem_of_getElem? (i := 1061) (by decide +kernel)⟩
theorem lw_p99 : lw_okq (⟨"CellPacksModel", "findBest", "()V"⟩, 26) := ⟨⟨by decide +kernel, by decide +kernel⟩, List.mem_of_getElem? (i := 777) (by decide +kernel), List.mem_of_getElem? (i := 1064) (by decide +kernel), List.mem_of_getElem? (i := 1065) (by decide +kernel)⟩
theorem lw_p100 : lw_okq (⟨"CellPacksModel", "sumFound", "()V"⟩, 26) := ⟨⟨by decide +kernel, by decide +kernel⟩, List.mem_of_getElem? (i := 777) (by decide +kernel), List.mem_of_getElem? (i := 1068) (by decide +kernel), List.mem_of_getElem? (i := 1069) (by decide +kernel)⟩
theorem lw_p101 : lw_okq (⟨"CellPacksModel", "steps", "()Z"⟩, 26) := ⟨⟨by decide +kernel, by decide +kernel⟩, List.mem_of_getElem? (i := 777) (by decide +kernel), List.mem_of_getElem? (i := 1072) (by decide +kernel), List.mem_of_getElem? (i := 1073) (by decide +kernel)⟩
theorem lw_p102 : lw_okq (⟨"CellPacksModel", "moved", "()I"⟩, 26) := ⟨⟨by decide +kernel, by decide +kernel⟩, List.mem_of_getElem? (i := 777) (by decide +kernel), List.mem_of_getElem? (i := 1081) (by decide +kernel), List.mem_of_getElem? (i := 1082) (by decide +kernel)⟩
theorem lw_p103 : lw_okq (⟨"CellPacksModel", "boundNow", "()I"⟩, 26) := ⟨⟨by decide +kernel, by decide +kernel⟩, List.mem_of_getElem? (i := 777) (by decide +kernel), List.mem_of_getElem? (i := 1093) (by decide +kernel), List.mem_of_getElem? (i := 1094) (by decide +kernel)⟩
theorem lw_p104 : lw_okq (⟨"CellPacksModel", "reaching", "()I"⟩, 26) := ⟨⟨by decide +kernel, by decide +kernel⟩, List.mem_of_getElem? (i := 777) (by decide +kernel), List.mem_of_getElem? (i := 1097) (by decide +kernel), List.mem_of_getElem? (i := 1098) (by decide +kernel)⟩
theorem lw_p105 : lw_okq (⟨"CellPacksModel", "exchange", "(II)V"⟩, 26) := ⟨⟨by decide +kernel, by decide +kernel⟩, List.mem_of_getElem? (i := 777) (by decide +kernel), List.mem_of_getElem? (i := 1113) (by decide +kernel), List.mem_of_getElem? (i := 1114) (by decide +kernel)⟩
theorem lw_p106 : lw_okq (⟨"CellPacksModel", "comes", "(I)V"⟩, 26) := ⟨⟨by decide +kernel, by decide +kernel⟩, List.mem_of_getElem? (i := 777) (by decide +kernel), List.mem_of_getElem? (i := 1126) (by decide +kernel), List.mem_of_getElem? (i := 1127) (by decide +kernel)⟩
theorem lw_p107 : lw_okq (⟨"CellPacksModel", "ticksOn", "(I)I"⟩, 26) := ⟨⟨by decide +kernel, by decide +kernel⟩, List.mem_of_getElem? (i := 777) (by decide +kernel), List.mem_of_getElem? (i := 1152) (by decide +kernel), List.mem_of_getElem? (i := 1153) (by decide +kernel)⟩
theorem lw_p108 : lw_okq (⟨"CellPacksModel", "ticks", "()Z"⟩, 26) := ⟨⟨by decide +kernel, by decide +kernel⟩, List.mem_of_getElem? (i := 777) (by decide +kernel), List.mem_of_getElem? (i := 1156) (by decide +kernel), List.mem_of_getElem? (i := 1157) (by decide +kernel)⟩
theorem lw_p109 : lw_okq (⟨"CellPacksModel", "keepBefore", "()V"⟩, 26) := ⟨⟨by decide +kernel, by decide +kernel⟩, List.mem_of_getElem? (i := 777) (by decide +kernel), List.mem_of_getElem? (i := 1164) (by decide +kernel), List.mem_of_getElem? (i := 1165) (by decide +kernel)⟩
theorem lw_p110 : lw_okq (⟨"CellPacksModel", "backBefore", "()V"⟩, 26) := ⟨⟨by decide +kernel, by decide +kernel⟩, List.mem_of_getElem? (i := 777) (by decide +kernel), List.mem_of_getElem? (i := 1168) (by decide +kernel), List.mem_of_getElem? (i := 1169) (by decide +kernel)⟩
theorem lw_p111 : lw_okq (⟨"CellPacksModel", "emptyGroups", "()I"⟩, 26) := ⟨⟨by decide +kernel, by decide +kernel⟩, List.mem_of_getElem? (i := 777) (by decide +kernel), List.mem_of_getElem? (i := 1215) (by decide +kernel), List.mem_of_getElem? (i := 1216) (by decide +kernel)⟩
def lw_privs_7 : List (MethodName × Nat) := [(⟨"CellPacksModel", "join", "(II)V"⟩, 26), (⟨"CellPacksModel", "order", "(I)V"⟩, 26), (⟨"CellPacksModel", "isAhead", "(II)Z"⟩, 26), (⟨"CellPacksModel", "findBest", "()V"⟩, 26), (⟨"CellPacksModel", "sumFound", "()V"⟩, 26), (⟨"CellPacksModel", "steps", "()Z"⟩, 26), (⟨"CellPacksModel", "moved", "()I"⟩, 26), (⟨"CellPacksModel", "boundNow", "()I"⟩, 26), (⟨"CellPacksModel", "reaching", "()I"⟩, 26), (⟨"CellPacksModel", "exchange", "(II)V"⟩, 26), (⟨"CellPacksModel", "comes", "(I)V"⟩, 26), (⟨"CellPacksModel", "ticksOn", "(I)I"⟩, 26), (⟨"CellPacksModel", "ticks", "()Z"⟩, 26), (⟨"CellPacksModel", "keepBefore", "()V"⟩, 26), (⟨"CellPacksModel", "backBefore", "()V"⟩, 26), (⟨"CellPacksModel", "emptyGroups", "()I"⟩, 26)]
theorem lw_r7 : ∀ q ∈ lw_privs_7, lw_okq q := List.forall_mem_cons.mpr ⟨lw_p96, List.forall_mem_cons.mpr ⟨lw_p97, List.forall_mem_cons.mpr ⟨lw_p98, List.forall_mem_cons.mpr ⟨lw_p99, List.forall_mem_cons.mpr ⟨lw_p100, List.forall_mem_cons.mpr ⟨lw_p101, List.forall_mem_cons.mpr ⟨lw_p102, List.forall_mem_cons.mpr ⟨lw_p103, List.forall_mem_cons.mpr ⟨lw_p104, List.forall_mem_cons.mpr ⟨lw_p105, List.forall_mem_cons.mpr ⟨lw_p106, List.forall_mem_cons.mpr ⟨lw_p107, List.forall_mem_cons.mpr ⟨lw_p108, List.forall_mem_cons.mpr ⟨lw_p109, List.forall_mem_cons.mpr ⟨lw_p110, List.forall_mem_cons.mpr ⟨lw_p111, fun _ h => absurd h List.not_mem_nil⟩⟩⟩⟩⟩⟩⟩⟩⟩⟩⟩⟩⟩⟩⟩⟩
theorem lw_p112 : lw_okq (⟨"CellPacksModel", "bledCells", "()I"⟩, 26) := ⟨⟨by decide +kernel, by decide +kernel⟩, List.mem_of_getElem? (i := 777) (by decide +kernel), List.mem_of_getElem? (i := 1219) (by decide +kernel), List.mem_of_getElem? (i := 1220) (by decide +kernel)⟩
theorem lw_p113 : lw_okq (⟨"CellPacksModel", "greatestCharge", "()I"⟩, 26) := ⟨⟨by decide +kernel, by decide +kernel⟩, List.mem_of_getElem? (i := 777) (by decide +kernel), List.mem_of_getElem? (i := 1223) (by decide +kernel), List.mem_of_getElem? (i := 1224) (by decide +kernel)⟩
def lw_privs_8 : List (MethodName × Nat) := [(⟨"CellPacksModel", "bledCells", "()I"⟩, 26), (⟨"CellPacksModel", "greatestCharge", "()I"⟩, 26)]
theorem lw_r8 : ∀ q ∈ lw_privs_8, lw_okq q := List.forall_mem_cons.mpr ⟨lw_p112, List.forall_mem_cons.mpr ⟨lw_p113, fun _ h => absurd h List.not_mem_nil⟩⟩
def lw_privs : List (MethodName × Nat) := lw_privs_1 ++ (lw_privs_2 ++ (lw_privs_3 ++ (lw_privs_4 ++ (lw_privs_5 ++ (lw_privs_6 ++ (lw_privs_7 ++ (lw_privs_8)))))))
def lw_tbl : List Cond := k2_sels lw_privs ++ tables_1
theorem lw_privs_ok : ∀ q ∈ lw_privs, lw_okq q := by
  show ∀ q ∈ lw_privs_1 ++ (lw_privs_2 ++ (lw_privs_3 ++ (lw_privs_4 ++ (lw_privs_5 ++ (lw_privs_6 ++ (lw_privs_7 ++ (lw_privs_8))))))), lw_okq q
  exact List.forall_mem_append.mpr ⟨lw_r1, List.forall_mem_append.mpr ⟨lw_r2, List.forall_mem_append.mpr ⟨lw_r3, List.forall_mem_append.mpr ⟨lw_r4, List.forall_mem_append.mpr ⟨lw_r5, List.forall_mem_append.mpr ⟨lw_r6, List.forall_mem_append.mpr ⟨lw_r7, lw_r8⟩⟩⟩⟩⟩⟩⟩
def va_AOA (ty : FieldType) (U : State) : Prop := (Cond.arrayOver (.array ty)).before #[] U = true
theorem va_AOA.use {ty : FieldType} {A : Array Value} {U : State} (h : va_AOA ty U) : (Cond.arrayOver (.array ty)).before A U = true := h
/-! ===== BEGIN words of one list among another's, by their places ===== -/
theorem goodIn_r {big : List Cond} (ws : List Cond) (ps : List Nat) (hp : ws = ps.filterMap (fun i => big[i]?)) (h : ws.all goodWord = true) : GoodIn big ws := by
  intro w hw
  have h1 := List.all_eq_true.mp h w hw
  rw [hp] at hw
  obtain ⟨i, -, hi⟩ := List.mem_filterMap.mp hw
  have hm : w ∈ big := by first | exact List.mem_of_getElem? hi | exact List.getElem?_mem hi
  exact ⟨hm, good_of_word h1⟩
theorem goodIn_app {big a b : List Cond} (ha : GoodIn big a) (hb : GoodIn big b) : GoodIn big (a ++ b) := fun w h => (List.mem_append.mp h).elim (ha w) (hb w)
theorem goodIn_ca {big a b : List Cond} {c : Cond} (ha : GoodIn big (c :: a)) (hb : GoodIn big b) : GoodIn big (c :: (a ++ b)) := fun w h => (List.mem_cons.mp h).elim (fun e => ha w (List.mem_cons.mpr (Or.inl e))) (fun h => (List.mem_append.mp h).elim (fun h => ha w (List.mem_cons.mpr (Or.inr h))) (hb w))
theorem goodIn_sub {big ws : List Cond} (hm : ∀ w ∈ ws, w ∈ big) (h : ws.all goodWord = true) : GoodIn big ws := fun w hw => ⟨hm w hw, good_of_word (List.all_eq_true.mp h w hw)⟩
/-! ===== END ===== -/

/-! ===== BEGIN new T[n][m]: the outer array a place, the inner ones among the pooled ===== -/
/-- f, but v at every address of l -/
def vr_up {α : Type} (f : Nat → α) (l : List Nat) (v : α) : Nat → α := fun a => if a ∈ l then v else f a
theorem vr_up_in {α : Type} {f : Nat → α} {l : List Nat} {v : α} {a : Nat} (h : a ∈ l) : vr_up f l v a = v := if_pos h
theorem vr_up_ne {α : Type} {f : Nat → α} {l : List Nat} {v : α} {a : Nat} (h : a ∉ l) : vr_up f l v a = f a := if_neg h
theorem vr_rows {L l : List Nat} {f : Nat → va_E} {e : va_E} (h : ∀ a, a ∈ l → a ∉ L) : va_pl L f ++ l.map (fun a => (a, e)) = va_pl (L ++ l) (vr_up f l e) := by
  unfold va_pl
  rw [List.map_append]
  congr 1
  · apply List.map_congr_left
    intro a ha
    rw [vr_up_ne (fun q => h a q ha)]
  · apply List.map_congr_left
    intro a ha
    rw [vr_up_in ha]
theorem vr_lay {X rows : va_W} {x : Nat × va_E} {pl : va_W} {D : va_G} {cl : List vw_C} {H : Heap} (hP : va_P D cl (((X ++ pl) ++ [x]) ++ rows) H) : va_P D cl ((X ++ [x]) ++ (pl ++ rows)) H := by
  rw [List.append_assoc (X ++ pl)] at hP
  have h := va_P.swap hP
  rw [← List.append_assoc X] at h
  have h2 := va_P.swap h
  rw [List.append_assoc (X ++ [x])] at h2
  exact h2
theorem vr_layD {X rows : va_W} {x : Nat × va_E} {pl : va_W} {A : Nat → Prop} (hD : va_D A (((X ++ pl) ++ [x]) ++ rows)) : va_D A ((X ++ [x]) ++ (pl ++ rows)) := by
  rw [List.append_assoc (X ++ pl)] at hD
  have h := va_D.swap hD
  rw [← List.append_assoc X] at h
  have h2 := va_D.swap h
  rw [List.append_assoc (X ++ [x])] at h2
  exact h2
theorem vr_outer (c : ClassId) (N h0 : Nat) : ∀ i : Nat, Jvm.Free.Multi.outerC c N h0 i = arrV c N (fun j => va_rf (if j < i then some (h0 + 1 + j) else none))
  | 0 => by
    show ({ cls := c, slots := Array.replicate N .null, vm := .none } : Cell) = _
    rw [arrV_new]
    refine congrArg (arrV c N) (funext fun j => ?_)
    simp [va_rf]
  | i + 1 => by
    show (Jvm.Free.Multi.outerC c N h0 i).setSlot i (.ref (h0 + 1 + i)) = _
    rw [vr_outer c N h0 i, arrV_store]
    refine congrArg (arrV c N) (funext fun j => ?_)
    by_cases e : j = i
    · subst e
      simp [updV, va_rf]
    · by_cases h : j < i
      · simp [updV, e, h, Nat.lt_succ_of_lt h]
      · simp [updV, e, h, show ¬ j < i + 1 by omega]
section VGM
variable {p : Program} {l : Launch} {e : Env} {R : Room} {s : State} {m : MethodId} {args : Array Value} {below : List Frame} {meth : Method} {c : Code} {H : Heap} {locs : List Loc} {cells slots : Nat} {Q : State → Prop}
variable {cc : ByteArray} {pc : Nat} {ls : Array Slot} {rest : List Value} {D : va_G} {cl : List vw_C} {A : Nat → Prop} {a : Nat} {tys : List (ClassId × FieldType)} {ws : va_W} {H0 : Heap}
theorem va_mna {X : va_W} {L : List Nat} {f : Nat → va_E} {cc : ByteArray} (hexec : p.tables.exec = Jvm.exec) (hb : c.code = cc) {own : String} {index : Nat} {ty : FieldType} {cy : ClassId} (hown : s.vm.findClass own = some m.cls) (hclink : (Cond.classLink own index ("[" ++ (FieldType.array ty).toString)).before args s = true) (hover : va_AOA ty s) (harr : (Cond.arrayClass ty).before args s = true) (hcy : s.vm.findClass (FieldType.array ty).toString = some cy)
    (hK : va_K D cl tys s) (hP : va_P D cl (X ++ va_pl L f) H) (hD : va_D A (X ++ va_pl L f)) (hS : va_S A H0 H locs) (hA : ∀ q, H0.size ≤ q → A q) {n k : Int32} {N' K' : Nat} {z : vp_A} (hn : ¬ n < 0) (hk : ¬ k < 0) (hN : n.toNatClampNeg = N') (hM : k.toNatClampNeg = K')
    (hb1 : N' * 4 ≤ 536870912) (hb2 : K' * componentBytes ty ≤ 536870912) (hb3 : K' ≤ 536870912) (hdf : fits ty (defaultValue ty) = true) (hdd : (defaultValue ty).isDefault = true) (hcells : cells + (1 + N') ≤ R.cells) (hslots : slots + (N' + N' * K') ≤ R.slots) (hz : ∀ c : ClassId, Jvm.Free.Multi.innerC c K' (defaultValue ty) = vp_cell c z) (hdg : decode cc pc = .ok (.multianewarray index 2, 4))
    (kk : ∀ (q : Nat) (r : Nat → Nat) (cA : ClassId) (H1 : Heap), (∀ i j : Nat, i < N' → j < N' → r i = r j → i = j) → (∀ i : Nat, i < N' → r i ∉ L) → va_K D cl (tys ++ [(cA, .array ty)]) s →
      va_P D cl ((X ++ [(q, .inl (cA, N', .inr (.inr (.inr (.inr (fun i => if i < N' then some (r i) else none))))))]) ++ va_pl (L ++ (List.range N').map r) (vr_up f ((List.range N').map r) (.inl (cy, z)))) H1 → va_D A ((X ++ [(q, .inl (cA, N', .inr (.inr (.inr (.inr (fun i => if i < N' then some (r i) else none))))))]) ++ va_pl (L ++ (List.range N').map r) (vr_up f ((List.range N').map r) (.inl (cy, z)))) → va_S A H0 H1 locs →
      W p l e R s m args below meth c H1 locs (cells + 1 + N') (slots + N' + N' * K') Q (F0 m (pc + 4) ls (.ref q :: rest))) : W p l e R s m args below meth c H locs cells slots Q (F0 m pc ls (.int k :: .int n :: rest)) := by
  subst hN
  subst hM
  intro T hT Xs
  obtain ⟨vm₁, cA, comp, -, fA, fC, hO, -, X', step⟩ := Xs.multianewarray2F hexec hown hclink (va_AOA.use hover) harr (g := F0 m pc ls (.int k :: .int n :: rest)) rfl (by rw [hb]; exact hdg) rfl hn hk hb1 hb2 hb3 hdf hdd hcells hslots
  have ec : some cy = some comp := hcy.symm.trans fC
  cases ec
  generalize hF : Jvm.Free.Multi.fill (T.setVm vm₁) cA cy n.toNatClampNeg k.toNatClampNeg (defaultValue ty) n.toNatClampNeg = F at X' step
  have hTh : (T.setVm vm₁).heap = H := hT
  obtain ⟨f1, f2, -, -⟩ := Jvm.Free.Multi.fill_facts (T.setVm vm₁) cA cy n.toNatClampNeg k.toNatClampNeg (defaultValue ty) n.toNatClampNeg
  rw [hF, hTh] at f1 f2
  have hold : ∀ x : Nat, x < H.size → F.heap[x]? = H[x]? := fun x hx => by
    have := Jvm.Free.Multi.fill_old (T.setVm vm₁) cA cy n.toNatClampNeg k.toNatClampNeg (defaultValue ty) (a := x) (by rw [hTh]; exact hx) n.toNatClampNeg
    rw [hF, hTh] at this
    exact this
  have hrow : ∀ j : Nat, j < n.toNatClampNeg → F.heap[H.size + 1 + j]? = some (vp_cell cy z) := fun j hj => by
    have := Jvm.Free.Multi.fill_inner (T.setVm vm₁) cA cy n.toNatClampNeg k.toNatClampNeg (defaultValue ty) n.toNatClampNeg j hj
    rw [hF, hTh, hz] at this
    exact this
  have hout : Jvm.Free.Multi.outerC cA n.toNatClampNeg H.size n.toNatClampNeg = vp_cell cA (n.toNatClampNeg, .inr (.inr (.inr (.inr (fun i => if i < n.toNatClampNeg then some (H.size + 1 + i) else none))))) := by
    rw [vp_cell_q]
    exact vr_outer cA n.toNatClampNeg H.size n.toNatClampNeg
  rw [hout] at f2
  have hlt : ∀ a, a ∈ L → a < H.size := fun a ha => by
    obtain ⟨k9, hk9⟩ := va_pl_get (X := X) (f := f) ha
    exact (hP k9 _ hk9).lt
  have hnl : ∀ i : Nat, i < n.toNatClampNeg → H.size + 1 + i ∉ L := fun i _ h => by
    have := hlt _ h
    omega
  have hnm : ∀ a, a ∈ (List.range n.toNatClampNeg).map (fun i => H.size + 1 + i) → a ∉ L := fun a ha h => by
    obtain ⟨i, -, rfl⟩ := List.mem_map.mp ha
    have := hlt _ h
    omega
  have hP0 : va_P D cl (X ++ va_pl L f) F.heap := hP.kept (fun k9 x hx => hold x.1 ((hP k9 x hx).lt))
  have hP1 : va_P D cl ((X ++ va_pl L f) ++ [(H.size, .inl (cA, n.toNatClampNeg, .inr (.inr (.inr (.inr (fun i => if i < n.toNatClampNeg then some (H.size + 1 + i) else none))))))]) F.heap := hP0.app (fun k9 x hx => by
    have h0 : k9 < 1 := (List.getElem?_eq_some_iff.mp hx).1
    rw [show k9 = 0 by omega] at hx
    cases hx
    exact f2)
  have hP2 : va_P D cl (((X ++ va_pl L f) ++ [(H.size, .inl (cA, n.toNatClampNeg, .inr (.inr (.inr (.inr (fun i => if i < n.toNatClampNeg then some (H.size + 1 + i) else none))))))]) ++ ((List.range n.toNatClampNeg).map (fun i => H.size + 1 + i)).map (fun a => (a, .inl (cy, z)))) F.heap := hP1.app (fun k9 x hx => by
    obtain ⟨a, ha, rfl⟩ := List.mem_map.mp (List.mem_of_getElem? hx)
    obtain ⟨i, hi, rfl⟩ := List.mem_map.mp ha
    exact hrow i (List.mem_range.mp hi))
  have hD2 : va_D A (((X ++ va_pl L f) ++ [(H.size, .inl (cA, n.toNatClampNeg, .inr (.inr (.inr (.inr (fun i => if i < n.toNatClampNeg then some (H.size + 1 + i) else none))))))]) ++ ((List.range n.toNatClampNeg).map (fun i => H.size + 1 + i)).map (fun a => (a, .inl (cy, z)))) := by
    have hD1 := hD.push (e := .inl (cA, n.toNatClampNeg, .inr (.inr (.inr (.inr (fun i => if i < n.toNatClampNeg then some (H.size + 1 + i) else none)))))) hP rfl (hA _ hS.1)
    generalize hW1 : (X ++ va_pl L f) ++ [(H.size, .inl (cA, n.toNatClampNeg, .inr (.inr (.inr (.inr (fun i => if i < n.toNatClampNeg then some (H.size + 1 + i) else none))))))] = W1 at hD1 hP1 ⊢
    have hle : ∀ (k9 : Nat) (x : Nat × va_E), W1[k9]? = some x → x.1 ≤ H.size := fun k9 x hx => by
      rw [← hW1] at hx
      by_cases hl : k9 < (X ++ va_pl L f).length
      · rw [List.getElem?_append_left hl] at hx
        exact Nat.le_of_lt ((hP k9 x hx).lt)
      · rw [List.getElem?_append_right (by omega)] at hx
        have h0 : k9 - (X ++ va_pl L f).length < 1 := (List.getElem?_eq_some_iff.mp hx).1
        rw [show k9 - (X ++ va_pl L f).length = 0 by omega] at hx
        cases hx
        exact Nat.le_refl _
    have hr : ∀ (k9 : Nat) (x : Nat × va_E), (((List.range n.toNatClampNeg).map (fun i => H.size + 1 + i)).map (fun a => ((a, .inl (cy, z)) : Nat × va_E)))[k9]? = some x → x.1 = H.size + 1 + k9 := fun k9 x hx => by
      rw [List.getElem?_map, List.getElem?_map] at hx
      by_cases h9 : k9 < n.toNatClampNeg
      · rw [List.getElem?_range h9] at hx
        cases hx
        rfl
      · have hn0 : (List.range n.toNatClampNeg)[k9]? = none := List.getElem?_eq_none (by rw [List.length_range]; omega)
        rw [hn0] at hx
        cases hx
    refine ⟨fun i j x y hi hj hxy => ?_, fun k9 x hx => ?_⟩
    · by_cases h1 : i < W1.length <;> by_cases h2 : j < W1.length
      · rw [List.getElem?_append_left h1] at hi
        rw [List.getElem?_append_left h2] at hj
        exact hD1.1 i j x y hi hj hxy
      · rw [List.getElem?_append_left h1] at hi
        rw [List.getElem?_append_right (by omega)] at hj
        have := hle _ _ hi
        have := hr _ _ hj
        omega
      · rw [List.getElem?_append_right (by omega)] at hi
        rw [List.getElem?_append_left h2] at hj
        have := hle _ _ hj
        have := hr _ _ hi
        omega
      · rw [List.getElem?_append_right (by omega)] at hi hj
        have := hr _ _ hi
        have := hr _ _ hj
        omega
    · by_cases h1 : k9 < W1.length
      · rw [List.getElem?_append_left h1] at hx
        exact hD1.2 k9 x hx
      · rw [List.getElem?_append_right (by omega)] at hx
        have := hr _ _ hx
        exact hA _ (by have := hS.1; omega)
  have hAr : ArrOfT s cA (.array ty) := fun N9 z9 => by
    obtain ⟨-, k9, hk9, cm9, hkk9⟩ := (hO 0 0 0).1
    exact ⟨(fun q hq => by cases hq), k9, hk9, cm9, hkk9⟩
  have hK2 : va_K D cl (tys ++ [(cA, .array ty)]) s := ⟨hK.1, fun k9 x hx => by
    by_cases hl : k9 < tys.length
    · rw [List.getElem?_append_left hl] at hx
      exact hK.2 k9 x hx
    · rw [List.getElem?_append_right (by omega)] at hx
      have h0 : k9 - tys.length < 1 := (List.getElem?_eq_some_iff.mp hx).1
      rw [show k9 - tys.length = 0 by omega] at hx
      cases hx
      exact ⟨hAr, fA⟩⟩
  obtain ⟨t, a1, b1⟩ := kk H.size (fun i => H.size + 1 + i) cA F.heap (fun i j _ _ h => by have h9 : H.size + 1 + i = H.size + 1 + j := h; omega) hnl hK2 (by rw [← vr_rows hnm]; exact vr_lay hP2) (by rw [← vr_rows hnm]; exact vr_layD hD2) ⟨by rw [f1]; have := hS.1; omega, fun x h1 h2 => (hold x (Nat.lt_of_lt_of_le h1 hS.1)).trans (hS.2.1 x h1 h2), hS.2.2⟩ F rfl X'
  refine ⟨t, step t ?_, b1⟩
  have e : T.heap.size = H.size := by rw [hT]
  rw [e]
  exact a1
end VGM
/-! ===== END ===== -/

/-! ===== BEGIN printed: names, fields, word lists, decode rows ===== -/
def RX0 : String := "CellPacks$BestSearch"
def TX0 : u_T := fun k => match k with
  | 0 => ("CellPacks$BestSearch", "trial", "[I", true)
  | 1 => ("CellPacks$BestSearch", "found", "[I", true)
  | 2 => ("CellPacks$BestSearch", "sums", "[I", true)
  | 3 => ("CellPacks$BestSearch", "leastFound", "I", false)
  | _ => ("CellPacks$BestSearch", "greatestFound", "I", false)
def tyX0 : Nat → FieldType := fun k => match k with
  | 0 => .array .int
  | 1 => .array .int
  | 2 => .array .int
  | 3 => .int
  | _ => .int
abbrev wsX00 : List Cond := u_ws RX0 TX0 5
theorem nmX0 : ∀ a, a < 5 → ∀ b, b < 5 → a ≠ b → (TX0 a).2.1 ≠ (TX0 b).2.1 := by decide +kernel
theorem tyX0_ok : ∀ k, k < 5 → parseFieldDescriptor (TX0 k).2.2.1 = some (tyX0 k) := by decide +kernel
abbrev cX0_init : ByteArray := prog_2_method_1_code
def yX0_init : MethodName := ⟨RX0, "<init>", "()V"⟩
abbrev cX0_chooseHomes : ByteArray := prog_2_method_2_code
def yX0_chooseHomes : MethodName := ⟨RX0, "chooseHomes", "(LCellPacks$Pack;[I)V"⟩
abbrev cX0_tryCell : ByteArray := prog_2_method_3_code
def yX0_tryCell : MethodName := ⟨RX0, "tryCell", "(LCellPacks$Pack;III)V"⟩
abbrev cX0_lacking : ByteArray := prog_2_method_4_code
def yX0_lacking : MethodName := ⟨RX0, "lacking", "(I)I"⟩
abbrev cX0_judge : ByteArray := prog_2_method_5_code
def yX0_judge : MethodName := ⟨RX0, "judge", "(LCellPacks$Pack;)V"⟩
def RX1 : String := "CellPacks$Differences"
def TX1 : u_T := fun k => match k with
  | 0 => ("CellPacks$Differences", "held", "[[I", true)
  | 1 => ("CellPacks$Differences", "cells", "[[I", true)
  | 2 => ("CellPacks$Differences", "gone", "[Z", true)
  | 3 => ("CellPacks$Differences", "log", "[I", true)
  | 4 => ("CellPacks$Differences", "joins", "I", false)
  | 5 => ("CellPacks$Differences", "size", "I", false)
  | _ => ("CellPacks$Differences", "k", "I", false)
def tyX1 : Nat → FieldType := fun k => match k with
  | 0 => .array (.array .int)
  | 1 => .array (.array .int)
  | 2 => .array .boolean
  | 3 => .array .int
  | 4 => .int
  | 5 => .int
  | _ => .int
abbrev wsX10 : List Cond := u_ws RX1 TX1 7
theorem nmX1 : ∀ a, a < 7 → ∀ b, b < 7 → a ≠ b → (TX1 a).2.1 ≠ (TX1 b).2.1 := by decide +kernel
theorem tyX1_ok : ∀ k, k < 7 → parseFieldDescriptor (TX1 k).2.2.1 = some (tyX1 k) := by decide +kernel
abbrev cX1_init : ByteArray := prog_3_method_1_code
def yX1_init : MethodName := ⟨RX1, "<init>", "()V"⟩
abbrev cX1_chooseHomes : ByteArray := prog_3_method_2_code
def yX1_chooseHomes : MethodName := ⟨RX1, "chooseHomes", "(LCellPacks$Pack;[I)V"⟩
abbrev cX1_begin : ByteArray := prog_3_method_3_code
def yX1_begin : MethodName := ⟨RX1, "begin", "(LCellPacks$Pack;)V"⟩
abbrev cX1_joinTwo : ByteArray := prog_3_method_4_code
def yX1_joinTwo : MethodName := ⟨RX1, "joinTwo", "()V"⟩
abbrev cX1_widestBut : ByteArray := prog_3_method_5_code
def yX1_widestBut : MethodName := ⟨RX1, "widestBut", "(I)I"⟩
abbrev cX1_width : ByteArray := prog_3_method_6_code
def yX1_width : MethodName := ⟨RX1, "width", "(I)I"⟩
abbrev cX1_merge : ByteArray := prog_3_method_7_code
def yX1_merge : MethodName := ⟨RX1, "merge", "(II)V"⟩
abbrev cX1_isAhead : ByteArray := prog_3_method_8_code
def yX1_isAhead : MethodName := ⟨RX1, "isAhead", "(III)Z"⟩
abbrev cX1_exchange : ByteArray := prog_3_method_9_code
def yX1_exchange : MethodName := ⟨RX1, "exchange", "([II)V"⟩
abbrev cX1_bundleOf : ByteArray := prog_3_method_10_code
def yX1_bundleOf : MethodName := ⟨RX1, "bundleOf", "(I)I"⟩
def RX2 : String := "CellPacks$Pack"
def TX2 : u_T := fun k => match k with
  | 0 => ("CellPacks$Pack", "charge", "[I", true)
  | 1 => ("CellPacks$Pack", "has", "[I", true)
  | 2 => ("CellPacks$Pack", "home", "[I", true)
  | 3 => ("CellPacks$Pack", "sums", "[I", true)
  | 4 => ("CellPacks$Pack", "size", "I", false)
  | 5 => ("CellPacks$Pack", "k", "I", false)
  | 6 => ("CellPacks$Pack", "floor", "I", false)
  | 7 => ("CellPacks$Pack", "rate", "I", false)
  | _ => ("CellPacks$Pack", "slack", "I", false)
def tyX2 : Nat → FieldType := fun k => match k with
  | 0 => .array .int
  | 1 => .array .int
  | 2 => .array .int
  | 3 => .array .int
  | 4 => .int
  | 5 => .int
  | 6 => .int
  | 7 => .int
  | _ => .int
abbrev wsX20 : List Cond := u_ws RX2 TX2 9
theorem nmX2 : ∀ a, a < 9 → ∀ b, b < 9 → a ≠ b → (TX2 a).2.1 ≠ (TX2 b).2.1 := by decide +kernel
theorem tyX2_ok : ∀ k, k < 9 → parseFieldDescriptor (TX2 k).2.2.1 = some (tyX2 k) := by decide +kernel
abbrev cX2_init : ByteArray := prog_4_method_1_code
def yX2_init : MethodName := ⟨RX2, "<init>", "()V"⟩
abbrev cX2_reset : ByteArray := prog_4_method_2_code
def yX2_reset : MethodName := ⟨RX2, "reset", "()V"⟩
abbrev cX2_copyFrom : ByteArray := prog_4_method_3_code
def yX2_copyFrom : MethodName := ⟨RX2, "copyFrom", "(LCellPacks$Pack;)V"⟩
abbrev cX2_append : ByteArray := prog_4_method_4_code
def yX2_append : MethodName := ⟨RX2, "append", "(II)V"⟩
abbrev cX2_removeAt : ByteArray := prog_4_method_5_code
def yX2_removeAt : MethodName := ⟨RX2, "removeAt", "(I)V"⟩
abbrev cX2_sumOf : ByteArray := prog_4_method_6_code
def yX2_sumOf : MethodName := ⟨RX2, "sumOf", "(I)I"⟩
abbrev cX2_weakest : ByteArray := prog_4_method_7_code
def yX2_weakest : MethodName := ⟨RX2, "weakest", "()I"⟩
abbrev cX2_leastSum : ByteArray := prog_4_method_8_code
def yX2_leastSum : MethodName := ⟨RX2, "leastSum", "()I"⟩
abbrev cX2_leastSumOfCharges : ByteArray := prog_4_method_9_code
def yX2_leastSumOfCharges : MethodName := ⟨RX2, "leastSumOfCharges", "()I"⟩
abbrev cX2_spread : ByteArray := prog_4_method_10_code
def yX2_spread : MethodName := ⟨RX2, "spread", "()I"⟩
abbrev cX2_leastSumExchanged : ByteArray := prog_4_method_11_code
def yX2_leastSumExchanged : MethodName := ⟨RX2, "leastSumExchanged", "(II)I"⟩
abbrev cX2_rankByCharge : ByteArray := prog_4_method_12_code
def yX2_rankByCharge : MethodName := ⟨RX2, "rankByCharge", "(I)I"⟩
abbrev cX2_bitsOf : ByteArray := prog_4_method_13_code
def yX2_bitsOf : MethodName := ⟨RX2, "bitsOf", "(I)I"⟩
abbrev cX2_strongestOf : ByteArray := prog_4_method_14_code
def yX2_strongestOf : MethodName := ⟨RX2, "strongestOf", "(I)I"⟩
abbrev cX2_aboveFloor : ByteArray := prog_4_method_15_code
def yX2_aboveFloor : MethodName := ⟨RX2, "aboveFloor", "(I)I"⟩
abbrev cX2_emptyGroups : ByteArray := prog_4_method_16_code
def yX2_emptyGroups : MethodName := ⟨RX2, "emptyGroups", "()I"⟩
abbrev cX2_bledCells : ByteArray := prog_4_method_17_code
def yX2_bledCells : MethodName := ⟨RX2, "bledCells", "()I"⟩
abbrev cX2_greatestCharge : ByteArray := prog_4_method_18_code
def yX2_greatestCharge : MethodName := ⟨RX2, "greatestCharge", "()I"⟩
abbrev cX2_runTicks : ByteArray := prog_4_method_19_code
def yX2_runTicks : MethodName := ⟨RX2, "runTicks", "(I)I"⟩
abbrev cX2_tickLoses : ByteArray := prog_4_method_20_code
def yX2_tickLoses : MethodName := ⟨RX2, "tickLoses", "()Z"⟩
abbrev cX2_strongestLoses : ByteArray := prog_4_method_21_code
def yX2_strongestLoses : MethodName := ⟨RX2, "strongestLoses", "(I)Z"⟩
def RX3 : String := "CellPacks$Sheet"
def TX3 : u_T := fun k => match k with
  | 0 => ("CellPacks$Sheet", "row", "[I", true)
  | 1 => ("CellPacks$Sheet", "lane", "I", false)
  | _ => ("CellPacks$Sheet", "size", "I", false)
def tyX3 : Nat → FieldType := fun k => match k with
  | 0 => .array .int
  | 1 => .int
  | _ => .int
abbrev wsX30 : List Cond := u_ws RX3 TX3 3
theorem nmX3 : ∀ a, a < 3 → ∀ b, b < 3 → a ≠ b → (TX3 a).2.1 ≠ (TX3 b).2.1 := by decide +kernel
theorem tyX3_ok : ∀ k, k < 3 → parseFieldDescriptor (TX3 k).2.2.1 = some (tyX3 k) := by decide +kernel
abbrev cX3_init : ByteArray := prog_5_method_1_code
def yX3_init : MethodName := ⟨RX3, "<init>", "()V"⟩
abbrev cX3_renew : ByteArray := prog_5_method_2_code
def yX3_renew : MethodName := ⟨RX3, "renew", "(II)V"⟩
abbrev cX3_putAt : ByteArray := prog_5_method_3_code
def yX3_putAt : MethodName := ⟨RX3, "putAt", "(II)I"⟩
abbrev cX3_wholePairs : ByteArray := prog_5_method_4_code
def yX3_wholePairs : MethodName := ⟨RX3, "wholePairs", "(III)I"⟩
abbrev cX3_faultAs : ByteArray := prog_5_method_5_code
def yX3_faultAs : MethodName := ⟨RX3, "faultAs", "(I)I"⟩
def RX4 : String := "CellPacks$Tape"
def TX4 : u_T := fun k => match k with
  | 0 => ("CellPacks$Tape", "bytes", "[B", true)
  | _ => ("CellPacks$Tape", "length", "I", false)
def tyX4 : Nat → FieldType := fun k => match k with
  | 0 => .array .byte
  | _ => .int
abbrev wsX40 : List Cond := u_ws RX4 TX4 2
theorem nmX4 : ∀ a, a < 2 → ∀ b, b < 2 → a ≠ b → (TX4 a).2.1 ≠ (TX4 b).2.1 := by decide +kernel
theorem tyX4_ok : ∀ k, k < 2 → parseFieldDescriptor (TX4 k).2.2.1 = some (tyX4 k) := by decide +kernel
abbrev cX4_init : ByteArray := prog_6_method_1_code
def yX4_init : MethodName := ⟨RX4, "<init>", "()V"⟩
abbrev cX4_byteAt : ByteArray := prog_6_method_2_code
def yX4_byteAt : MethodName := ⟨RX4, "byteAt", "(I)I"⟩
abbrev cX4_spells : ByteArray := prog_6_method_3_code
def yX4_spells : MethodName := ⟨RX4, "spells", "(Ljava/lang/String;II)Z"⟩
def RX5 : String := "CellPacks$TextReader"
def TX5 : u_T := fun k => match k with
  | 0 => ("CellPacks$TextReader", "tape", "LCellPacks$Tape;", true)
  | 1 => ("CellPacks$TextReader", "into", "LCellPacks$Pack;", true)
  | 2 => ("CellPacks$TextReader", "fault", "I", false)
  | 3 => ("CellPacks$TextReader", "place", "I", false)
  | 4 => ("CellPacks$TextReader", "kind", "I", false)
  | 5 => ("CellPacks$TextReader", "start", "I", false)
  | 6 => ("CellPacks$TextReader", "next", "I", false)
  | 7 => ("CellPacks$TextReader", "value", "I", false)
  | _ => ("CellPacks$TextReader", "met", "I", false)
def tyX5 : Nat → FieldType := fun k => match k with
  | 0 => .object "CellPacks$Tape"
  | 1 => .object "CellPacks$Pack"
  | 2 => .int
  | 3 => .int
  | 4 => .int
  | 5 => .int
  | 6 => .int
  | 7 => .int
  | _ => .int
abbrev wsX50 : List Cond := u_ws RX5 TX5 9
theorem nmX5 : ∀ a, a < 9 → ∀ b, b < 9 → a ≠ b → (TX5 a).2.1 ≠ (TX5 b).2.1 := by decide +kernel
theorem tyX5_ok : ∀ k, k < 9 → parseFieldDescriptor (TX5 k).2.2.1 = some (tyX5 k) := by decide +kernel
abbrev cX5_init : ByteArray := prog_7_method_1_code
def yX5_init : MethodName := ⟨RX5, "<init>", "(LCellPacks$Tape;LCellPacks$Pack;)V"⟩
abbrev cX5_readAll : ByteArray := prog_7_method_2_code
def yX5_readAll : MethodName := ⟨RX5, "readAll", "()V"⟩
abbrev cX5_readLine : ByteArray := prog_7_method_3_code
def yX5_readLine : MethodName := ⟨RX5, "readLine", "()Z"⟩
abbrev cX5_lineNamed : ByteArray := prog_7_method_4_code
def yX5_lineNamed : MethodName := ⟨RX5, "lineNamed", "()I"⟩
abbrev cX5_nameOf : ByteArray := prog_7_method_5_code
def yX5_nameOf : MethodName := ⟨RX5, "nameOf", "(I)Ljava/lang/String;"⟩
abbrev cX5_readSetting : ByteArray := prog_7_method_6_code
def yX5_readSetting : MethodName := ⟨RX5, "readSetting", "(I)Z"⟩
abbrev cX5_lowestOf : ByteArray := prog_7_method_7_code
def yX5_lowestOf : MethodName := ⟨RX5, "lowestOf", "(I)I"⟩
abbrev cX5_highestOf : ByteArray := prog_7_method_8_code
def yX5_highestOf : MethodName := ⟨RX5, "highestOf", "(I)I"⟩
abbrev cX5_putSetting : ByteArray := prog_7_method_9_code
def yX5_putSetting : MethodName := ⟨RX5, "putSetting", "(I)V"⟩
abbrev cX5_readCells : ByteArray := prog_7_method_10_code
def yX5_readCells : MethodName := ⟨RX5, "readCells", "()Z"⟩
abbrev cX5_nextToken : ByteArray := prog_7_method_11_code
def yX5_nextToken : MethodName := ⟨RX5, "nextToken", "()Z"⟩
abbrev cX5_passRun : ByteArray := prog_7_method_12_code
def yX5_passRun : MethodName := ⟨RX5, "passRun", "(II)V"⟩
abbrev cX5_takeValue : ByteArray := prog_7_method_13_code
def yX5_takeValue : MethodName := ⟨RX5, "takeValue", "()Z"⟩
abbrev cX5_fail : ByteArray := prog_7_method_14_code
def yX5_fail : MethodName := ⟨RX5, "fail", "(I)Z"⟩
def RX6 : String := "CellPacks$Ways"
def TX6 : u_T := fun k => match k with
  | 0 => ("CellPacks$Ways", "homes", "[I", true)
  | 1 => ("CellPacks$Ways", "sums", "[I", true)
  | 2 => ("CellPacks$Ways", "order", "[I", true)
  | 3 => ("CellPacks$Ways", "differences", "LCellPacks$Differences;", true)
  | _ => ("CellPacks$Ways", "best", "LCellPacks$BestSearch;", true)
def tyX6 : Nat → FieldType := fun k => match k with
  | 0 => .array .int
  | 1 => .array .int
  | 2 => .array .int
  | 3 => .object "CellPacks$Differences"
  | _ => .object "CellPacks$BestSearch"
abbrev wsX60 : List Cond := u_ws RX6 TX6 5
theorem nmX6 : ∀ a, a < 5 → ∀ b, b < 5 → a ≠ b → (TX6 a).2.1 ≠ (TX6 b).2.1 := by decide +kernel
theorem tyX6_ok : ∀ k, k < 5 → parseFieldDescriptor (TX6 k).2.2.1 = some (tyX6 k) := by decide +kernel
abbrev cX6_init : ByteArray := prog_8_method_1_code
def yX6_init : MethodName := ⟨RX6, "<init>", "()V"⟩
abbrev cX6_choose : ByteArray := prog_8_method_2_code
def yX6_choose : MethodName := ⟨RX6, "choose", "(LCellPacks$Pack;I)V"⟩
abbrev cX6_byTurns : ByteArray := prog_8_method_3_code
def yX6_byTurns : MethodName := ⟨RX6, "byTurns", "(LCellPacks$Pack;)V"⟩
abbrev cX6_byWeakest : ByteArray := prog_8_method_4_code
def yX6_byWeakest : MethodName := ⟨RX6, "byWeakest", "(LCellPacks$Pack;)V"⟩
abbrev cX6_leastSum : ByteArray := prog_8_method_5_code
def yX6_leastSum : MethodName := ⟨RX6, "leastSum", "(LCellPacks$Pack;)I"⟩
abbrev cX6_spread : ByteArray := prog_8_method_6_code
def yX6_spread : MethodName := ⟨RX6, "spread", "(LCellPacks$Pack;)I"⟩
abbrev cX6_strangers : ByteArray := prog_8_method_7_code
def yX6_strangers : MethodName := ⟨RX6, "strangers", "(LCellPacks$Pack;)I"⟩
def RX7 : String := "CellPacks"
def TX7 : u_T := fun k => match k with
  | 0 => ("CellPacks", "tape", "LCellPacks$Tape;", true)
  | 1 => ("CellPacks", "pack", "LCellPacks$Pack;", true)
  | 2 => ("CellPacks", "draft", "LCellPacks$Pack;", true)
  | 3 => ("CellPacks", "reader", "LCellPacks$TextReader;", true)
  | 4 => ("CellPacks", "images", "[LCellPacks$Pack;", true)
  | 5 => ("CellPacks", "kept", "[Z", true)
  | 6 => ("CellPacks", "ways", "LCellPacks$Ways;", true)
  | 7 => ("CellPacks", "sheets", "[LCellPacks$Sheet;", true)
  | 8 => ("CellPacks", "textFault", "I", false)
  | _ => ("CellPacks", "readFault", "I", false)
def tyX7 : Nat → FieldType := fun k => match k with
  | 0 => .object "CellPacks$Tape"
  | 1 => .object "CellPacks$Pack"
  | 2 => .object "CellPacks$Pack"
  | 3 => .object "CellPacks$TextReader"
  | 4 => .array (.object "CellPacks$Pack")
  | 5 => .array .boolean
  | 6 => .object "CellPacks$Ways"
  | 7 => .array (.object "CellPacks$Sheet")
  | 8 => .int
  | _ => .int
abbrev wsX70 : List Cond := u_ws RX7 TX7 10
theorem nmX7 : ∀ a, a < 10 → ∀ b, b < 10 → a ≠ b → (TX7 a).2.1 ≠ (TX7 b).2.1 := by decide +kernel
theorem tyX7_ok : ∀ k, k < 10 → parseFieldDescriptor (TX7 k).2.2.1 = some (tyX7 k) := by decide +kernel
abbrev cX7_init : ByteArray := prog_1_method_1_code
def yX7_init : MethodName := ⟨RX7, "<init>", "()V"⟩
abbrev cX7_feed : ByteArray := prog_1_method_2_code
def yX7_feed : MethodName := ⟨RX7, "feed", "(I)I"⟩
abbrev cX7_end : ByteArray := prog_1_method_3_code
def yX7_end : MethodName := ⟨RX7, "end", "(I)I"⟩
abbrev cX7_text : ByteArray := prog_1_method_4_code
def yX7_text : MethodName := ⟨RX7, "text", "()I"⟩
abbrev cX7_fault : ByteArray := prog_1_method_5_code
def yX7_fault : MethodName := ⟨RX7, "fault", "()I"⟩
abbrev cX7_rule : ByteArray := prog_1_method_6_code
def yX7_rule : MethodName := ⟨RX7, "rule", "(I)I"⟩
abbrev cX7_cell : ByteArray := prog_1_method_7_code
def yX7_cell : MethodName := ⟨RX7, "cell", "(II)I"⟩
abbrev cX7_group : ByteArray := prog_1_method_8_code
def yX7_group : MethodName := ⟨RX7, "group", "(II)I"⟩
abbrev cX7_take : ByteArray := prog_1_method_9_code
def yX7_take : MethodName := ⟨RX7, "take", "(I)I"⟩
abbrev cX7_would : ByteArray := prog_1_method_10_code
def yX7_would : MethodName := ⟨RX7, "would", "(II)I"⟩
abbrev cX7_where : ByteArray := prog_1_method_11_code
def yX7_where : MethodName := ⟨RX7, "where", "(II)I"⟩
abbrev cX7_bound : ByteArray := prog_1_method_12_code
def yX7_bound : MethodName := ⟨RX7, "bound", "(I)I"⟩
abbrev cX7_joined : ByteArray := prog_1_method_13_code
def yX7_joined : MethodName := ⟨RX7, "joined", "(I)I"⟩
abbrev cX7_move : ByteArray := prog_1_method_14_code
def yX7_move : MethodName := ⟨RX7, "move", "(II)I"⟩
abbrev cX7_swap : ByteArray := prog_1_method_15_code
def yX7_swap : MethodName := ⟨RX7, "swap", "(II)I"⟩
abbrev cX7_better : ByteArray := prog_1_method_16_code
def yX7_better : MethodName := ⟨RX7, "better", "()I"⟩
abbrev cX7_add : ByteArray := prog_1_method_17_code
def yX7_add : MethodName := ⟨RX7, "add", "(I)I"⟩
abbrev cX7_drop : ByteArray := prog_1_method_18_code
def yX7_drop : MethodName := ⟨RX7, "drop", "(I)I"⟩
abbrev cX7_set : ByteArray := prog_1_method_19_code
def yX7_set : MethodName := ⟨RX7, "set", "(II)I"⟩
abbrev cX7_rate : ByteArray := prog_1_method_20_code
def yX7_rate : MethodName := ⟨RX7, "rate", "(II)I"⟩
abbrev cX7_groups : ByteArray := prog_1_method_21_code
def yX7_groups : MethodName := ⟨RX7, "groups", "(I)I"⟩
abbrev cX7_bleed : ByteArray := prog_1_method_22_code
def yX7_bleed : MethodName := ⟨RX7, "bleed", "(I)I"⟩
abbrev cX7_plan : ByteArray := prog_1_method_23_code
def yX7_plan : MethodName := ⟨RX7, "plan", "(I)I"⟩
abbrev cX7_fill : ByteArray := prog_1_method_24_code
def yX7_fill : MethodName := ⟨RX7, "fill", "()I"⟩
abbrev cX7_draw : ByteArray := prog_1_method_25_code
def yX7_draw : MethodName := ⟨RX7, "draw", "(II)I"⟩
abbrev cX7_keep : ByteArray := prog_1_method_26_code
def yX7_keep : MethodName := ⟨RX7, "keep", "(I)I"⟩
abbrev cX7_back : ByteArray := prog_1_method_27_code
def yX7_back : MethodName := ⟨RX7, "back", "(I)I"⟩
abbrev cX7_sheet : ByteArray := prog_1_method_28_code
def yX7_sheet : MethodName := ⟨RX7, "sheet", "(III)I"⟩
abbrev cX7_lay : ByteArray := prog_1_method_29_code
def yX7_lay : MethodName := ⟨RX7, "lay", "(III)I"⟩
abbrev cX7_read : ByteArray := prog_1_method_30_code
def yX7_read : MethodName := ⟨RX7, "read", "(IIII)I"⟩
abbrev cX7_torn : ByteArray := prog_1_method_31_code
def yX7_torn : MethodName := ⟨RX7, "torn", "()I"⟩
abbrev cX7_count : ByteArray := prog_1_method_32_code
def yX7_count : MethodName := ⟨RX7, "count", "(I)I"⟩
abbrev cX7_within : ByteArray := prog_1_method_33_code
def yX7_within : MethodName := ⟨RX7, "within", "(III)Z"⟩
abbrev cX7_isCell : ByteArray := prog_1_method_34_code
def yX7_isCell : MethodName := ⟨RX7, "isCell", "(I)Z"⟩
abbrev cX7_isGroup : ByteArray := prog_1_method_35_code
def yX7_isGroup : MethodName := ⟨RX7, "isGroup", "(I)Z"⟩
abbrev cX7_isWay : ByteArray := prog_1_method_36_code
def yX7_isWay : MethodName := ⟨RX7, "isWay", "(I)Z"⟩
abbrev cX7_wayIsOpen : ByteArray := prog_1_method_37_code
def yX7_wayIsOpen : MethodName := ⟨RX7, "wayIsOpen", "(I)Z"⟩
abbrev cX7_isImage : ByteArray := prog_1_method_38_code
def yX7_isImage : MethodName := ⟨RX7, "isImage", "(I)Z"⟩
abbrev cX7_isSheet : ByteArray := prog_1_method_39_code
def yX7_isSheet : MethodName := ⟨RX7, "isSheet", "(I)Z"⟩
abbrev cX7_isLane : ByteArray := prog_1_method_40_code
def yX7_isLane : MethodName := ⟨RX7, "isLane", "(I)Z"⟩
abbrev cX7_regroup : ByteArray := prog_1_method_41_code
def yX7_regroup : MethodName := ⟨RX7, "regroup", "(I)V"⟩
abbrev cX7_waysThatReach : ByteArray := prog_1_method_42_code
def yX7_waysThatReach : MethodName := ⟨RX7, "waysThatReach", "(I)I"⟩
abbrev cX7_forgetImages : ByteArray := prog_1_method_43_code
def yX7_forgetImages : MethodName := ⟨RX7, "forgetImages", "()V"⟩
abbrev cX7_keptImages : ByteArray := prog_1_method_44_code
def yX7_keptImages : MethodName := ⟨RX7, "keptImages", "()I"⟩
abbrev cX7_total : ByteArray := prog_1_method_45_code
def yX7_total : MethodName := ⟨RX7, "total", "([II)I"⟩
abbrev cX7_sumUp : ByteArray := prog_1_method_46_code
def yX7_sumUp : MethodName := ⟨RX7, "sumUp", "([I[II[I)V"⟩
abbrev cX7_firstLeast : ByteArray := prog_1_method_47_code
def yX7_firstLeast : MethodName := ⟨RX7, "firstLeast", "([II)I"⟩
abbrev cX7_greatest : ByteArray := prog_1_method_48_code
def yX7_greatest : MethodName := ⟨RX7, "greatest", "([II)I"⟩
def RX8 : String := "CellPacksModel"
def TX8 : u_T := fun k => match k with
  | 0 => ("CellPacksModel", "st", "[I", true)
  | 1 => ("CellPacksModel", "kept", "[I", true)
  | 2 => ("CellPacksModel", "isKept", "[Z", true)
  | 3 => ("CellPacksModel", "before", "[I", true)
  | 4 => ("CellPacksModel", "draft", "[I", true)
  | 5 => ("CellPacksModel", "tape", "[I", true)
  | 6 => ("CellPacksModel", "isTold", "[Z", true)
  | 7 => ("CellPacksModel", "taped", "I", false)
  | 8 => ("CellPacksModel", "pos", "I", false)
  | 9 => ("CellPacksModel", "begun", "I", false)
  | 10 => ("CellPacksModel", "sort", "I", false)
  | 11 => ("CellPacksModel", "figure", "I", false)
  | 12 => ("CellPacksModel", "fault", "I", false)
  | 13 => ("CellPacksModel", "wrongAt", "I", false)
  | 14 => ("CellPacksModel", "sums", "[I", true)
  | 15 => ("CellPacksModel", "by", "[I", true)
  | 16 => ("CellPacksModel", "bundles", "[I", true)
  | 17 => ("CellPacksModel", "isPart", "[Z", true)
  | 18 => ("CellPacksModel", "joinedFirst", "[I", true)
  | 19 => ("CellPacksModel", "joinedSecond", "[I", true)
  | 20 => ("CellPacksModel", "bestBy", "[I", true)
  | 21 => ("CellPacksModel", "joinedMany", "I", false)
  | 22 => ("CellPacksModel", "lanes", "[I", true)
  | 23 => ("CellPacksModel", "sizes", "[I", true)
  | 24 => ("CellPacksModel", "cells", "[I", true)
  | _ => ("CellPacksModel", "torn", "I", false)
def tyX8 : Nat → FieldType := fun k => match k with
  | 0 => .array .int
  | 1 => .array .int
  | 2 => .array .boolean
  | 3 => .array .int
  | 4 => .array .int
  | 5 => .array .int
  | 6 => .array .boolean
  | 7 => .int
  | 8 => .int
  | 9 => .int
  | 10 => .int
  | 11 => .int
  | 12 => .int
  | 13 => .int
  | 14 => .array .int
  | 15 => .array .int
  | 16 => .array .int
  | 17 => .array .boolean
  | 18 => .array .int
  | 19 => .array .int
  | 20 => .array .int
  | 21 => .int
  | 22 => .array .int
  | 23 => .array .int
  | 24 => .array .int
  | _ => .int
abbrev wsX80 : List Cond := u_ws RX8 TX8 26
theorem nmX8 : ∀ a, a < 26 → ∀ b, b < 26 → a ≠ b → (TX8 a).2.1 ≠ (TX8 b).2.1 := by decide +kernel
theorem tyX8_ok : ∀ k, k < 26 → parseFieldDescriptor (TX8 k).2.2.1 = some (tyX8 k) := by decide +kernel
abbrev cX8_init : ByteArray := prog_10_method_1_code
def yX8_init : MethodName := ⟨RX8, "<init>", "()V"⟩
abbrev cX8_in : ByteArray := prog_10_method_3_code
def yX8_in : MethodName := ⟨RX8, "in", "(JJJ)Z"⟩
abbrev cX8_flag : ByteArray := prog_10_method_4_code
def yX8_flag : MethodName := ⟨RX8, "flag", "(Z)I"⟩
abbrev cX8_firstDraft : ByteArray := prog_10_method_5_code
def yX8_firstDraft : MethodName := ⟨RX8, "firstDraft", "()V"⟩
abbrev cX8_feed : ByteArray := prog_10_method_6_code
def yX8_feed : MethodName := ⟨RX8, "feed", "(I)I"⟩
abbrev cX8_end : ByteArray := prog_10_method_7_code
def yX8_end : MethodName := ⟨RX8, "end", "(I)I"⟩
abbrev cX8_requires : ByteArray := prog_10_method_8_code
def yX8_requires : MethodName := ⟨RX8, "requires", "(ZI)V"⟩
abbrev cX8_byteAt : ByteArray := prog_10_method_9_code
def yX8_byteAt : MethodName := ⟨RX8, "byteAt", "(I)I"⟩
abbrev cX8_is : ByteArray := prog_10_method_10_code
def yX8_is : MethodName := ⟨RX8, "is", "(IIIII)Z"⟩
abbrev cX8_lineNow : ByteArray := prog_10_method_11_code
def yX8_lineNow : MethodName := ⟨RX8, "lineNow", "()I"⟩
abbrev cX8_reads : ByteArray := prog_10_method_12_code
def yX8_reads : MethodName := ⟨RX8, "reads", "()V"⟩
abbrev cX8_leastOf : ByteArray := prog_10_method_13_code
def yX8_leastOf : MethodName := ⟨RX8, "leastOf", "(I)I"⟩
abbrev cX8_mostOf : ByteArray := prog_10_method_14_code
def yX8_mostOf : MethodName := ⟨RX8, "mostOf", "(I)I"⟩
abbrev cX8_readNumber : ByteArray := prog_10_method_15_code
def yX8_readNumber : MethodName := ⟨RX8, "readNumber", "(II)I"⟩
abbrev cX8_readCell : ByteArray := prog_10_method_16_code
def yX8_readCell : MethodName := ⟨RX8, "readCell", "()V"⟩
abbrev cX8_readLine : ByteArray := prog_10_method_17_code
def yX8_readLine : MethodName := ⟨RX8, "readLine", "()V"⟩
abbrev cX8_text : ByteArray := prog_10_method_18_code
def yX8_text : MethodName := ⟨RX8, "text", "()I"⟩
abbrev cX8_fault : ByteArray := prog_10_method_19_code
def yX8_fault : MethodName := ⟨RX8, "fault", "()I"⟩
abbrev cX8_isCell : ByteArray := prog_10_method_20_code
def yX8_isCell : MethodName := ⟨RX8, "isCell", "(I)Z"⟩
abbrev cX8_isGroup : ByteArray := prog_10_method_21_code
def yX8_isGroup : MethodName := ⟨RX8, "isGroup", "(I)Z"⟩
abbrev cX8_sumNow : ByteArray := prog_10_method_22_code
def yX8_sumNow : MethodName := ⟨RX8, "sumNow", "(I)V"⟩
abbrev cX8_sumFound : ByteArray := prog_10_method_23_code
def yX8_sumFound : MethodName := ⟨RX8, "sumFound", "()V"⟩
abbrev cX8_weakest : ByteArray := prog_10_method_24_code
def yX8_weakest : MethodName := ⟨RX8, "weakest", "()I"⟩
abbrev cX8_least : ByteArray := prog_10_method_25_code
def yX8_least : MethodName := ⟨RX8, "least", "()I"⟩
abbrev cX8_greatest : ByteArray := prog_10_method_26_code
def yX8_greatest : MethodName := ⟨RX8, "greatest", "()I"⟩
abbrev cX8_spreadNow : ByteArray := prog_10_method_27_code
def yX8_spreadNow : MethodName := ⟨RX8, "spreadNow", "()I"⟩
abbrev cX8_all : ByteArray := prog_10_method_28_code
def yX8_all : MethodName := ⟨RX8, "all", "(I)I"⟩
abbrev cX8_weakestNow : ByteArray := prog_10_method_29_code
def yX8_weakestNow : MethodName := ⟨RX8, "weakestNow", "()I"⟩
abbrev cX8_leastNow : ByteArray := prog_10_method_30_code
def yX8_leastNow : MethodName := ⟨RX8, "leastNow", "(I)I"⟩
abbrev cX8_rule : ByteArray := prog_10_method_31_code
def yX8_rule : MethodName := ⟨RX8, "rule", "(I)I"⟩
abbrev cX8_rankOf : ByteArray := prog_10_method_32_code
def yX8_rankOf : MethodName := ⟨RX8, "rankOf", "(I)I"⟩
abbrev cX8_cell : ByteArray := prog_10_method_33_code
def yX8_cell : MethodName := ⟨RX8, "cell", "(II)I"⟩
abbrev cX8_strongest : ByteArray := prog_10_method_34_code
def yX8_strongest : MethodName := ⟨RX8, "strongest", "(I)I"⟩
abbrev cX8_cellsOf : ByteArray := prog_10_method_35_code
def yX8_cellsOf : MethodName := ⟨RX8, "cellsOf", "(IZ)I"⟩
abbrev cX8_aboveFloor : ByteArray := prog_10_method_36_code
def yX8_aboveFloor : MethodName := ⟨RX8, "aboveFloor", "(I)I"⟩
abbrev cX8_sumOf : ByteArray := prog_10_method_37_code
def yX8_sumOf : MethodName := ⟨RX8, "sumOf", "(I)I"⟩
abbrev cX8_group : ByteArray := prog_10_method_38_code
def yX8_group : MethodName := ⟨RX8, "group", "(II)I"⟩
abbrev cX8_findTurns : ByteArray := prog_10_method_39_code
def yX8_findTurns : MethodName := ⟨RX8, "findTurns", "()V"⟩
abbrev cX8_findWeakest : ByteArray := prog_10_method_40_code
def yX8_findWeakest : MethodName := ⟨RX8, "findWeakest", "()V"⟩
abbrev cX8_holds : ByteArray := prog_10_method_41_code
def yX8_holds : MethodName := ⟨RX8, "holds", "(I)I"⟩
abbrev cX8_isAhead : ByteArray := prog_10_method_42_code
def yX8_isAhead : MethodName := ⟨RX8, "isAhead", "(II)Z"⟩
abbrev cX8_differenceOf : ByteArray := prog_10_method_43_code
def yX8_differenceOf : MethodName := ⟨RX8, "differenceOf", "(I)I"⟩
abbrev cX8_widest : ByteArray := prog_10_method_44_code
def yX8_widest : MethodName := ⟨RX8, "widest", "(I)I"⟩
abbrev cX8_order : ByteArray := prog_10_method_45_code
def yX8_order : MethodName := ⟨RX8, "order", "(I)V"⟩
abbrev cX8_join : ByteArray := prog_10_method_46_code
def yX8_join : MethodName := ⟨RX8, "join", "(II)V"⟩
abbrev cX8_findDifferences : ByteArray := prog_10_method_47_code
def yX8_findDifferences : MethodName := ⟨RX8, "findDifferences", "()V"⟩
abbrev cX8_steps : ByteArray := prog_10_method_48_code
def yX8_steps : MethodName := ⟨RX8, "steps", "()Z"⟩
abbrev cX8_findBest : ByteArray := prog_10_method_49_code
def yX8_findBest : MethodName := ⟨RX8, "findBest", "()V"⟩
abbrev cX8_find : ByteArray := prog_10_method_50_code
def yX8_find : MethodName := ⟨RX8, "find", "(I)V"⟩
abbrev cX8_takeFound : ByteArray := prog_10_method_51_code
def yX8_takeFound : MethodName := ⟨RX8, "takeFound", "()V"⟩
abbrev cX8_byTurns : ByteArray := prog_10_method_52_code
def yX8_byTurns : MethodName := ⟨RX8, "byTurns", "()V"⟩
abbrev cX8_isWay : ByteArray := prog_10_method_53_code
def yX8_isWay : MethodName := ⟨RX8, "isWay", "(I)Z"⟩
abbrev cX8_isTooMuch : ByteArray := prog_10_method_54_code
def yX8_isTooMuch : MethodName := ⟨RX8, "isTooMuch", "(I)Z"⟩
abbrev cX8_take : ByteArray := prog_10_method_55_code
def yX8_take : MethodName := ⟨RX8, "take", "(I)I"⟩
abbrev cX8_moved : ByteArray := prog_10_method_56_code
def yX8_moved : MethodName := ⟨RX8, "moved", "()I"⟩
abbrev cX8_would : ByteArray := prog_10_method_57_code
def yX8_would : MethodName := ⟨RX8, "would", "(II)I"⟩
abbrev cX8_where : ByteArray := prog_10_method_58_code
def yX8_where : MethodName := ⟨RX8, "where", "(II)I"⟩
abbrev cX8_boundNow : ByteArray := prog_10_method_59_code
def yX8_boundNow : MethodName := ⟨RX8, "boundNow", "()I"⟩
abbrev cX8_reaching : ByteArray := prog_10_method_60_code
def yX8_reaching : MethodName := ⟨RX8, "reaching", "()I"⟩
abbrev cX8_bound : ByteArray := prog_10_method_61_code
def yX8_bound : MethodName := ⟨RX8, "bound", "(I)I"⟩
abbrev cX8_joined : ByteArray := prog_10_method_62_code
def yX8_joined : MethodName := ⟨RX8, "joined", "(I)I"⟩
abbrev cX8_move : ByteArray := prog_10_method_63_code
def yX8_move : MethodName := ⟨RX8, "move", "(II)I"⟩
abbrev cX8_exchange : ByteArray := prog_10_method_64_code
def yX8_exchange : MethodName := ⟨RX8, "exchange", "(II)V"⟩
abbrev cX8_swap : ByteArray := prog_10_method_65_code
def yX8_swap : MethodName := ⟨RX8, "swap", "(II)I"⟩
abbrev cX8_better : ByteArray := prog_10_method_66_code
def yX8_better : MethodName := ⟨RX8, "better", "()I"⟩
abbrev cX8_comes : ByteArray := prog_10_method_67_code
def yX8_comes : MethodName := ⟨RX8, "comes", "(I)V"⟩
abbrev cX8_add : ByteArray := prog_10_method_68_code
def yX8_add : MethodName := ⟨RX8, "add", "(I)I"⟩
abbrev cX8_drop : ByteArray := prog_10_method_69_code
def yX8_drop : MethodName := ⟨RX8, "drop", "(I)I"⟩
abbrev cX8_set : ByteArray := prog_10_method_70_code
def yX8_set : MethodName := ⟨RX8, "set", "(II)I"⟩
abbrev cX8_rate : ByteArray := prog_10_method_71_code
def yX8_rate : MethodName := ⟨RX8, "rate", "(II)I"⟩
abbrev cX8_groups : ByteArray := prog_10_method_72_code
def yX8_groups : MethodName := ⟨RX8, "groups", "(I)I"⟩
abbrev cX8_ticks : ByteArray := prog_10_method_73_code
def yX8_ticks : MethodName := ⟨RX8, "ticks", "()Z"⟩
abbrev cX8_ticksOn : ByteArray := prog_10_method_74_code
def yX8_ticksOn : MethodName := ⟨RX8, "ticksOn", "(I)I"⟩
abbrev cX8_bleed : ByteArray := prog_10_method_75_code
def yX8_bleed : MethodName := ⟨RX8, "bleed", "(I)I"⟩
abbrev cX8_plan : ByteArray := prog_10_method_76_code
def yX8_plan : MethodName := ⟨RX8, "plan", "(I)I"⟩
abbrev cX8_fill : ByteArray := prog_10_method_77_code
def yX8_fill : MethodName := ⟨RX8, "fill", "()I"⟩
abbrev cX8_draw : ByteArray := prog_10_method_78_code
def yX8_draw : MethodName := ⟨RX8, "draw", "(II)I"⟩
abbrev cX8_keepBefore : ByteArray := prog_10_method_79_code
def yX8_keepBefore : MethodName := ⟨RX8, "keepBefore", "()V"⟩
abbrev cX8_backBefore : ByteArray := prog_10_method_80_code
def yX8_backBefore : MethodName := ⟨RX8, "backBefore", "()V"⟩
abbrev cX8_keep : ByteArray := prog_10_method_81_code
def yX8_keep : MethodName := ⟨RX8, "keep", "(I)I"⟩
abbrev cX8_back : ByteArray := prog_10_method_82_code
def yX8_back : MethodName := ⟨RX8, "back", "(I)I"⟩
abbrev cX8_isSheet : ByteArray := prog_10_method_83_code
def yX8_isSheet : MethodName := ⟨RX8, "isSheet", "(II)Z"⟩
abbrev cX8_sheet : ByteArray := prog_10_method_84_code
def yX8_sheet : MethodName := ⟨RX8, "sheet", "(III)I"⟩
abbrev cX8_lay : ByteArray := prog_10_method_85_code
def yX8_lay : MethodName := ⟨RX8, "lay", "(III)I"⟩
abbrev cX8_read : ByteArray := prog_10_method_86_code
def yX8_read : MethodName := ⟨RX8, "read", "(IIII)I"⟩
abbrev cX8_torn : ByteArray := prog_10_method_87_code
def yX8_torn : MethodName := ⟨RX8, "torn", "()I"⟩
abbrev cX8_emptyGroups : ByteArray := prog_10_method_88_code
def yX8_emptyGroups : MethodName := ⟨RX8, "emptyGroups", "()I"⟩
abbrev cX8_bledCells : ByteArray := prog_10_method_89_code
def yX8_bledCells : MethodName := ⟨RX8, "bledCells", "()I"⟩
abbrev cX8_greatestCharge : ByteArray := prog_10_method_90_code
def yX8_greatestCharge : MethodName := ⟨RX8, "greatestCharge", "()I"⟩
abbrev cX8_count : ByteArray := prog_10_method_91_code
def yX8_count : MethodName := ⟨RX8, "count", "(I)I"⟩
def RJx145de : String := "java/io/Serializable"
def TJx145de : u_T := fun k => match k with
  | _ => ("", "", "", false)
def tyJx145de : Nat → FieldType := fun k => match k with
  | _ => .int
abbrev wsJx145de0 : List Cond := u_ws RJx145de TJx145de 0
theorem nmJx145de : ∀ a, a < 0 → ∀ b, b < 0 → a ≠ b → (TJx145de a).2.1 ≠ (TJx145de b).2.1 := by decide +kernel
theorem tyJx145de_ok : ∀ k, k < 0 → parseFieldDescriptor (TJx145de k).2.2.1 = some (tyJx145de k) := by decide +kernel
def RJx9f9b0 : String := "java/lang/CharSequence"
def TJx9f9b0 : u_T := fun k => match k with
  | _ => ("", "", "", false)
def tyJx9f9b0 : Nat → FieldType := fun k => match k with
  | _ => .int
abbrev wsJx9f9b00 : List Cond := u_ws RJx9f9b0 TJx9f9b0 0
theorem nmJx9f9b0 : ∀ a, a < 0 → ∀ b, b < 0 → a ≠ b → (TJx9f9b0 a).2.1 ≠ (TJx9f9b0 b).2.1 := by decide +kernel
theorem tyJx9f9b0_ok : ∀ k, k < 0 → parseFieldDescriptor (TJx9f9b0 k).2.2.1 = some (tyJx9f9b0 k) := by decide +kernel
def RJxb160c : String := "java/lang/Comparable"
def TJxb160c : u_T := fun k => match k with
  | _ => ("", "", "", false)
def tyJxb160c : Nat → FieldType := fun k => match k with
  | _ => .int
abbrev wsJxb160c0 : List Cond := u_ws RJxb160c TJxb160c 0
theorem nmJxb160c : ∀ a, a < 0 → ∀ b, b < 0 → a ≠ b → (TJxb160c a).2.1 ≠ (TJxb160c b).2.1 := by decide +kernel
theorem tyJxb160c_ok : ∀ k, k < 0 → parseFieldDescriptor (TJxb160c k).2.2.1 = some (tyJxb160c k) := by decide +kernel
def RJ6 : String := "java/lang/Integer"
def TJ6 : u_T := fun k => match k with
  | _ => ("", "", "", false)
def tyJ6 : Nat → FieldType := fun k => match k with
  | _ => .int
abbrev wsJ60 : List Cond := u_ws RJ6 TJ6 0
theorem nmJ6 : ∀ a, a < 0 → ∀ b, b < 0 → a ≠ b → (TJ6 a).2.1 ≠ (TJ6 b).2.1 := by decide +kernel
theorem tyJ6_ok : ∀ k, k < 0 → parseFieldDescriptor (TJ6 k).2.2.1 = some (tyJ6 k) := by decide +kernel
abbrev cJ6_bitCount_0f7a4 : ByteArray := prog_11_method_49_code
def yJ6_bitCount_0f7a4 : MethodName := ⟨RJ6, "bitCount", "(I)I"⟩
def RJ9 : String := "java/lang/Math"
def TJ9 : u_T := fun k => match k with
  | _ => ("", "", "", false)
def tyJ9 : Nat → FieldType := fun k => match k with
  | _ => .int
abbrev wsJ90 : List Cond := u_ws RJ9 TJ9 0
theorem nmJ9 : ∀ a, a < 0 → ∀ b, b < 0 → a ≠ b → (TJ9 a).2.1 ≠ (TJ9 b).2.1 := by decide +kernel
theorem tyJ9_ok : ∀ k, k < 0 → parseFieldDescriptor (TJ9 k).2.2.1 = some (tyJ9 k) := by decide +kernel
abbrev cJ9_max_7cf53 : ByteArray := prog_12_method_65_code
def yJ9_max_7cf53 : MethodName := ⟨RJ9, "max", "(II)I"⟩
abbrev cJ9_min_7cf53 : ByteArray := prog_12_method_69_code
def yJ9_min_7cf53 : MethodName := ⟨RJ9, "min", "(II)I"⟩
def RJ0 : String := "java/lang/String"
def TJ0 : u_T := fun k => match k with
  | _ => ("", "", "", false)
def tyJ0 : Nat → FieldType := fun k => match k with
  | _ => .int
abbrev wsJ00 : List Cond := u_ws RJ0 TJ0 0
theorem nmJ0 : ∀ a, a < 0 → ∀ b, b < 0 → a ≠ b → (TJ0 a).2.1 ≠ (TJ0 b).2.1 := by decide +kernel
theorem tyJ0_ok : ∀ k, k < 0 → parseFieldDescriptor (TJ0 k).2.2.1 = some (tyJ0 k) := by decide +kernel
abbrev cJ0_length_8abf5 : ByteArray := prog_13_method_54_code
def yJ0_length_8abf5 : MethodName := ⟨RJ0, "length", "()I"⟩
abbrev cJ0_charAt_5068e : ByteArray := prog_13_method_56_code
def yJ0_charAt_5068e : MethodName := ⟨RJ0, "charAt", "(I)C"⟩
abbrev cJ0_coder_7d493 : ByteArray := prog_13_method_152_code
def yJ0_coder_7d493 : MethodName := ⟨RJ0, "coder", "()B"⟩
abbrev cJ0_isLatin1_aae02 : ByteArray := prog_13_method_154_code
def yJ0_isLatin1_aae02 : MethodName := ⟨RJ0, "isLatin1", "()Z"⟩
abbrev cJ0_checkIndex_df160 : ByteArray := prog_13_method_155_code
def yJ0_checkIndex_df160 : MethodName := ⟨RJ0, "checkIndex", "(II)V"⟩
def RJ1 : String := "java/lang/StringLatin1"
def TJ1 : u_T := fun k => match k with
  | _ => ("", "", "", false)
def tyJ1 : Nat → FieldType := fun k => match k with
  | _ => .int
abbrev wsJ10 : List Cond := u_ws RJ1 TJ1 0
theorem nmJ1 : ∀ a, a < 0 → ∀ b, b < 0 → a ≠ b → (TJ1 a).2.1 ≠ (TJ1 b).2.1 := by decide +kernel
theorem tyJ1_ok : ∀ k, k < 0 → parseFieldDescriptor (TJ1 k).2.2.1 = some (tyJ1 k) := by decide +kernel
abbrev cJ1_charAt_3b067 : ByteArray := prog_14_method_2_code
def yJ1_charAt_3b067 : MethodName := ⟨RJ1, "charAt", "([BI)C"⟩
def RJ2 : String := "java/lang/StringUTF16"
def TJ2 : u_T := fun k => match k with
  | _ => ("", "", "", false)
def tyJ2 : Nat → FieldType := fun k => match k with
  | _ => .int
abbrev wsJ20 : List Cond := u_ws RJ2 TJ2 0
theorem nmJ2 : ∀ a, a < 0 → ∀ b, b < 0 → a ≠ b → (TJ2 a).2.1 ≠ (TJ2 b).2.1 := by decide +kernel
theorem tyJ2_ok : ∀ k, k < 0 → parseFieldDescriptor (TJ2 k).2.2.1 = some (tyJ2 k) := by decide +kernel
abbrev cJ2_getChar_3b067 : ByteArray := prog_15_method_5_code
def yJ2_getChar_3b067 : MethodName := ⟨RJ2, "getChar", "([BI)C"⟩
abbrev cJ2_length_9d52b : ByteArray := prog_15_method_6_code
def yJ2_length_9d52b : MethodName := ⟨RJ2, "length", "([B)I"⟩
abbrev cJ2_charAt_3b067 : ByteArray := prog_15_method_83_code
def yJ2_charAt_3b067 : MethodName := ⟨RJ2, "charAt", "([BI)C"⟩
abbrev cJ2_checkIndex_2214a : ByteArray := prog_15_method_91_code
def yJ2_checkIndex_2214a : MethodName := ⟨RJ2, "checkIndex", "(I[B)V"⟩
def RJ10 : String := "java/lang/System"
def TJ10 : u_T := fun k => match k with
  | _ => ("", "", "", false)
def tyJ10 : Nat → FieldType := fun k => match k with
  | _ => .int
abbrev wsJ100 : List Cond := u_ws RJ10 TJ10 0
theorem nmJ10 : ∀ a, a < 0 → ∀ b, b < 0 → a ≠ b → (TJ10 a).2.1 ≠ (TJ10 b).2.1 := by decide +kernel
theorem tyJ10_ok : ∀ k, k < 0 → parseFieldDescriptor (TJ10 k).2.2.1 = some (tyJ10 k) := by decide +kernel
def RJxfd54e : String := "java/lang/constant/Constable"
def TJxfd54e : u_T := fun k => match k with
  | _ => ("", "", "", false)
def tyJxfd54e : Nat → FieldType := fun k => match k with
  | _ => .int
abbrev wsJxfd54e0 : List Cond := u_ws RJxfd54e TJxfd54e 0
theorem nmJxfd54e : ∀ a, a < 0 → ∀ b, b < 0 → a ≠ b → (TJxfd54e a).2.1 ≠ (TJxfd54e b).2.1 := by decide +kernel
theorem tyJxfd54e_ok : ∀ k, k < 0 → parseFieldDescriptor (TJxfd54e k).2.2.1 = some (tyJxfd54e k) := by decide +kernel
def RJx3cf43 : String := "java/lang/constant/ConstantDesc"
def TJx3cf43 : u_T := fun k => match k with
  | _ => ("", "", "", false)
def tyJx3cf43 : Nat → FieldType := fun k => match k with
  | _ => .int
abbrev wsJx3cf430 : List Cond := u_ws RJx3cf43 TJx3cf43 0
theorem nmJx3cf43 : ∀ a, a < 0 → ∀ b, b < 0 → a ≠ b → (TJx3cf43 a).2.1 ≠ (TJx3cf43 b).2.1 := by decide +kernel
theorem tyJx3cf43_ok : ∀ k, k < 0 → parseFieldDescriptor (TJx3cf43 k).2.2.1 = some (tyJx3cf43 k) := by decide +kernel
def RJ7 : String := "java/util/Arrays"
def TJ7 : u_T := fun k => match k with
  | _ => ("", "", "", false)
def tyJ7 : Nat → FieldType := fun k => match k with
  | _ => .int
abbrev wsJ70 : List Cond := u_ws RJ7 TJ7 0
theorem nmJ7 : ∀ a, a < 0 → ∀ b, b < 0 → a ≠ b → (TJ7 a).2.1 ≠ (TJ7 b).2.1 := by decide +kernel
theorem tyJ7_ok : ∀ k, k < 0 → parseFieldDescriptor (TJ7 k).2.2.1 = some (tyJ7 k) := by decide +kernel
abbrev cJ7_fill_53178 : ByteArray := prog_17_method_103_code
def yJ7_fill_53178 : MethodName := ⟨RJ7, "fill", "([II)V"⟩
def RJ3 : String := "jdk/internal/util/Preconditions"
def TJ3 : u_T := fun k => match k with
  | _ => ("", "", "", false)
def tyJ3 : Nat → FieldType := fun k => match k with
  | _ => .int
abbrev wsJ30 : List Cond := u_ws RJ3 TJ3 0
theorem nmJ3 : ∀ a, a < 0 → ∀ b, b < 0 → a ≠ b → (TJ3 a).2.1 ≠ (TJ3 b).2.1 := by decide +kernel
theorem tyJ3_ok : ∀ k, k < 0 → parseFieldDescriptor (TJ3 k).2.2.1 = some (tyJ3 k) := by decide +kernel
abbrev cJ3_checkIndex_8e157 : ByteArray := prog_18_method_11_code
def yJ3_checkIndex_8e157 : MethodName := ⟨RJ3, "checkIndex", "(IILjava/util/function/BiFunction;)I"⟩
def RL : String := "CellPacksLaw"
abbrev cL_law : ByteArray := code
def yL_law : MethodName := ⟨RL, "law", "([I)Z"⟩
abbrev vwCl : List vw_C := [(RX0, TX0, 5), (RX1, TX1, 7), (RX2, TX2, 9), (RX3, TX3, 3), (RX4, TX4, 2), (RX5, TX5, 9), (RX6, TX6, 5), (RX7, TX7, 10), (RX8, TX8, 26)]
